set_option maxHeartbeats 4000000 in
set_option maxRecDepth 100000 in
theorem d_X7_isKind {g : wG} (hD : wD g) {S : wSt} {a : Int} (ha : -2147483648 ≤ a ∧ a ≤ 2147483647) (l : Launch) : Kt l yX7_isKind wsX7_isKind ({ frames := 0, cells := 0, slots := 0, locals := 0 } : Room) g S [vi a] (pI (fun r S' => r = bz (0 ≤ a ∧ a < 3) ∧ S' = S)) := by
  refine Kt.of (cc := cX7_isKind) (nL := 1) (ret := (some .boolean)) (own := RX7) rfl hD (by decide) rfl (Nat.le_of_ble_eq_true rfl) ⟨rfl, rfl⟩ ?_
  intro E hC hR9
  show Wk E g 1 S 0 [(0, vi a)] []
  refine kw_iload_n hC dX7_isKind_0 rfl 0 rfl ?_
  refine kw_if_lt (tgt := 13) hC dX7_isKind_1 rfl (by decide) (by omega) ⟨fun c1 => ?_, fun c1 => ?_⟩
  · refine kw_iconst hC dX7_isKind_13 rfl ?_
    exact hR9.2.1 rfl _ _ _ _ dX7_isKind_14 (by omega) ⟨_, rfl, by first | exact (bz_t (by omega)).symm | exact (bz_f (by omega)).symm, rfl⟩
  · refine kw_iload_n hC dX7_isKind_4 rfl 0 rfl ?_
    refine kw_iconst hC dX7_isKind_5 rfl ?_
    refine kw_icmp_ge (tgt := 13) hC dX7_isKind_6 rfl (by decide) (by omega) (by omega) ⟨fun c6 => ?_, fun c6 => ?_⟩
    · refine kw_iconst hC dX7_isKind_13 rfl ?_
      exact hR9.2.1 rfl _ _ _ _ dX7_isKind_14 (by omega) ⟨_, rfl, by first | exact (bz_t (by omega)).symm | exact (bz_f (by omega)).symm, rfl⟩
    · refine kw_iconst hC dX7_isKind_9 rfl ?_
      refine kw_goto (tgt := 14) hC dX7_isKind_10 rfl (by decide) ?_
      exact hR9.2.1 rfl _ _ _ _ dX7_isKind_14 (by omega) ⟨_, rfl, by first | exact (bz_t (by omega)).symm | exact (bz_f (by omega)).symm, rfl⟩

set_option maxHeartbeats 4000000 in
set_option maxRecDepth 100000 in
theorem d_X7_isSlot {g : wG} (hD : wD g) {S : wSt} {a : Int} (ha : -2147483648 ≤ a ∧ a ≤ 2147483647) (l : Launch) : Kt l yX7_isSlot wsX7_isSlot ({ frames := 0, cells := 0, slots := 0, locals := 0 } : Room) g S [vi a] (pI (fun r S' => r = bz (0 ≤ a ∧ a < 8) ∧ S' = S)) := by
  refine Kt.of (cc := cX7_isSlot) (nL := 1) (ret := (some .boolean)) (own := RX7) rfl hD (by decide) rfl (Nat.le_of_ble_eq_true rfl) ⟨rfl, rfl⟩ ?_
  intro E hC hR9
  show Wk E g 1 S 0 [(0, vi a)] []
  refine kw_iload_n hC dX7_isSlot_0 rfl 0 rfl ?_
  refine kw_if_lt (tgt := 14) hC dX7_isSlot_1 rfl (by decide) (by omega) ⟨fun c1 => ?_, fun c1 => ?_⟩
  · refine kw_iconst hC dX7_isSlot_14 rfl ?_
    exact hR9.2.1 rfl _ _ _ _ dX7_isSlot_15 (by omega) ⟨_, rfl, by first | exact (bz_t (by omega)).symm | exact (bz_f (by omega)).symm, rfl⟩
  · refine kw_iload_n hC dX7_isSlot_4 rfl 0 rfl ?_
    refine kw_bipush hC dX7_isSlot_5 rfl (by decide) ?_
    refine kw_icmp_ge (tgt := 14) hC dX7_isSlot_7 rfl (by decide) (by omega) (by omega) ⟨fun c7 => ?_, fun c7 => ?_⟩
    · refine kw_iconst hC dX7_isSlot_14 rfl ?_
      exact hR9.2.1 rfl _ _ _ _ dX7_isSlot_15 (by omega) ⟨_, rfl, by first | exact (bz_t (by omega)).symm | exact (bz_f (by omega)).symm, rfl⟩
    · refine kw_iconst hC dX7_isSlot_10 rfl ?_
      refine kw_goto (tgt := 15) hC dX7_isSlot_11 rfl (by decide) ?_
      exact hR9.2.1 rfl _ _ _ _ dX7_isSlot_15 (by omega) ⟨_, rfl, by first | exact (bz_t (by omega)).symm | exact (bz_f (by omega)).symm, rfl⟩

set_option maxHeartbeats 4000000 in
set_option maxRecDepth 100000 in
theorem d_X7_isLeaf {g : wG} (hD : wD g) {S : wSt} {a : Int} (ha : -2147483648 ≤ a ∧ a ≤ 2147483647) (l : Launch) : Kt l yX7_isLeaf wsX7_isLeaf ({ frames := 0, cells := 0, slots := 0, locals := 0 } : Room) g S [vi a] (pI (fun r S' => r = bz (0 ≤ a ∧ a < 4) ∧ S' = S)) := by
  refine Kt.of (cc := cX7_isLeaf) (nL := 1) (ret := (some .boolean)) (own := RX7) rfl hD (by decide) rfl (Nat.le_of_ble_eq_true rfl) ⟨rfl, rfl⟩ ?_
  intro E hC hR9
  show Wk E g 1 S 0 [(0, vi a)] []
  refine kw_iload_n hC dX7_isLeaf_0 rfl 0 rfl ?_
  refine kw_if_lt (tgt := 13) hC dX7_isLeaf_1 rfl (by decide) (by omega) ⟨fun c1 => ?_, fun c1 => ?_⟩
  · refine kw_iconst hC dX7_isLeaf_13 rfl ?_
    exact hR9.2.1 rfl _ _ _ _ dX7_isLeaf_14 (by omega) ⟨_, rfl, by first | exact (bz_t (by omega)).symm | exact (bz_f (by omega)).symm, rfl⟩
  · refine kw_iload_n hC dX7_isLeaf_4 rfl 0 rfl ?_
    refine kw_iconst hC dX7_isLeaf_5 rfl ?_
    refine kw_icmp_ge (tgt := 13) hC dX7_isLeaf_6 rfl (by decide) (by omega) (by omega) ⟨fun c6 => ?_, fun c6 => ?_⟩
    · refine kw_iconst hC dX7_isLeaf_13 rfl ?_
      exact hR9.2.1 rfl _ _ _ _ dX7_isLeaf_14 (by omega) ⟨_, rfl, by first | exact (bz_t (by omega)).symm | exact (bz_f (by omega)).symm, rfl⟩
    · refine kw_iconst hC dX7_isLeaf_9 rfl ?_
      refine kw_goto (tgt := 14) hC dX7_isLeaf_10 rfl (by decide) ?_
      exact hR9.2.1 rfl _ _ _ _ dX7_isLeaf_14 (by omega) ⟨_, rfl, by first | exact (bz_t (by omega)).symm | exact (bz_f (by omega)).symm, rfl⟩

set_option maxHeartbeats 4000000 in
set_option maxRecDepth 100000 in
theorem d_X7_isLane {g : wG} (hD : wD g) {S : wSt} {a : Int} (ha : -2147483648 ≤ a ∧ a ≤ 2147483647) (l : Launch) : Kt l yX7_isLane wsX7_isLane ({ frames := 0, cells := 0, slots := 0, locals := 0 } : Room) g S [vi a] (pI (fun r S' => r = bz (0 ≤ a ∧ a < 3) ∧ S' = S)) := by
  refine Kt.of (cc := cX7_isLane) (nL := 1) (ret := (some .boolean)) (own := RX7) rfl hD (by decide) rfl (Nat.le_of_ble_eq_true rfl) ⟨rfl, rfl⟩ ?_
  intro E hC hR9
  show Wk E g 1 S 0 [(0, vi a)] []
  refine kw_iload_n hC dX7_isLane_0 rfl 0 rfl ?_
  refine kw_if_lt (tgt := 13) hC dX7_isLane_1 rfl (by decide) (by omega) ⟨fun c1 => ?_, fun c1 => ?_⟩
  · refine kw_iconst hC dX7_isLane_13 rfl ?_
    exact hR9.2.1 rfl _ _ _ _ dX7_isLane_14 (by omega) ⟨_, rfl, by first | exact (bz_t (by omega)).symm | exact (bz_f (by omega)).symm, rfl⟩
  · refine kw_iload_n hC dX7_isLane_4 rfl 0 rfl ?_
    refine kw_iconst hC dX7_isLane_5 rfl ?_
    refine kw_icmp_ge (tgt := 13) hC dX7_isLane_6 rfl (by decide) (by omega) (by omega) ⟨fun c6 => ?_, fun c6 => ?_⟩
    · refine kw_iconst hC dX7_isLane_13 rfl ?_
      exact hR9.2.1 rfl _ _ _ _ dX7_isLane_14 (by omega) ⟨_, rfl, by first | exact (bz_t (by omega)).symm | exact (bz_f (by omega)).symm, rfl⟩
    · refine kw_iconst hC dX7_isLane_9 rfl ?_
      refine kw_goto (tgt := 14) hC dX7_isLane_10 rfl (by decide) ?_
      exact hR9.2.1 rfl _ _ _ _ dX7_isLane_14 (by omega) ⟨_, rfl, by first | exact (bz_t (by omega)).symm | exact (bz_f (by omega)).symm, rfl⟩

set_option maxHeartbeats 4000000 in
set_option maxRecDepth 100000 in
theorem d_X3_has {g : wG} (hD : wD g) {S : wSt} {p a : Int} (p0 : 0 ≤ p) (p1 : p < 17) (ha : -2147483648 ≤ a ∧ a ≤ 2147483647) (s0 : 0 ≤ S 3 p 2) (s1 : S 3 p 2 ≤ 6) (l : Launch) : Kt l yX3_has wsX3_has ({ frames := 0, cells := 0, slots := 0, locals := 0 } : Room) g S [vr g 3 p, vi a] (pI (fun r S' => r = bz (0 ≤ a ∧ a < S 3 p 2) ∧ S' = S)) := by
  refine Kt.of (cc := cX3_has) (nL := 2) (ret := (some .boolean)) (own := RX3) rfl hD (by decide) rfl (Nat.le_of_ble_eq_true rfl) ⟨rfl, rfl⟩ ?_
  intro E hC hR9
  have f18 : Cond.fieldLink RX3 18 "MirrorBench$Mirrors" "size" "I" ∈ wsX3_has := by decide +kernel
  have w3 : ∀ w ∈ wsX30, w ∈ wsX3_has := by decide +kernel
  show Wk E g 2 S 0 [(0, vr g 3 p), (1, vi a)] []
  refine kw_iload_n hC dX3_has_0 rfl 1 rfl ?_
  refine kw_if_lt (tgt := 16) hC dX3_has_1 rfl (by decide) (by omega) ⟨fun c1 => ?_, fun c1 => ?_⟩
  · refine kw_iconst hC dX3_has_16 rfl ?_
    exact hR9.2.1 rfl _ _ _ _ dX3_has_17 (by omega) ⟨_, rfl, by first | exact (bz_t (by omega)).symm | exact (bz_f (by omega)).symm, rfl⟩
  · refine kw_iload_n hC dX3_has_4 rfl 1 rfl ?_
    refine kw_aload_n hC dX3_has_5 rfl 0 rfl ?_
    refine kg_3_2 hC w3 f18 dX3_has_6 rfl (by omega) (by omega) ?_
    refine kw_icmp_ge (tgt := 16) hC dX3_has_9 rfl (by decide) (by omega) (by omega) ⟨fun c9 => ?_, fun c9 => ?_⟩
    · refine kw_iconst hC dX3_has_16 rfl ?_
      exact hR9.2.1 rfl _ _ _ _ dX3_has_17 (by omega) ⟨_, rfl, by first | exact (bz_t (by omega)).symm | exact (bz_f (by omega)).symm, rfl⟩
    · refine kw_iconst hC dX3_has_12 rfl ?_
      refine kw_goto (tgt := 17) hC dX3_has_13 rfl (by decide) ?_
      exact hR9.2.1 rfl _ _ _ _ dX3_has_17 (by omega) ⟨_, rfl, by first | exact (bz_t (by omega)).symm | exact (bz_f (by omega)).symm, rfl⟩

set_option maxHeartbeats 4000000 in
set_option maxRecDepth 100000 in
theorem d_X2_find {g : wG} (hD : wD g) {S : wSt} {p a : Int} (p0 : 0 ≤ p) (p1 : p < 4) (ha : -2147483648 ≤ a ∧ a ≤ 2147483647) (hh : S 6 p 1 = 0 ∨ S 6 p 1 = 1) (l0 : 0 ≤ S 6 p 2) (l1 : S 6 p 2 ≤ 2) (l : Launch) : Kt l yX2_find wsX2_find ({ frames := 0, cells := 0, slots := 0, locals := 0 } : Room) g S [vr g 6 p, vi a] (pI (fun r S' => r = (if S 6 p 1 = 0 then -11 else if S 6 p 2 = a then 0 else -12) ∧ S' = S)) := by
  refine Kt.of (cc := cX2_find) (nL := 2) (ret := (some .int)) (own := RX2) rfl hD (by decide) rfl (Nat.le_of_ble_eq_true rfl) ⟨rfl, rfl⟩ ?_
  intro E hC hR9
  have f21 : Cond.fieldLink RX2 21 "MirrorBench$Leaf" "held" "Z" ∈ wsX2_find := by decide +kernel
  have f25 : Cond.fieldLink RX2 25 "MirrorBench$Leaf" "lane" "I" ∈ wsX2_find := by decide +kernel
  have w2 : ∀ w ∈ wsX20, w ∈ wsX2_find := by decide +kernel
  show Wk E g 2 S 0 [(0, vr g 6 p), (1, vi a)] []
  refine kw_aload_n hC dX2_find_0 rfl 0 rfl ?_
  refine kg_6_1 hC w2 f21 dX2_find_1 rfl (by omega) (by omega) ?_
  refine kw_if_ne (tgt := 10) hC dX2_find_4 rfl (by decide) (by omega) ⟨fun c4 => ?_, fun c4 => ?_⟩
  · refine kw_aload_n hC dX2_find_10 rfl 0 rfl ?_
    refine kg_6_2 hC w2 f25 dX2_find_11 rfl (by omega) (by omega) ?_
    refine kw_iload_n hC dX2_find_14 rfl 1 rfl ?_
    refine kw_icmp_ne (tgt := 22) hC dX2_find_15 rfl (by decide) (by omega) (by omega) ⟨fun c15 => ?_, fun c15 => ?_⟩
    · refine kw_bipush hC dX2_find_22 rfl (by decide) ?_
      exact hR9.1 rfl _ _ _ _ dX2_find_24 ⟨_, rfl, by (repeat' split) <;> omega, rfl⟩
    · refine kw_iconst hC dX2_find_18 rfl ?_
      refine kw_goto (tgt := 24) hC dX2_find_19 rfl (by decide) ?_
      exact hR9.1 rfl _ _ _ _ dX2_find_24 ⟨_, rfl, by (repeat' split) <;> omega, rfl⟩
  · refine kw_bipush hC dX2_find_7 rfl (by decide) ?_
    exact hR9.1 rfl _ _ _ _ dX2_find_9 ⟨_, rfl, by (repeat' split) <;> omega, rfl⟩

set_option maxHeartbeats 4000000 in
set_option maxRecDepth 100000 in
theorem d_X2_hasItems {g : wG} (hD : wD g) {S : wSt} {p a b : Int} (p0 : 0 ≤ p) (p1 : p < 4) (ha : -2147483648 ≤ a ∧ a ≤ 2147483647) (hb : -2147483648 ≤ b ∧ b ≤ 2147483647) (l0 : 0 ≤ S 6 p 3) (l1 : S 6 p 3 ≤ 40) (l : Launch) : Kt l yX2_hasItems wsX2_hasItems ({ frames := 0, cells := 0, slots := 0, locals := 0 } : Room) g S [vr g 6 p, vi a, vi b] (pI (fun r S' => r = bz (0 ≤ b ∧ 0 ≤ a ∧ a + b ≤ S 6 p 3) ∧ S' = S)) := by
  refine Kt.of (cc := cX2_hasItems) (nL := 3) (ret := (some .boolean)) (own := RX2) rfl hD (by decide) rfl (Nat.le_of_ble_eq_true rfl) ⟨rfl, rfl⟩ ?_
  intro E hC hR9
  have f29 : Cond.fieldLink RX2 29 "MirrorBench$Leaf" "length" "I" ∈ wsX2_hasItems := by decide +kernel
  have w2 : ∀ w ∈ wsX20, w ∈ wsX2_hasItems := by decide +kernel
  show Wk E g 3 S 0 [(0, vr g 6 p), (1, vi a), (2, vi b)] []
  refine kw_iload_n hC dX2_hasItems_0 rfl 1 rfl ?_
  refine kw_if_lt (tgt := 30) hC dX2_hasItems_1 rfl (by decide) (by omega) ⟨fun c1 => ?_, fun c1 => ?_⟩
  · refine kw_iconst hC dX2_hasItems_30 rfl ?_
    exact hR9.2.1 rfl _ _ _ _ dX2_hasItems_31 (by omega) ⟨_, rfl, by first | exact (bz_t (by omega)).symm | exact (bz_f (by omega)).symm, rfl⟩
  · refine kw_iload_n hC dX2_hasItems_4 rfl 2 rfl ?_
    refine kw_if_lt (tgt := 30) hC dX2_hasItems_5 rfl (by decide) (by omega) ⟨fun c5 => ?_, fun c5 => ?_⟩
    · refine kw_iconst hC dX2_hasItems_30 rfl ?_
      exact hR9.2.1 rfl _ _ _ _ dX2_hasItems_31 (by omega) ⟨_, rfl, by first | exact (bz_t (by omega)).symm | exact (bz_f (by omega)).symm, rfl⟩
    · refine kw_iload_n hC dX2_hasItems_8 rfl 1 rfl ?_
      refine kw_aload_n hC dX2_hasItems_9 rfl 0 rfl ?_
      refine kg_6_3 hC w2 f29 dX2_hasItems_10 rfl (by omega) (by omega) ?_
      refine kw_icmp_gt (tgt := 30) hC dX2_hasItems_13 rfl (by decide) (by omega) (by omega) ⟨fun c13 => ?_, fun c13 => ?_⟩
      · refine kw_iconst hC dX2_hasItems_30 rfl ?_
        exact hR9.2.1 rfl _ _ _ _ dX2_hasItems_31 (by omega) ⟨_, rfl, by first | exact (bz_t (by omega)).symm | exact (bz_f (by omega)).symm, rfl⟩
      · refine kw_iload_n hC dX2_hasItems_16 rfl 2 rfl ?_
        refine kw_aload_n hC dX2_hasItems_17 rfl 0 rfl ?_
        refine kg_6_3 hC w2 f29 dX2_hasItems_18 rfl (by omega) (by omega) ?_
        refine kw_iload_n hC dX2_hasItems_21 rfl 1 rfl ?_
        refine kw_isub hC dX2_hasItems_22 rfl ?_
        refine kw_icmp_gt (tgt := 30) hC dX2_hasItems_23 rfl (by decide) (by omega) (by omega) ⟨fun c23 => ?_, fun c23 => ?_⟩
        · refine kw_iconst hC dX2_hasItems_30 rfl ?_
          exact hR9.2.1 rfl _ _ _ _ dX2_hasItems_31 (by omega) ⟨_, rfl, by first | exact (bz_t (by omega)).symm | exact (bz_f (by omega)).symm, rfl⟩
        · refine kw_iconst hC dX2_hasItems_26 rfl ?_
          refine kw_goto (tgt := 31) hC dX2_hasItems_27 rfl (by decide) ?_
          exact hR9.2.1 rfl _ _ _ _ dX2_hasItems_31 (by omega) ⟨_, rfl, by first | exact (bz_t (by omega)).symm | exact (bz_f (by omega)).symm, rfl⟩

set_option maxHeartbeats 4000000 in
set_option maxRecDepth 100000 in
theorem d_X7_store {g : wG} (hD : wD g) {S : wSt} {b a : Int} (a0 : 0 ≤ a) (a1 : a < 8) (b0 : 8 ≤ b) (b1 : b < 12) (hRS : CI S) (hw : WV (S 2 b) (S 1 b 1) (S 3 16 2)) (m0 : 0 ≤ S 1 b 1) (m1 : S 1 b 1 ≤ 100) (l : Launch) : Kt l yX7_store wsX7_store ({ frames := 2, cells := 0, slots := 0, locals := 47 } : Room) g S [vr g 0 0, vr g 1 b, vi a] (pI (fun r S' => r = S 1 b 1 ∧ CI S' ∧ Fr (fWd a) S S' ∧ S' 1 a 1 = S 1 b 1 ∧ ∀ j, 0 ≤ j → j < S 1 b 1 → S' 2 a j = S 2 b j)) := by
  refine Kt.of (cc := cX7_store) (nL := 3) (ret := (some .int)) (own := RX7) rfl hD (by decide) rfl (Nat.le_of_ble_eq_true rfl) ⟨rfl, rfl⟩ ?_
  intro E hC hR9
  have f25 : Cond.fieldLink RX7 25 "MirrorBench" "slots" "[LMirrorBench$Word;" ∈ wsX7_store := by decide +kernel
  have f131 : Cond.fieldLink RX7 131 "MirrorBench$Word" "length" "I" ∈ wsX7_store := by decide +kernel
  have w6 : ∀ w ∈ wsX60, w ∈ wsX7_store := by decide +kernel
  have w7 : ∀ w ∈ wsX70, w ∈ wsX7_store := by decide +kernel
  show Wk E g 3 S 0 [(0, vr g 0 0), (1, vr g 1 b), (2, vi a)] []
  have hfS : Fr (fWd a) S S := Fr.rfl _ S
  refine kw_aload_n hC dX7_store_0 rfl 0 rfl ?_
  refine kg_0_2 hC w7 f25 dX7_store_1 rfl (by decide) (by decide) ?_
  refine kw_iload_n hC dX7_store_4 rfl 2 rfl ?_
  refine ka_20 hC dX7_store_5 rfl (by decide) (by decide) (by omega) (by omega) ?_
  refine kw_aload_n hC dX7_store_6 rfl 1 rfl ?_
  refine kw_callV hC (d_X6_take hD (by omega) (by omega) (by omega) (by omega) (by omega) (by omega)) gX7_store_X6_take ⟨_, rfl⟩ rfl (by omega) (show (_ : Int) < 12 by omega) rfl ⟨rfl, rfl⟩ 1 (by decide +kernel) ⟨by decide, by decide⟩ rfl rfl (Nat.le_of_ble_eq_true rfl) dX7_store_7 rfl (kd_v (fun S1 hp1 => ?_))
  obtain ⟨hg1, hp1⟩ := hp1
  have hfS1 : Fr (fWd a) S S1 := hfS.trans (hg1.mono (fun k i j h => by unfold fWd at h; unfold fWd; omega))
  obtain ⟨y1, y2⟩ := hp1
  refine kw_aload_n hC dX7_store_10 rfl 1 rfl ?_
  refine kg_1_1 hC w6 f131 dX7_store_11 rfl (by omega) (by omega) ?_
  refine kw_chi (z' := S 1 b 1) (hg1 1 b 1 (by unfold fWd; omega)) ?_
  exact hR9.1 rfl _ _ _ _ dX7_store_14 ⟨_, rfl, rfl, hRS.wd (hfS1.mono (fun k i j h => by unfold fWd at h; unfold fZ; omega)) (fun s s0 s1 => by rcases Decidable.em (s = a) with e | e; exact (by rw [e, y1]; exact ⟨⟨m0, m1⟩, hw.eq (fun j j0 j1 => y2 j j0 j1) rfl rfl⟩); exact (by have e1 : S1 1 s = S 1 s := funext fun j => hfS1 1 s j (by unfold fWd; omega); have e2 : S1 2 s = S 2 s := funext fun j => hfS1 2 s j (by unfold fWd; omega); rw [e1, e2]; exact ⟨hRS.ln s s0 s1, hRS.wv s s0 s1⟩)), hfS1, y1, y2⟩

theorem fWd_tX {a : Int} {S S' : wSt} (h : Fr (fWd a) S S') : Fr tX S S' := h.mono (fun k i j q => by unfold fWd at q; unfold tX; omega)
theorem fZ_tX {S S' : wSt} (h : Fr fZ S S') : Fr tX S S' := h.mono (fun k i j q => by unfold fZ at q; unfold tX; omega)
theorem Fr.w1 {T : Nat → Int → Int → Prop} {S S' : wSt} (f : Fr T S S') {s : Int} (h1 : ∀ j, ¬ T 1 s j) : S' 1 s = S 1 s := funext fun j => f 1 s j (h1 j)
theorem WV.fr {T : Nat → Int → Int → Prop} {S S' : wSt} {s n n' : Int} (h : WV (S 2 s) (S 1 s 1) n) (f : Fr T S S') (h1 : ¬ T 1 s 1) (h2 : ∀ j, ¬ T 2 s j) (hn : n' = n) : WV (S' 2 s) (S' 1 s 1) n' := h.eq (fun j _ _ => f 2 s j (h2 j)) (f 1 s 1 h1) hn

set_option maxHeartbeats 4000000 in
set_option maxRecDepth 100000 in
theorem d_X7_clear {g : wG} (hD : wD g) {S : wSt} {a : Int} (ha : -2147483648 ≤ a ∧ a ≤ 2147483647) (hRS : CI S) (l : Launch) : Kt l yX7_clear wsX7_clear ({ frames := 1, cells := 0, slots := 0, locals := 20 } : Room) g S [vr g 0 0, vi a] (pI (fun _ S' => CI S' ∧ Fr tX S S')) := by
  refine Kt.of (cc := cX7_clear) (nL := 3) (ret := (some .int)) (own := RX7) rfl hD (by decide) rfl (Nat.le_of_ble_eq_true rfl) ⟨rfl, rfl⟩ ?_
  intro E hC hR9
  have f25 : Cond.fieldLink RX7 25 "MirrorBench" "slots" "[LMirrorBench$Word;" ∈ wsX7_clear := by decide +kernel
  have f131 : Cond.fieldLink RX7 131 "MirrorBench$Word" "length" "I" ∈ wsX7_clear := by decide +kernel
  have w6 : ∀ w ∈ wsX60, w ∈ wsX7_clear := by decide +kernel
  have w7 : ∀ w ∈ wsX70, w ∈ wsX7_clear := by decide +kernel
  show Wk E g 3 S 0 [(0, vr g 0 0), (1, vi a)] []
  have hfS : Fr fZ S S := Fr.rfl _ S
  refine kw_iload_n hC dX7_clear_0 rfl 1 rfl ?_
  refine kw_callS hC (d_X7_isSlot hD (by omega)) gX7_clear_X7_isSlot rfl ⟨rfl, rfl⟩ 1 (by decide +kernel) ⟨by decide, by decide⟩ rfl rfl (Nat.le_of_ble_eq_true rfl) dX7_clear_1 rfl (kd_ie ?_)
  refine kw_ifne_b (tgt := 9) hC dX7_clear_4 rfl (by decide) ⟨fun c4 => ?_, fun c4 => ?_⟩
  · have hla := hRS.ln a (by omega) (by omega)
    have hwa := hRS.wv a (by omega) (by omega)
    refine kw_aload_n hC dX7_clear_9 rfl 0 rfl ?_
    refine kg_0_2 hC w7 f25 dX7_clear_10 rfl (by decide) (by decide) ?_
    refine kw_iload_n hC dX7_clear_13 rfl 1 rfl ?_
    refine ka_20 hC dX7_clear_14 rfl (by decide) (by decide) (by omega) (by omega) ?_
    refine kg_1_1 hC w6 f131 dX7_clear_15 rfl (by omega) (by omega) ?_
    refine kw_istore_n (lv' := [(2, _), (0, _), (1, _)]) hC dX7_clear_18 rfl (by decide) rfl ?_
    refine kw_aload_n hC dX7_clear_19 rfl 1 rfl ?_
    refine kg_0_2 hC w7 f25 dX7_clear_20 rfl (by decide) (by decide) ?_
    refine kw_iload_n hC dX7_clear_23 rfl 2 rfl ?_
    refine ka_20 hC dX7_clear_24 rfl (by decide) (by decide) (by omega) (by omega) ?_
    refine kw_iconst hC dX7_clear_25 rfl ?_
    refine kp_1_1 hC w6 f131 dX7_clear_26 rfl (by omega) (by omega) ?_
    refine kw_hv hfS (by unfold fZ; omega) (fun S2 hfS2 hv2 ho2 => ?_)
    have hw9 := hRS.wd hfS2 (fun s s0 s1 => by rcases Decidable.em (s = a) with e | e; exact (by rw [e, hv2]; exact ⟨by omega, fun j _ _ => by omega⟩); exact (by rw [ho2 1 s 1 (by omega), show S2 2 s = S 2 s from funext fun j => ho2 2 s j (by omega)]; exact ⟨hRS.ln s s0 s1, hRS.wv s s0 s1⟩))
    refine kw_iload_n hC dX7_clear_29 rfl 0 rfl ?_
    exact hR9.1 rfl _ _ _ _ dX7_clear_30 (by first | exact ⟨_, rfl, hw9, fZ_tX hfS2⟩ | exact ⟨_, rfl, hRS, Fr.rfl _ S⟩)
  · refine kw_iconst hC dX7_clear_7 rfl ?_
    exact hR9.1 rfl _ _ _ _ dX7_clear_8 (by first | exact ⟨_, rfl, hw9, fZ_tX hfS⟩ | exact ⟨_, rfl, hRS, Fr.rfl _ S⟩)

set_option maxHeartbeats 4000000 in
set_option maxRecDepth 100000 in
theorem d_X7_put {g : wG} (hD : wD g) {S : wSt} {a b : Int} (ha : -2147483648 ≤ a ∧ a ≤ 2147483647) (hb : -2147483648 ≤ b ∧ b ≤ 2147483647) (hRS : CI S) (l : Launch) : Kt l yX7_put wsX7_put ({ frames := 1, cells := 0, slots := 0, locals := 21 } : Room) g S [vr g 0 0, vi a, vi b] (pI (fun _ S' => CI S' ∧ Fr tX S S')) := by
  refine Kt.of (cc := cX7_put) (nL := 3) (ret := (some .int)) (own := RX7) rfl hD (by decide) rfl (Nat.le_of_ble_eq_true rfl) ⟨rfl, rfl⟩ ?_
  intro E hC hR9
  have f12 : Cond.fieldLink RX7 12 "MirrorBench" "set" "LMirrorBench$Mirrors;" ∈ wsX7_put := by decide +kernel
  have f25 : Cond.fieldLink RX7 25 "MirrorBench" "slots" "[LMirrorBench$Word;" ∈ wsX7_put := by decide +kernel
  have f131 : Cond.fieldLink RX7 131 "MirrorBench$Word" "length" "I" ∈ wsX7_put := by decide +kernel
  have w6 : ∀ w ∈ wsX60, w ∈ wsX7_put := by decide +kernel
  have w7 : ∀ w ∈ wsX70, w ∈ wsX7_put := by decide +kernel
  show Wk E g 3 S 0 [(0, vr g 0 0), (1, vi a), (2, vi b)] []
  have hfS : Fr fZ S S := Fr.rfl _ S
  have hn := hRS.n
  refine kw_iload_n hC dX7_put_0 rfl 1 rfl ?_
  refine kw_callS hC (d_X7_isSlot hD (by omega)) gX7_put_X7_isSlot rfl ⟨rfl, rfl⟩ 1 (by decide +kernel) ⟨by decide, by decide⟩ rfl rfl (Nat.le_of_ble_eq_true rfl) dX7_put_1 rfl (kd_ie ?_)
  refine kw_ifeq_b (tgt := 18) hC dX7_put_4 rfl (by decide) ⟨fun c4 => ?_, fun c4 => ?_⟩
  · refine kw_iconst hC dX7_put_18 rfl ?_
    exact hR9.1 rfl _ _ _ _ dX7_put_19 (by first | exact ⟨_, rfl, hw9, fZ_tX hfS⟩ | exact ⟨_, rfl, hRS, Fr.rfl _ S⟩)
  · refine kw_aload_n hC dX7_put_7 rfl 0 rfl ?_
    refine kg_0_0 hC w7 f12 dX7_put_8 rfl (by decide) (by decide) ?_
    refine kw_iload_n hC dX7_put_11 rfl 2 rfl ?_
    refine kw_callV hC (d_X3_has hD (by omega) (by omega) (by omega) (by omega) (by omega)) gX7_put_X3_has ⟨_, rfl⟩ rfl (by omega) (show (16 : Int) < 17 by omega) rfl ⟨rfl, rfl⟩ 1 (by decide +kernel) ⟨by decide, by decide⟩ rfl rfl (Nat.le_of_ble_eq_true rfl) dX7_put_12 rfl (kd_ie ?_)
    refine kw_ifne_b (tgt := 20) hC dX7_put_15 rfl (by decide) ⟨fun c15 => ?_, fun c15 => ?_⟩
    · have hla := hRS.ln a (by omega) (by omega)
      have hwa := hRS.wv a (by omega) (by omega)
      refine kw_aload_n hC dX7_put_20 rfl 0 rfl ?_
      refine kg_0_2 hC w7 f25 dX7_put_21 rfl (by decide) (by decide) ?_
      refine kw_iload_n hC dX7_put_24 rfl 1 rfl ?_
      refine ka_20 hC dX7_put_25 rfl (by decide) (by decide) (by omega) (by omega) ?_
      refine kg_1_1 hC w6 f131 dX7_put_26 rfl (by omega) (by omega) ?_
      refine kw_bipush hC dX7_put_29 rfl (by decide) ?_
      refine kw_icmp_ne (tgt := 37) hC dX7_put_31 rfl (by decide) (by omega) (by omega) ⟨fun c31 => ?_, fun c31 => ?_⟩
      · refine kw_aload_n hC dX7_put_37 rfl 0 rfl ?_
        refine kg_0_2 hC w7 f25 dX7_put_38 rfl (by decide) (by decide) ?_
        refine kw_iload_n hC dX7_put_41 rfl 1 rfl ?_
        refine ka_20 hC dX7_put_42 rfl (by decide) (by decide) (by omega) (by omega) ?_
        refine kw_iload_n hC dX7_put_43 rfl 2 rfl ?_
        refine kw_callV hC (d_X6_add hD (by omega) (by omega) (by omega) (by omega)) gX7_put_X6_add ⟨_, rfl⟩ rfl (by omega) (show (_ : Int) < 12 by omega) rfl ⟨rfl, rfl⟩ 1 (by decide +kernel) ⟨by decide, by decide⟩ rfl rfl (Nat.le_of_ble_eq_true rfl) dX7_put_44 rfl (kd_v (fun S4 hp4 => ?_))
        obtain ⟨hg4, hp4⟩ := hp4
        have hfS4 : Fr fZ S S4 := hfS.trans (hg4.mono (fun k i j h => by unfold fWd at h; unfold fZ; omega))
        obtain ⟨y1, y2, y3⟩ := hp4
        have hw9 := hRS.wd hfS4 (fun s s0 s1 => by rcases Decidable.em (s = a) with e | e; exact (by rw [e, y1]; exact ⟨by omega, hwa.add (fun j hj => y3 j hj) (by rw [y2]; omega)⟩); exact (by rw [hg4 1 s 1 (by unfold fWd; omega), show S4 2 s = S 2 s from funext fun j => hg4 2 s j (by unfold fWd; omega)]; exact ⟨hRS.ln s s0 s1, hRS.wv s s0 s1⟩))
        refine kw_aload_n hC dX7_put_47 rfl 0 rfl ?_
        refine kg_0_2 hC w7 f25 dX7_put_48 rfl (by decide) (by decide) ?_
        refine kw_iload_n hC dX7_put_51 rfl 1 rfl ?_
        refine ka_20 hC dX7_put_52 rfl (by decide) (by decide) (by omega) (by omega) ?_
        refine kg_1_1 hC w6 f131 dX7_put_53 rfl (by omega) (by omega) ?_
        exact hR9.1 rfl _ _ _ _ dX7_put_56 (by first | exact ⟨_, rfl, hw9, fZ_tX hfS4⟩ | exact ⟨_, rfl, hRS, Fr.rfl _ S⟩)
      · refine kw_bipush hC dX7_put_34 rfl (by decide) ?_
        exact hR9.1 rfl _ _ _ _ dX7_put_36 (by first | exact ⟨_, rfl, hw9, fZ_tX hfS⟩ | exact ⟨_, rfl, hRS, Fr.rfl _ S⟩)
    · refine kw_iconst hC dX7_put_18 rfl ?_
      exact hR9.1 rfl _ _ _ _ dX7_put_19 (by first | exact ⟨_, rfl, hw9, fZ_tX hfS⟩ | exact ⟨_, rfl, hRS, Fr.rfl _ S⟩)

set_option maxHeartbeats 4000000 in
set_option maxRecDepth 100000 in
theorem d_X7_at {g : wG} (hD : wD g) {S : wSt} {a b : Int} (ha : -2147483648 ≤ a ∧ a ≤ 2147483647) (hb : -2147483648 ≤ b ∧ b ≤ 2147483647) (hRS : CI S) (l : Launch) : Kt l yX7_at wsX7_at ({ frames := 1, cells := 0, slots := 0, locals := 20 } : Room) g S [vr g 0 0, vi a, vi b] (pI (fun _ S' => CI S' ∧ Fr tX S S')) := by
  refine Kt.of (cc := cX7_at) (nL := 4) (ret := (some .int)) (own := RX7) rfl hD (by decide) rfl (Nat.le_of_ble_eq_true rfl) ⟨rfl, rfl⟩ ?_
  intro E hC hR9
  have f25 : Cond.fieldLink RX7 25 "MirrorBench" "slots" "[LMirrorBench$Word;" ∈ wsX7_at := by decide +kernel
  have f131 : Cond.fieldLink RX7 131 "MirrorBench$Word" "length" "I" ∈ wsX7_at := by decide +kernel
  have f157 : Cond.fieldLink RX7 157 "MirrorBench$Word" "mirrors" "[I" ∈ wsX7_at := by decide +kernel
  have w6 : ∀ w ∈ wsX60, w ∈ wsX7_at := by decide +kernel
  have w7 : ∀ w ∈ wsX70, w ∈ wsX7_at := by decide +kernel
  show Wk E g 4 S 0 [(0, vr g 0 0), (1, vi a), (2, vi b)] []
  refine kw_iload_n hC dX7_at_0 rfl 1 rfl ?_
  refine kw_callS hC (d_X7_isSlot hD (by omega)) gX7_at_X7_isSlot rfl ⟨rfl, rfl⟩ 1 (by decide +kernel) ⟨by decide, by decide⟩ rfl rfl (Nat.le_of_ble_eq_true rfl) dX7_at_1 rfl (kd_ie ?_)
  refine kw_ifne_b (tgt := 9) hC dX7_at_4 rfl (by decide) ⟨fun c4 => ?_, fun c4 => ?_⟩
  · have hla := hRS.ln a (by omega) (by omega)
    have hwa := hRS.wv a (by omega) (by omega)
    refine kw_aload_n hC dX7_at_9 rfl 0 rfl ?_
    refine kg_0_2 hC w7 f25 dX7_at_10 rfl (by decide) (by decide) ?_
    refine kw_iload_n hC dX7_at_13 rfl 1 rfl ?_
    refine ka_20 hC dX7_at_14 rfl (by decide) (by decide) (by omega) (by omega) ?_
    refine kw_astore_n (lv' := [(3, _), (0, _), (1, _), (2, _)]) hC dX7_at_15 rfl (by decide) rfl ?_
    refine kw_iload_n hC dX7_at_16 rfl 3 rfl ?_
    refine kw_iconst hC dX7_at_17 rfl ?_
    refine kw_icmp_ne (tgt := 26) hC dX7_at_18 rfl (by decide) (by omega) (by omega) ⟨fun c18 => ?_, fun c18 => ?_⟩
    · refine kw_iload_n hC dX7_at_26 rfl 3 rfl ?_
      refine kw_if_lt (tgt := 47) hC dX7_at_27 rfl (by decide) (by omega) ⟨fun c27 => ?_, fun c27 => ?_⟩
      · refine kw_iconst hC dX7_at_47 rfl ?_
        exact hR9.1 rfl _ _ _ _ dX7_at_48 ⟨_, rfl, hRS, Fr.rfl _ S⟩
      · refine kw_iload_n hC dX7_at_30 rfl 3 rfl ?_
        refine kw_aload_n hC dX7_at_31 rfl 0 rfl ?_
        refine kg_1_1 hC w6 f131 dX7_at_32 rfl (by omega) (by omega) ?_
        refine kw_icmp_ge (tgt := 47) hC dX7_at_35 rfl (by decide) (by omega) (by omega) ⟨fun c35 => ?_, fun c35 => ?_⟩
        · refine kw_iconst hC dX7_at_47 rfl ?_
          exact hR9.1 rfl _ _ _ _ dX7_at_48 ⟨_, rfl, hRS, Fr.rfl _ S⟩
        · refine kw_aload_n hC dX7_at_38 rfl 0 rfl ?_
          refine kg_1_0 hC w6 f157 dX7_at_39 rfl (by omega) (by omega) ?_
          refine kw_iload_n hC dX7_at_42 rfl 3 rfl ?_
          refine ka_2 hC dX7_at_43 rfl (by omega) (by omega) (by omega) (by omega) ?_
          refine kw_goto (tgt := 48) hC dX7_at_44 rfl (by decide) ?_
          exact hR9.1 rfl _ _ _ _ dX7_at_48 ⟨_, rfl, hRS, Fr.rfl _ S⟩
    · refine kw_aload_n hC dX7_at_21 rfl 0 rfl ?_
      refine kg_1_1 hC w6 f131 dX7_at_22 rfl (by omega) (by omega) ?_
      exact hR9.1 rfl _ _ _ _ dX7_at_25 ⟨_, rfl, hRS, Fr.rfl _ S⟩
  · refine kw_iconst hC dX7_at_7 rfl ?_
    exact hR9.1 rfl _ _ _ _ dX7_at_8 ⟨_, rfl, hRS, Fr.rfl _ S⟩

set_option maxHeartbeats 4000000 in
set_option maxRecDepth 100000 in
theorem d_X7_times {g : wG} (hD : wD g) {S : wSt} {a b c : Int} (ha : -2147483648 ≤ a ∧ a ≤ 2147483647) (hb : -2147483648 ≤ b ∧ b ≤ 2147483647) (hc : -2147483648 ≤ c ∧ c ≤ 2147483647) (hRS : CI S) (l : Launch) : Kt l yX7_times wsX7_times ({ frames := 3, cells := 0, slots := 0, locals := 69 } : Room) g S [vr g 0 0, vi a, vi b, vi c] (pI (fun _ S' => CI S' ∧ Fr tX S S')) := by
  refine Kt.of (cc := cX7_times) (nL := 4) (ret := (some .int)) (own := RX7) rfl hD (by decide) rfl (Nat.le_of_ble_eq_true rfl) ⟨rfl, rfl⟩ ?_
  intro E hC hR9
  have f25 : Cond.fieldLink RX7 25 "MirrorBench" "slots" "[LMirrorBench$Word;" ∈ wsX7_times := by decide +kernel
  have f59 : Cond.fieldLink RX7 59 "MirrorBench" "made" "LMirrorBench$Word;" ∈ wsX7_times := by decide +kernel
  have f131 : Cond.fieldLink RX7 131 "MirrorBench$Word" "length" "I" ∈ wsX7_times := by decide +kernel
  have w6 : ∀ w ∈ wsX60, w ∈ wsX7_times := by decide +kernel
  have w7 : ∀ w ∈ wsX70, w ∈ wsX7_times := by decide +kernel
  show Wk E g 4 S 0 [(0, vr g 0 0), (1, vi a), (2, vi b), (3, vi c)] []
  have hfS : Fr tC S S := Fr.rfl _ S
  have hRS := hRS.fr hfS
  have hnS := hRS.n
  have enS : S 3 16 2 = S 3 16 2 := hfS 3 16 2 (by unfold tC; omega)
  refine kw_iload_n hC dX7_times_0 rfl 1 rfl ?_
  refine kw_callS hC (d_X7_isSlot hD (by omega)) gX7_times_X7_isSlot rfl ⟨rfl, rfl⟩ 1 (by decide +kernel) ⟨by decide, by decide⟩ rfl rfl (Nat.le_of_ble_eq_true rfl) dX7_times_1 rfl (kd_ie ?_)
  refine kw_ifeq_b (tgt := 21) hC dX7_times_4 rfl (by decide) ⟨fun c4 => ?_, fun c4 => ?_⟩
  · refine kw_iconst hC dX7_times_21 rfl ?_
    exact hR9.1 rfl _ _ _ _ dX7_times_22 (by first | exact ⟨_, rfl, hp9.2.1, (tC_tX hfS).trans (fWd_tX hp9.2.2.1)⟩ | exact ⟨_, rfl, hRS, tC_tX hfS⟩)
  · refine kw_iload_n hC dX7_times_7 rfl 2 rfl ?_
    refine kw_callS hC (d_X7_isSlot hD (by omega)) gX7_times_X7_isSlot rfl ⟨rfl, rfl⟩ 1 (by decide +kernel) ⟨by decide, by decide⟩ rfl rfl (Nat.le_of_ble_eq_true rfl) dX7_times_8 rfl (kd_ie ?_)
    refine kw_ifeq_b (tgt := 21) hC dX7_times_11 rfl (by decide) ⟨fun c11 => ?_, fun c11 => ?_⟩
    · refine kw_iconst hC dX7_times_21 rfl ?_
      exact hR9.1 rfl _ _ _ _ dX7_times_22 (by first | exact ⟨_, rfl, hp9.2.1, (tC_tX hfS).trans (fWd_tX hp9.2.2.1)⟩ | exact ⟨_, rfl, hRS, tC_tX hfS⟩)
    · refine kw_iload_n hC dX7_times_14 rfl 3 rfl ?_
      refine kw_callS hC (d_X7_isSlot hD (by omega)) gX7_times_X7_isSlot rfl ⟨rfl, rfl⟩ 1 (by decide +kernel) ⟨by decide, by decide⟩ rfl rfl (Nat.le_of_ble_eq_true rfl) dX7_times_15 rfl (kd_ie ?_)
      refine kw_ifne_b (tgt := 23) hC dX7_times_18 rfl (by decide) ⟨fun c18 => ?_, fun c18 => ?_⟩
      · have hla := hRS.ln a (by omega) (by omega)
        have hlb := hRS.ln b (by omega) (by omega)
        have hwa := hRS.wv a (by omega) (by omega)
        have hwb := hRS.wv b (by omega) (by omega)
        refine kw_aload_n hC dX7_times_23 rfl 0 rfl ?_
        refine kg_0_2 hC w7 f25 dX7_times_24 rfl (by decide) (by decide) ?_
        refine kw_iload_n hC dX7_times_27 rfl 1 rfl ?_
        refine ka_20 hC dX7_times_28 rfl (by decide) (by decide) (by omega) (by omega) ?_
        refine kg_1_1 hC w6 f131 dX7_times_29 rfl (by omega) (by omega) ?_
        refine kw_aload_n hC dX7_times_32 rfl 0 rfl ?_
        refine kg_0_2 hC w7 f25 dX7_times_33 rfl (by decide) (by decide) ?_
        refine kw_iload_n hC dX7_times_36 rfl 2 rfl ?_
        refine ka_20 hC dX7_times_37 rfl (by decide) (by decide) (by omega) (by omega) ?_
        refine kg_1_1 hC w6 f131 dX7_times_38 rfl (by omega) (by omega) ?_
        refine kw_iadd hC dX7_times_41 rfl ?_
        refine kw_bipush hC dX7_times_42 rfl (by decide) ?_
        refine kw_icmp_le (tgt := 50) hC dX7_times_44 rfl (by decide) (by omega) (by omega) ⟨fun c44 => ?_, fun c44 => ?_⟩
        · refine kw_aload_n hC dX7_times_50 rfl 0 rfl ?_
          refine kg_0_7 hC w7 f59 dX7_times_51 rfl (by decide) (by decide) ?_
          refine kw_aload_n hC dX7_times_54 rfl 0 rfl ?_
          refine kg_0_2 hC w7 f25 dX7_times_55 rfl (by decide) (by decide) ?_
          refine kw_iload_n hC dX7_times_58 rfl 1 rfl ?_
          refine ka_20 hC dX7_times_59 rfl (by decide) (by decide) (by omega) (by omega) ?_
          refine kw_callV hC (d_X6_take hD (by omega) (by omega) (by omega) (by omega) (by omega) (by omega)) gX7_times_X6_take ⟨_, rfl⟩ rfl (by omega) (show (_ : Int) < 12 by omega) rfl ⟨rfl, rfl⟩ 1 (by decide +kernel) ⟨by decide, by decide⟩ rfl rfl (Nat.le_of_ble_eq_true rfl) dX7_times_60 rfl (kd_v (fun S5 hp5 => ?_))
          obtain ⟨hg5, hp5⟩ := hp5
          have hfS5 : Fr tC S S5 := hfS.trans (hg5.mono (fun k i j h => by unfold fWd at h; unfold tC; omega))
          have hRS5 := hRS.fr hfS5
          have hnS5 := hRS5.n
          have enS5 : S5 3 16 2 = S 3 16 2 := hfS5 3 16 2 (by unfold tC; omega)
          obtain ⟨y1, y2⟩ := hp5
          have hwv : WV (S5 2 8) (S5 1 8 1) (S5 3 16 2) := hwa.eq (fun j j0 j1 => y2 j j0 j1) y1 enS5
          have eb : S5 1 b 1 = S 1 b 1 := hfS5 1 b 1 (by unfold tC; omega)
          have eb2 : ∀ j, S5 2 b j = S 2 b j := fun j => hfS5 2 b j (by unfold tC; omega)
          refine kw_aload_n hC dX7_times_63 rfl 0 rfl ?_
          refine kg_0_7 hC w7 f59 dX7_times_64 rfl (by decide) (by decide) ?_
          refine kw_aload_n hC dX7_times_67 rfl 0 rfl ?_
          refine kg_0_2 hC w7 f25 dX7_times_68 rfl (by decide) (by decide) ?_
          refine kw_iload_n hC dX7_times_71 rfl 2 rfl ?_
          refine ka_20 hC dX7_times_72 rfl (by decide) (by decide) (by omega) (by omega) ?_
          refine kw_callV hC (d_X6_append hD (by omega) (by omega) (by omega) (by omega) (by omega) (by omega) (by omega)) gX7_times_X6_append ⟨_, rfl⟩ rfl (by omega) (show (_ : Int) < 12 by omega) rfl ⟨rfl, rfl⟩ 1 (by decide +kernel) ⟨by decide, by decide⟩ rfl rfl (Nat.le_of_ble_eq_true rfl) dX7_times_73 rfl (kd_v (fun S6 hp6 => ?_))
          obtain ⟨hg6, hp6⟩ := hp6
          have hfS6 : Fr tC S S6 := hfS5.trans (hg6.mono (fun k i j h => by unfold fWd at h; unfold tC; omega))
          have hRS6 := hRS.fr hfS6
          have hnS6 := hRS6.n
          have enS6 : S6 3 16 2 = S 3 16 2 := hfS6 3 16 2 (by unfold tC; omega)
          obtain ⟨z1, z2, z3⟩ := hp6
          replace hwv : WV (S6 2 8) (S6 1 8 1) (S6 3 16 2) := fun j j0 j1 => by rcases Decidable.em (j < S5 1 8 1) with e | e; exact (by rw [z2 j j0 e]; have := hwv j j0 e; omega); exact (by have h5 := z3 (j - S5 1 8 1) (by omega) (by omega); rw [show S5 1 8 1 + (j - S5 1 8 1) = j by omega, eb2] at h5; rw [h5]; have := hwb (j - S5 1 8 1) (by omega) (by omega); omega)
          refine kw_aload_n hC dX7_times_76 rfl 0 rfl ?_
          refine kw_aload_n hC dX7_times_77 rfl 0 rfl ?_
          refine kg_0_7 hC w7 f59 dX7_times_78 rfl (by decide) (by decide) ?_
          refine kw_iload_n hC dX7_times_81 rfl 3 rfl ?_
          refine kw_callV hC (d_X7_store hD (by omega) (by omega) (by omega) (by omega) hRS6 hwv (by omega) (by omega)) gX7_times_X7_store ⟨_, rfl⟩ rfl (by decide) (by decide) rfl ⟨rfl, rfl⟩ 2 (by decide +kernel) ⟨by decide, by decide⟩ rfl rfl (Nat.le_of_ble_eq_true rfl) dX7_times_82 rfl (kd_i (fun r9 Sz hp9 => ?_))
          exact hR9.1 rfl _ _ _ _ dX7_times_85 (by first | exact ⟨_, rfl, hp9.2.1, (tC_tX hfS6).trans (fWd_tX hp9.2.2.1)⟩ | exact ⟨_, rfl, hRS6, tC_tX hfS6⟩)
        · refine kw_bipush hC dX7_times_47 rfl (by decide) ?_
          exact hR9.1 rfl _ _ _ _ dX7_times_49 (by first | exact ⟨_, rfl, hp9.2.1, (tC_tX hfS).trans (fWd_tX hp9.2.2.1)⟩ | exact ⟨_, rfl, hRS, tC_tX hfS⟩)
      · refine kw_iconst hC dX7_times_21 rfl ?_
        exact hR9.1 rfl _ _ _ _ dX7_times_22 (by first | exact ⟨_, rfl, hp9.2.1, (tC_tX hfS).trans (fWd_tX hp9.2.2.1)⟩ | exact ⟨_, rfl, hRS, tC_tX hfS⟩)

set_option maxHeartbeats 4000000 in
set_option maxRecDepth 100000 in
theorem d_X7_back {g : wG} (hD : wD g) {S : wSt} {a b : Int} (ha : -2147483648 ≤ a ∧ a ≤ 2147483647) (hb : -2147483648 ≤ b ∧ b ≤ 2147483647) (hRS : CI S) (l : Launch) : Kt l yX7_back wsX7_back ({ frames := 3, cells := 0, slots := 0, locals := 69 } : Room) g S [vr g 0 0, vi a, vi b] (pI (fun _ S' => CI S' ∧ Fr tX S S')) := by
  refine Kt.of (cc := cX7_back) (nL := 3) (ret := (some .int)) (own := RX7) rfl hD (by decide) rfl (Nat.le_of_ble_eq_true rfl) ⟨rfl, rfl⟩ ?_
  intro E hC hR9
  have f25 : Cond.fieldLink RX7 25 "MirrorBench" "slots" "[LMirrorBench$Word;" ∈ wsX7_back := by decide +kernel
  have f59 : Cond.fieldLink RX7 59 "MirrorBench" "made" "LMirrorBench$Word;" ∈ wsX7_back := by decide +kernel
  have w7 : ∀ w ∈ wsX70, w ∈ wsX7_back := by decide +kernel
  show Wk E g 3 S 0 [(0, vr g 0 0), (1, vi a), (2, vi b)] []
  have hfS : Fr tC S S := Fr.rfl _ S
  have hRS := hRS.fr hfS
  have hnS := hRS.n
  have enS : S 3 16 2 = S 3 16 2 := hfS 3 16 2 (by unfold tC; omega)
  refine kw_iload_n hC dX7_back_0 rfl 1 rfl ?_
  refine kw_callS hC (d_X7_isSlot hD (by omega)) gX7_back_X7_isSlot rfl ⟨rfl, rfl⟩ 1 (by decide +kernel) ⟨by decide, by decide⟩ rfl rfl (Nat.le_of_ble_eq_true rfl) dX7_back_1 rfl (kd_ie ?_)
  refine kw_ifeq_b (tgt := 14) hC dX7_back_4 rfl (by decide) ⟨fun c4 => ?_, fun c4 => ?_⟩
  · refine kw_iconst hC dX7_back_14 rfl ?_
    exact hR9.1 rfl _ _ _ _ dX7_back_15 (by first | exact ⟨_, rfl, hp9.2.1, (tC_tX hfS).trans (fWd_tX hp9.2.2.1)⟩ | exact ⟨_, rfl, hRS, tC_tX hfS⟩)
  · refine kw_iload_n hC dX7_back_7 rfl 2 rfl ?_
    refine kw_callS hC (d_X7_isSlot hD (by omega)) gX7_back_X7_isSlot rfl ⟨rfl, rfl⟩ 1 (by decide +kernel) ⟨by decide, by decide⟩ rfl rfl (Nat.le_of_ble_eq_true rfl) dX7_back_8 rfl (kd_ie ?_)
    refine kw_ifne_b (tgt := 16) hC dX7_back_11 rfl (by decide) ⟨fun c11 => ?_, fun c11 => ?_⟩
    · have hla := hRS.ln a (by omega) (by omega)
      have hwa := hRS.wv a (by omega) (by omega)
      refine kw_aload_n hC dX7_back_16 rfl 0 rfl ?_
      refine kg_0_7 hC w7 f59 dX7_back_17 rfl (by decide) (by decide) ?_
      refine kw_aload_n hC dX7_back_20 rfl 0 rfl ?_
      refine kg_0_2 hC w7 f25 dX7_back_21 rfl (by decide) (by decide) ?_
      refine kw_iload_n hC dX7_back_24 rfl 1 rfl ?_
      refine ka_20 hC dX7_back_25 rfl (by decide) (by decide) (by omega) (by omega) ?_
      refine kw_callV hC (d_X6_takeInverted hD (by omega) (by omega) (by omega) (by omega) (by omega) (by omega) (by omega)) gX7_back_X6_takeInverted ⟨_, rfl⟩ rfl (by omega) (show (_ : Int) < 12 by omega) rfl ⟨rfl, rfl⟩ 1 (by decide +kernel) ⟨by decide, by decide⟩ rfl rfl (Nat.le_of_ble_eq_true rfl) dX7_back_26 rfl (kd_v (fun S3 hp3 => ?_))
      obtain ⟨hg3, hp3⟩ := hp3
      have hfS3 : Fr tC S S3 := hfS.trans (hg3.mono (fun k i j h => by unfold fWd at h; unfold tC; omega))
      have hRS3 := hRS.fr hfS3
      have hnS3 := hRS3.n
      have enS3 : S3 3 16 2 = S 3 16 2 := hfS3 3 16 2 (by unfold tC; omega)
      obtain ⟨y1, y2⟩ := hp3
      have hwv : WV (S3 2 8) (S3 1 8 1) (S3 3 16 2) := fun j j0 j1 => by rw [y2 j j0 (by omega)]; have := hwa (S 1 a 1 - 1 - j) (by omega) (by omega); omega
      refine kw_aload_n hC dX7_back_29 rfl 0 rfl ?_
      refine kw_aload_n hC dX7_back_30 rfl 0 rfl ?_
      refine kg_0_7 hC w7 f59 dX7_back_31 rfl (by decide) (by decide) ?_
      refine kw_iload_n hC dX7_back_34 rfl 2 rfl ?_
      refine kw_callV hC (d_X7_store hD (by omega) (by omega) (by omega) (by omega) hRS3 hwv (by omega) (by omega)) gX7_back_X7_store ⟨_, rfl⟩ rfl (by decide) (by decide) rfl ⟨rfl, rfl⟩ 2 (by decide +kernel) ⟨by decide, by decide⟩ rfl rfl (Nat.le_of_ble_eq_true rfl) dX7_back_35 rfl (kd_i (fun r9 Sz hp9 => ?_))
      exact hR9.1 rfl _ _ _ _ dX7_back_38 (by first | exact ⟨_, rfl, hp9.2.1, (tC_tX hfS3).trans (fWd_tX hp9.2.2.1)⟩ | exact ⟨_, rfl, hRS3, tC_tX hfS3⟩)
    · refine kw_iconst hC dX7_back_14 rfl ?_
      exact hR9.1 rfl _ _ _ _ dX7_back_15 (by first | exact ⟨_, rfl, hp9.2.1, (tC_tX hfS).trans (fWd_tX hp9.2.2.1)⟩ | exact ⟨_, rfl, hRS, tC_tX hfS⟩)

set_option maxHeartbeats 4000000 in
set_option maxRecDepth 100000 in
theorem d_X7_without {g : wG} (hD : wD g) {S : wSt} {a b : Int} (ha : -2147483648 ≤ a ∧ a ≤ 2147483647) (hb : -2147483648 ≤ b ∧ b ≤ 2147483647) (hRS : CI S) (l : Launch) : Kt l yX7_without wsX7_without ({ frames := 3, cells := 0, slots := 0, locals := 69 } : Room) g S [vr g 0 0, vi a, vi b] (pI (fun _ S' => CI S' ∧ Fr tX S S')) := by
  refine Kt.of (cc := cX7_without) (nL := 5) (ret := (some .int)) (own := RX7) rfl hD (by decide) rfl (Nat.le_of_ble_eq_true rfl) ⟨rfl, rfl⟩ ?_
  intro E hC hR9
  have f12 : Cond.fieldLink RX7 12 "MirrorBench" "set" "LMirrorBench$Mirrors;" ∈ wsX7_without := by decide +kernel
  have f25 : Cond.fieldLink RX7 25 "MirrorBench" "slots" "[LMirrorBench$Word;" ∈ wsX7_without := by decide +kernel
  have f59 : Cond.fieldLink RX7 59 "MirrorBench" "made" "LMirrorBench$Word;" ∈ wsX7_without := by decide +kernel
  have f115 : Cond.fieldLink RX7 115 "MirrorBench$Mirrors" "kinds" "[I" ∈ wsX7_without := by decide +kernel
  have f131 : Cond.fieldLink RX7 131 "MirrorBench$Word" "length" "I" ∈ wsX7_without := by decide +kernel
  have f157 : Cond.fieldLink RX7 157 "MirrorBench$Word" "mirrors" "[I" ∈ wsX7_without := by decide +kernel
  have w3 : ∀ w ∈ wsX30, w ∈ wsX7_without := by decide +kernel
  have w6 : ∀ w ∈ wsX60, w ∈ wsX7_without := by decide +kernel
  have w7 : ∀ w ∈ wsX70, w ∈ wsX7_without := by decide +kernel
  show Wk E g 5 S 0 [(0, vr g 0 0), (1, vi a), (2, vi b)] []
  have hfS : Fr tC S S := Fr.rfl _ S
  have hRS := hRS.fr hfS
  have hnS := hRS.n
  have enS : S 3 16 2 = S 3 16 2 := hfS 3 16 2 (by unfold tC; omega)
  refine kw_iload_n hC dX7_without_0 rfl 1 rfl ?_
  refine kw_callS hC (d_X7_isSlot hD (by omega)) gX7_without_X7_isSlot rfl ⟨rfl, rfl⟩ 1 (by decide +kernel) ⟨by decide, by decide⟩ rfl rfl (Nat.le_of_ble_eq_true rfl) dX7_without_1 rfl (kd_ie ?_)
  refine kw_ifeq_b (tgt := 14) hC dX7_without_4 rfl (by decide) ⟨fun c4 => ?_, fun c4 => ?_⟩
  · refine kw_iconst hC dX7_without_14 rfl ?_
    exact hR9.1 rfl _ _ _ _ dX7_without_15 (by first | exact ⟨_, rfl, hp9.2.1, (tC_tX hfS).trans (fWd_tX hp9.2.2.1)⟩ | exact ⟨_, rfl, hRS, tC_tX hfS⟩)
  · refine kw_iload_n hC dX7_without_7 rfl 2 rfl ?_
    refine kw_callS hC (d_X7_isSlot hD (by omega)) gX7_without_X7_isSlot rfl ⟨rfl, rfl⟩ 1 (by decide +kernel) ⟨by decide, by decide⟩ rfl rfl (Nat.le_of_ble_eq_true rfl) dX7_without_8 rfl (kd_ie ?_)
    refine kw_ifne_b (tgt := 16) hC dX7_without_11 rfl (by decide) ⟨fun c11 => ?_, fun c11 => ?_⟩
    · have hla := hRS.ln a (by omega) (by omega)
      have hwa := hRS.wv a (by omega) (by omega)
      refine kw_aload_n hC dX7_without_16 rfl 0 rfl ?_
      refine kg_0_2 hC w7 f25 dX7_without_17 rfl (by decide) (by decide) ?_
      refine kw_iload_n hC dX7_without_20 rfl 1 rfl ?_
      refine ka_20 hC dX7_without_21 rfl (by decide) (by decide) (by omega) (by omega) ?_
      refine kw_astore_n (lv' := [(3, _), (0, _), (1, _), (2, _)]) hC dX7_without_22 rfl (by decide) rfl ?_
      refine kw_aload_n hC dX7_without_23 rfl 1 rfl ?_
      refine kg_0_7 hC w7 f59 dX7_without_24 rfl (by decide) (by decide) ?_
      refine kw_iconst hC dX7_without_27 rfl ?_
      refine kp_1_1 hC w6 f131 dX7_without_28 rfl (by omega) (by omega) ?_
      refine kw_hv hfS (by unfold tC; omega) (fun S3 hfS3 hv3 ho3 => ?_)
      have hRS3 := hRS.fr hfS3
      have hnS3 := hRS3.n
      have enS3 : S3 3 16 2 = S 3 16 2 := hfS3 3 16 2 (by unfold tC; omega)
      refine kw_iconst hC dX7_without_31 rfl ?_
      refine kw_istore (lv' := [(4, _), (3, _), (0, _), (1, _), (2, _)]) hC dX7_without_32 rfl (by decide) rfl ?_
      have hL34 : ∀ (n34 : Nat) (x : Int) (W34 : wSt), Fr tC S W34 → (0 ≤ x) → (x ≤ S 1 a 1) → (0 ≤ W34 1 8 1) → (W34 1 8 1 ≤ x) → (WV (W34 2 8) (W34 1 8 1) (W34 3 16 2)) → S 1 a 1 - x < (n34 : Int) → Wk E g 5 W34 34 [(0, vr g 0 0), (1, vi a), (2, vi b), (3, vr g 1 a), (4, vi x)] [] := by
        intro n34
        induction n34 with
        | zero => intro x W34 hfW34 x0 x1 l0 l1 hwv hm34; exact absurd hm34 (by omega)
        | succ n34 ih34 =>
          intro x W34 hfW34 x0 x1 l0 l1 hwv hm34
          have hRW34 := hRS.fr hfW34
          have hnW34 := hRW34.n
          have enW34 : W34 3 16 2 = S 3 16 2 := hfW34 3 16 2 (by unfold tC; omega)
          refine kw_iload hC dX7_without_34 rfl 4 rfl ?_
          refine kw_aload_n hC dX7_without_36 rfl 3 rfl ?_
          refine kg_1_1 hC w6 f131 dX7_without_37 rfl (by omega) (by omega) ?_
          refine kw_chi (z' := S 1 a 1) (hfW34 1 a 1 (by unfold tC; omega)) ?_
          refine kw_icmp_ge (tgt := 82) hC dX7_without_40 rfl (by decide) (by omega) (by omega) ⟨fun c40 => ?_, fun c40 => ?_⟩
          · refine kw_aload_n hC dX7_without_82 rfl 0 rfl ?_
            refine kw_aload_n hC dX7_without_83 rfl 0 rfl ?_
            refine kg_0_7 hC w7 f59 dX7_without_84 rfl (by decide) (by decide) ?_
            refine kw_iload_n hC dX7_without_87 rfl 2 rfl ?_
            refine kw_callV hC (d_X7_store hD (by omega) (by omega) (by omega) (by omega) hRW34 hwv (by omega) (by omega)) gX7_without_X7_store ⟨_, rfl⟩ rfl (by decide) (by decide) rfl ⟨rfl, rfl⟩ 2 (by decide +kernel) ⟨by decide, by decide⟩ rfl rfl (Nat.le_of_ble_eq_true rfl) dX7_without_88 rfl (kd_i (fun r9 Sz hp9 => ?_))
            exact hR9.1 rfl _ _ _ _ dX7_without_91 (by first | exact ⟨_, rfl, hp9.2.1, (tC_tX hfW34).trans (fWd_tX hp9.2.2.1)⟩ | exact ⟨_, rfl, hRW34, tC_tX hfW34⟩)
          · refine kw_aload_n hC dX7_without_43 rfl 0 rfl ?_
            refine kg_0_0 hC w7 f12 dX7_without_44 rfl (by decide) (by decide) ?_
            refine kg_3_0 hC w3 f115 dX7_without_47 rfl (by omega) (by omega) ?_
            refine kw_aload_n hC dX7_without_50 rfl 3 rfl ?_
            refine kg_1_0 hC w6 f157 dX7_without_51 rfl (by omega) (by omega) ?_
            refine kw_iload hC dX7_without_54 rfl 4 rfl ?_
            refine ka_2 hC dX7_without_56 rfl (by omega) (by omega) (by omega) (by omega) ?_
            refine kw_chi (z' := S 2 a x) (hfW34 2 a x (by unfold tC; omega)) ?_
            have hlx : 0 ≤ S 2 a x ∧ S 2 a x < W34 3 16 2 := by have := hwa x (by omega) (by omega); omega
            refine ka_4 hC dX7_without_57 rfl (by omega) (by omega) (by omega) (by omega) ?_
            have hkd := hRW34.kd (S 2 a x) (by omega) (by omega)
            refine kw_iconst hC dX7_without_58 rfl ?_
            refine kw_icmp_eq (tgt := 76) hC dX7_without_59 rfl (by decide) (by omega) (by omega) ⟨fun c59 => ?_, fun c59 => ?_⟩
            · refine kw_iinc (lv' := [(4, _), (0, _), (1, _), (2, _), (3, _)]) hC dX7_without_76 rfl 4 rfl (by decide) rfl ?_
              refine kw_goto (tgt := 34) hC dX7_without_79 rfl (by decide) ?_
              refine kw_lv [1, 2, 3, 4, 0] rfl ?_
              exact ih34 (x + 1) W34 hfW34 (by omega) (by omega) (by omega) (by omega) hwv (by omega)
            · refine kw_aload_n hC dX7_without_62 rfl 0 rfl ?_
              refine kg_0_7 hC w7 f59 dX7_without_63 rfl (by decide) (by decide) ?_
              refine kw_aload_n hC dX7_without_66 rfl 3 rfl ?_
              refine kg_1_0 hC w6 f157 dX7_without_67 rfl (by omega) (by omega) ?_
              refine kw_iload hC dX7_without_70 rfl 4 rfl ?_
              refine ka_2 hC dX7_without_72 rfl (by omega) (by omega) (by omega) (by omega) ?_
              refine kw_chi (z' := S 2 a x) (hfW34 2 a x (by unfold tC; omega)) ?_
              refine kw_callV hC (d_X6_add hD (by omega) (by omega) (by omega) (by omega)) gX7_without_X6_add ⟨_, rfl⟩ rfl (by omega) (show (_ : Int) < 12 by omega) rfl ⟨rfl, rfl⟩ 1 (by decide +kernel) ⟨by decide, by decide⟩ rfl rfl (Nat.le_of_ble_eq_true rfl) dX7_without_73 rfl (kd_v (fun S6 hp6 => ?_))
              obtain ⟨hg6, hp6⟩ := hp6
              have hfS6 : Fr tC S S6 := hfW34.trans (hg6.mono (fun k i j h => by unfold fWd at h; unfold tC; omega))
              have hRS6 := hRS.fr hfS6
              have hnS6 := hRS6.n
              have enS6 : S6 3 16 2 = S 3 16 2 := hfS6 3 16 2 (by unfold tC; omega)
              obtain ⟨y1, y2, y3⟩ := hp6
              replace hwv : WV (S6 2 8) (S6 1 8 1) (S6 3 16 2) := (y1 ▸ hwv.add (fun j hj => y3 j hj) (by rw [y2]; exact hlx)).eq (fun _ _ _ => rfl) rfl (by omega)
              refine kw_iinc (lv' := [(4, _), (0, _), (1, _), (2, _), (3, _)]) hC dX7_without_76 rfl 4 rfl (by decide) rfl ?_
              refine kw_goto (tgt := 34) hC dX7_without_79 rfl (by decide) ?_
              refine kw_lv [1, 2, 3, 4, 0] rfl ?_
              exact ih34 (x + 1) S6 hfS6 (by omega) (by omega) (by omega) (by omega) hwv (by omega)
      refine kw_lv [2, 3, 4, 1, 0] rfl ?_
      exact hL34 101 0 S3 hfS3 (by omega) (by omega) (by have := hv3; omega) (by have := hv3; omega) (fun j _ _ => by have := hv3; omega) (by omega)
    · refine kw_iconst hC dX7_without_14 rfl ?_
      exact hR9.1 rfl _ _ _ _ dX7_without_15 (by first | exact ⟨_, rfl, hp9.2.1, (tC_tX hfS).trans (fWd_tX hp9.2.2.1)⟩ | exact ⟨_, rfl, hRS, tC_tX hfS⟩)

set_option maxHeartbeats 4000000 in
set_option maxRecDepth 100000 in
theorem d_X7_cut {g : wG} (hD : wD g) {S : wSt} {a b : Int} (ha : -2147483648 ≤ a ∧ a ≤ 2147483647) (hb : -2147483648 ≤ b ∧ b ≤ 2147483647) (hRS : CI S) (l : Launch) : Kt l yX7_cut wsX7_cut ({ frames := 2, cells := 0, slots := 0, locals := 47 } : Room) g S [vr g 0 0, vi a, vi b] (pI (fun _ S' => CI S' ∧ Fr tX S S')) := by
  refine Kt.of (cc := cX7_cut) (nL := 4) (ret := (some .int)) (own := RX7) rfl hD (by decide) rfl (Nat.le_of_ble_eq_true rfl) ⟨rfl, rfl⟩ ?_
  intro E hC hR9
  have f25 : Cond.fieldLink RX7 25 "MirrorBench" "slots" "[LMirrorBench$Word;" ∈ wsX7_cut := by decide +kernel
  have f131 : Cond.fieldLink RX7 131 "MirrorBench$Word" "length" "I" ∈ wsX7_cut := by decide +kernel
  have f157 : Cond.fieldLink RX7 157 "MirrorBench$Word" "mirrors" "[I" ∈ wsX7_cut := by decide +kernel
  have w6 : ∀ w ∈ wsX60, w ∈ wsX7_cut := by decide +kernel
  have w7 : ∀ w ∈ wsX70, w ∈ wsX7_cut := by decide +kernel
  show Wk E g 4 S 0 [(0, vr g 0 0), (1, vi a), (2, vi b)] []
  have hfS : Fr (fWd a) S S := Fr.rfl _ S
  have hTW : ∀ (W : wSt), Fr (fWd a) S W → (0 ≤ W 1 a 1 ∧ W 1 a 1 ≤ 100) → WV (W 2 a) (W 1 a 1) (S 3 16 2) → CI W := fun W f h1 h2 => hRS.wd (f.mono (fun k i j h => by unfold fWd at h; unfold fZ; omega)) (fun s s0 s1 => by rcases Decidable.em (s = a) with e | e; exact (by rw [e]; exact ⟨h1, h2⟩); exact (by rw [f 1 s 1 (by unfold fWd; omega), show W 2 s = S 2 s from funext fun j => f 2 s j (by unfold fWd; omega)]; exact ⟨hRS.ln s s0 s1, hRS.wv s s0 s1⟩))
  have hn := hRS.n
  refine kw_iload_n hC dX7_cut_0 rfl 1 rfl ?_
  refine kw_callS hC (d_X7_isSlot hD (by omega)) gX7_cut_X7_isSlot rfl ⟨rfl, rfl⟩ 1 (by decide +kernel) ⟨by decide, by decide⟩ rfl rfl (Nat.le_of_ble_eq_true rfl) dX7_cut_1 rfl (kd_ie ?_)
  refine kw_ifeq_b (tgt := 20) hC dX7_cut_4 rfl (by decide) ⟨fun c4 => ?_, fun c4 => ?_⟩
  · refine kw_iconst hC dX7_cut_20 rfl ?_
    exact hR9.1 rfl _ _ _ _ dX7_cut_21 (by first | exact ⟨_, rfl, hw9, fWd_tX hfS⟩ | exact ⟨_, rfl, hRS, Fr.rfl _ S⟩)
  · have hla := hRS.ln a (by omega) (by omega)
    have hwa := hRS.wv a (by omega) (by omega)
    refine kw_aload_n hC dX7_cut_7 rfl 0 rfl ?_
    refine kg_0_2 hC w7 f25 dX7_cut_8 rfl (by decide) (by decide) ?_
    refine kw_iload_n hC dX7_cut_11 rfl 1 rfl ?_
    refine ka_20 hC dX7_cut_12 rfl (by decide) (by decide) (by omega) (by omega) ?_
    refine kw_iload_n hC dX7_cut_13 rfl 2 rfl ?_
    refine kw_callV hC (d_X6_hasTwoFrom hD (by omega) (by omega) (by omega) (by omega) (by omega)) gX7_cut_X6_hasTwoFrom ⟨_, rfl⟩ rfl (by omega) (show (_ : Int) < 12 by omega) rfl ⟨rfl, rfl⟩ 1 (by decide +kernel) ⟨by decide, by decide⟩ rfl rfl (Nat.le_of_ble_eq_true rfl) dX7_cut_14 rfl (kd_ie ?_)
    refine kw_ifne_b (tgt := 22) hC dX7_cut_17 rfl (by decide) ⟨fun c17 => ?_, fun c17 => ?_⟩
    · refine kw_aload_n hC dX7_cut_22 rfl 0 rfl ?_
      refine kg_0_2 hC w7 f25 dX7_cut_23 rfl (by decide) (by decide) ?_
      refine kw_iload_n hC dX7_cut_26 rfl 1 rfl ?_
      refine ka_20 hC dX7_cut_27 rfl (by decide) (by decide) (by omega) (by omega) ?_
      refine kw_astore_n (lv' := [(3, _), (0, _), (1, _), (2, _)]) hC dX7_cut_28 rfl (by decide) rfl ?_
      refine kw_aload_n hC dX7_cut_29 rfl 0 rfl ?_
      refine kg_1_0 hC w6 f157 dX7_cut_30 rfl (by omega) (by omega) ?_
      refine kw_iload_n hC dX7_cut_33 rfl 3 rfl ?_
      refine ka_2 hC dX7_cut_34 rfl (by omega) (by omega) (by omega) (by omega) ?_
      have q1 := hwa b (by omega) (by omega)
      refine kw_aload_n hC dX7_cut_35 rfl 0 rfl ?_
      refine kg_1_0 hC w6 f157 dX7_cut_36 rfl (by omega) (by omega) ?_
      refine kw_iload_n hC dX7_cut_39 rfl 3 rfl ?_
      refine kw_iconst hC dX7_cut_40 rfl ?_
      refine kw_iadd hC dX7_cut_41 rfl ?_
      refine ka_2 hC dX7_cut_42 rfl (by omega) (by omega) (by omega) (by omega) ?_
      have q2 := hwa (b + 1) (by omega) (by omega)
      refine kw_icmp_eq (tgt := 49) hC dX7_cut_43 rfl (by decide) (by omega) (by omega) ⟨fun c43 => ?_, fun c43 => ?_⟩
      · refine kw_aload_n hC dX7_cut_49 rfl 0 rfl ?_
        refine kw_iload_n hC dX7_cut_50 rfl 3 rfl ?_
        refine kw_callV hC (d_X6_removeAt hD (by omega) (by omega) (by omega) (by omega) (by omega)) gX7_cut_X6_removeAt ⟨_, rfl⟩ rfl (by omega) (show (_ : Int) < 12 by omega) rfl ⟨rfl, rfl⟩ 1 (by decide +kernel) ⟨by decide, by decide⟩ rfl rfl (Nat.le_of_ble_eq_true rfl) dX7_cut_51 rfl (kd_v (fun S4 hp4 => ?_))
        obtain ⟨hg4, hp4⟩ := hp4
        have hfS4 : Fr (fWd a) S S4 := hfS.trans (hg4.mono (fun k i j h => by unfold fWd at h; unfold fWd; omega))
        obtain ⟨y1, y2, y3⟩ := hp4
        have hw1 : WV (S4 2 a) (S4 1 a 1) (S 3 16 2) := y1 ▸ WV.del hwa y2 y3 (by omega)
        refine kw_aload_n hC dX7_cut_54 rfl 0 rfl ?_
        refine kw_iload_n hC dX7_cut_55 rfl 3 rfl ?_
        refine kw_callV hC (d_X6_removeAt hD (by omega) (by omega) (by omega) (by omega) (by omega)) gX7_cut_X6_removeAt ⟨_, rfl⟩ rfl (by omega) (show (_ : Int) < 12 by omega) rfl ⟨rfl, rfl⟩ 1 (by decide +kernel) ⟨by decide, by decide⟩ rfl rfl (Nat.le_of_ble_eq_true rfl) dX7_cut_56 rfl (kd_v (fun S5 hp5 => ?_))
        obtain ⟨hg5, hp5⟩ := hp5
        have hfS5 : Fr (fWd a) S S5 := hfS4.trans (hg5.mono (fun k i j h => by unfold fWd at h; unfold fWd; omega))
        obtain ⟨z1, z2, z3⟩ := hp5
        have hw2 : WV (S5 2 a) (S5 1 a 1) (S 3 16 2) := z1 ▸ WV.del hw1 z2 z3 (by omega)
        have hw9 := hTW S5 hfS5 (by omega) hw2
        refine kw_aload_n hC dX7_cut_59 rfl 0 rfl ?_
        refine kg_1_1 hC w6 f131 dX7_cut_60 rfl (by omega) (by omega) ?_
        exact hR9.1 rfl _ _ _ _ dX7_cut_63 (by first | exact ⟨_, rfl, hw9, fWd_tX hfS5⟩ | exact ⟨_, rfl, hRS, Fr.rfl _ S⟩)
      · refine kw_bipush hC dX7_cut_46 rfl (by decide) ?_
        exact hR9.1 rfl _ _ _ _ dX7_cut_48 (by first | exact ⟨_, rfl, hw9, fWd_tX hfS⟩ | exact ⟨_, rfl, hRS, Fr.rfl _ S⟩)
    · refine kw_iconst hC dX7_cut_20 rfl ?_
      exact hR9.1 rfl _ _ _ _ dX7_cut_21 (by first | exact ⟨_, rfl, hw9, fWd_tX hfS⟩ | exact ⟨_, rfl, hRS, Fr.rfl _ S⟩)

set_option maxHeartbeats 4000000 in
set_option maxRecDepth 100000 in
theorem d_X3_number {g : wG} (hD : wD g) {S : wSt} {p a b : Int} (p0 : 0 ≤ p) (p1 : p < 17) (a0 : 0 ≤ a) (a1 : a < 6) (b0 : 0 ≤ b) (b1 : b < 6) (l : Launch) : Kt l yX3_number wsX3_number ({ frames := 0, cells := 0, slots := 0, locals := 0 } : Room) g S [vr g 3 p, vi a, vi b] (pI (fun r S' => r = S 5 p (6 * a + b) ∧ S' = S)) := by
  refine Kt.of (cc := cX3_number) (nL := 3) (ret := (some .int)) (own := RX3) rfl hD (by decide) rfl (Nat.le_of_ble_eq_true rfl) ⟨rfl, rfl⟩ ?_
  intro E hC hR9
  have f15 : Cond.fieldLink RX3 15 "MirrorBench$Mirrors" "numbers" "[I" ∈ wsX3_number := by decide +kernel
  have w3 : ∀ w ∈ wsX30, w ∈ wsX3_number := by decide +kernel
  show Wk E g 3 S 0 [(0, vr g 3 p), (1, vi a), (2, vi b)] []
  refine kw_aload_n hC dX3_number_0 rfl 0 rfl ?_
  refine kg_3_1 hC w3 f15 dX3_number_1 rfl (by omega) (by omega) ?_
  refine kw_iload_n hC dX3_number_4 rfl 1 rfl ?_
  refine kw_bipush hC dX3_number_5 rfl (by decide) ?_
  refine kw_imul hC dX3_number_7 rfl ?_
  refine kw_iload_n hC dX3_number_8 rfl 2 rfl ?_
  rw [Int.mul_comm a 6]
  refine kw_iadd hC dX3_number_9 rfl ?_
  refine ka_5 hC dX3_number_10 rfl (by omega) (by omega) (by omega) (by omega) ?_
  exact hR9.1 rfl _ _ _ _ dX3_number_11 ⟨_, rfl, rfl, rfl⟩

theorem cmt_mul {S : wSt} (hR : CI S) {i j : Int} (i0 : 0 ≤ i) (i1 : i < 6) (j0 : 0 ≤ j) (j1 : j < 6) : 0 ≤ S 5 16 (6 * i + j) * S 5 16 (6 * j + i) ∧ S 5 16 (6 * i + j) * S 5 16 (6 * j + i) ≤ 4 := ⟨Int.mul_nonneg (hR.mt i j i0 i1 j0 j1).1 (hR.mt j i j0 j1 i0 i1).1, hR.set.2.2.2.2.2 i j i0 i1 j0 j1⟩

set_option maxHeartbeats 4000000 in
set_option maxRecDepth 100000 in
theorem d_X3_meetsAt {g : wG} (hD : wD g) {S : wSt} {a b : Int} (a0 : 0 ≤ a) (a1 : a < 6) (b0 : 0 ≤ b) (b1 : b < 6) (hRS : CI S) (l : Launch) : Kt l yX3_meetsAt wsX3_meetsAt ({ frames := 1, cells := 0, slots := 0, locals := 22 } : Room) g S [vr g 3 16, vi a, vi b] (pI (fun r S' => r = mAt a b (S 5 16 (6 * a + b)) (S 5 16 (6 * b + a)) ∧ S' = S)) := by
  refine Kt.of (cc := cX3_meetsAt) (nL := 3) (ret := (some .int)) (own := RX3) rfl hD (by decide) rfl (Nat.le_of_ble_eq_true rfl) ⟨rfl, rfl⟩ ?_
  intro E hC hR9
  show Wk E g 3 S 0 [(0, vr g 3 16), (1, vi a), (2, vi b)] []
  have hpm := cmt_mul hRS a0 a1 b0 b1
  refine kw_iload_n hC dX3_meetsAt_0 rfl 1 rfl ?_
  refine kw_iload_n hC dX3_meetsAt_1 rfl 2 rfl ?_
  refine kw_icmp_ne (tgt := 7) hC dX3_meetsAt_2 rfl (by decide) (by omega) (by omega) ⟨fun c2 => ?_, fun c2 => ?_⟩
  · refine kw_aload_n hC dX3_meetsAt_7 rfl 0 rfl ?_
    refine kw_iload_n hC dX3_meetsAt_8 rfl 1 rfl ?_
    refine kw_iload_n hC dX3_meetsAt_9 rfl 2 rfl ?_
    refine kw_callV hC (d_X3_number hD (by omega) (by omega) (by omega) (by omega) (by omega) (by omega)) gX3_meetsAt_X3_number ⟨_, rfl⟩ rfl (by omega) (show (16 : Int) < 17 by omega) rfl ⟨rfl, rfl⟩ 2 (by decide +kernel) ⟨by decide, by decide⟩ rfl rfl (Nat.le_of_ble_eq_true rfl) dX3_meetsAt_10 rfl (kd_ie ?_)
    refine kw_aload_n hC dX3_meetsAt_13 rfl 0 rfl ?_
    refine kw_iload_n hC dX3_meetsAt_14 rfl 2 rfl ?_
    refine kw_iload_n hC dX3_meetsAt_15 rfl 1 rfl ?_
    refine kw_callV hC (d_X3_number hD (by omega) (by omega) (by omega) (by omega) (by omega) (by omega)) gX3_meetsAt_X3_number ⟨_, rfl⟩ rfl (by omega) (show (16 : Int) < 17 by omega) rfl ⟨rfl, rfl⟩ 2 (by decide +kernel) ⟨by decide, by decide⟩ rfl rfl (Nat.le_of_ble_eq_true rfl) dX3_meetsAt_16 rfl (kd_ie ?_)
    refine kw_imul hC dX3_meetsAt_19 rfl ?_
    obtain ⟨P9, hP9⟩ : ∃ z, z = S 5 16 (6 * a + b) * S 5 16 (6 * b + a) := ⟨_, rfl⟩
    rw [← hP9]
    rw [← hP9] at hpm
    have h5 : P9 = 0 ∨ P9 = 1 ∨ P9 = 2 ∨ P9 = 3 ∨ P9 = 4 := by omega
    rcases h5 with h5 | h5 | h5 | h5 | h5
    · refine kw_tabIn (off := 32) (tgt := 52) hC dX3_meetsAt_20 (by omega) (by omega) (by omega) (by rw [h5]; rfl) (by decide) ?_
      refine kw_iconst hC dX3_meetsAt_52 rfl ?_
      exact hR9.1 rfl _ _ _ _ dX3_meetsAt_53 ⟨_, rfl, by unfold mAt; (try rw [← hP9]); (repeat' split) <;> omega, rfl⟩
    · refine kw_tabIn (off := 34) (tgt := 54) hC dX3_meetsAt_20 (by omega) (by omega) (by omega) (by rw [h5]; rfl) (by decide) ?_
      refine kw_iconst hC dX3_meetsAt_54 rfl ?_
      exact hR9.1 rfl _ _ _ _ dX3_meetsAt_55 ⟨_, rfl, by unfold mAt; (try rw [← hP9]); (repeat' split) <;> omega, rfl⟩
    · refine kw_tabIn (off := 36) (tgt := 56) hC dX3_meetsAt_20 (by omega) (by omega) (by omega) (by rw [h5]; rfl) (by decide) ?_
      refine kw_iconst hC dX3_meetsAt_56 rfl ?_
      exact hR9.1 rfl _ _ _ _ dX3_meetsAt_57 ⟨_, rfl, by unfold mAt; (try rw [← hP9]); (repeat' split) <;> omega, rfl⟩
    · refine kw_tabIn (off := 38) (tgt := 58) hC dX3_meetsAt_20 (by omega) (by omega) (by omega) (by rw [h5]; rfl) (by decide) ?_
      refine kw_bipush hC dX3_meetsAt_58 rfl (by decide) ?_
      exact hR9.1 rfl _ _ _ _ dX3_meetsAt_60 ⟨_, rfl, by unfold mAt; (try rw [← hP9]); (repeat' split) <;> omega, rfl⟩
    · refine kw_tabOut (tgt := 61) hC dX3_meetsAt_20 (by omega) (by omega) (by decide) ?_
      refine kw_iconst hC dX3_meetsAt_61 rfl ?_
      exact hR9.1 rfl _ _ _ _ dX3_meetsAt_62 ⟨_, rfl, by unfold mAt; (try rw [← hP9]); (repeat' split) <;> omega, rfl⟩
  · refine kw_iconst hC dX3_meetsAt_5 rfl ?_
    exact hR9.1 rfl _ _ _ _ dX3_meetsAt_6 ⟨_, rfl, by unfold mAt; (try rw [← hP9]); (repeat' split) <;> omega, rfl⟩

set_option maxHeartbeats 4000000 in
set_option maxRecDepth 100000 in
theorem d_X7_change {g : wG} (hD : wD g) {S : wSt} {a b : Int} (ha : -2147483648 ≤ a ∧ a ≤ 2147483647) (hb : -2147483648 ≤ b ∧ b ≤ 2147483647) (hRS : CI S) (l : Launch) : Kt l yX7_change wsX7_change ({ frames := 2, cells := 0, slots := 0, locals := 44 } : Room) g S [vr g 0 0, vi a, vi b] (pI (fun _ S' => CI S' ∧ Fr tX S S')) := by
  refine Kt.of (cc := cX7_change) (nL := 8) (ret := (some .int)) (own := RX7) rfl hD (by decide) rfl (Nat.le_of_ble_eq_true rfl) ⟨rfl, rfl⟩ ?_
  intro E hC hR9
  have f12 : Cond.fieldLink RX7 12 "MirrorBench" "set" "LMirrorBench$Mirrors;" ∈ wsX7_change := by decide +kernel
  have f25 : Cond.fieldLink RX7 25 "MirrorBench" "slots" "[LMirrorBench$Word;" ∈ wsX7_change := by decide +kernel
  have f157 : Cond.fieldLink RX7 157 "MirrorBench$Word" "mirrors" "[I" ∈ wsX7_change := by decide +kernel
  have w6 : ∀ w ∈ wsX60, w ∈ wsX7_change := by decide +kernel
  have w7 : ∀ w ∈ wsX70, w ∈ wsX7_change := by decide +kernel
  show Wk E g 8 S 0 [(0, vr g 0 0), (1, vi a), (2, vi b)] []
  have hfS : Fr (fWd a) S S := Fr.rfl _ S
  have hTW : ∀ (W : wSt), Fr (fWd a) S W → (0 ≤ W 1 a 1 ∧ W 1 a 1 ≤ 100) → WV (W 2 a) (W 1 a 1) (S 3 16 2) → CI W := fun W f h1 h2 => hRS.wd (f.mono (fun k i j h => by unfold fWd at h; unfold fZ; omega)) (fun s s0 s1 => by rcases Decidable.em (s = a) with e | e; exact (by rw [e]; exact ⟨h1, h2⟩); exact (by rw [f 1 s 1 (by unfold fWd; omega), show W 2 s = S 2 s from funext fun j => f 2 s j (by unfold fWd; omega)]; exact ⟨hRS.ln s s0 s1, hRS.wv s s0 s1⟩))
  have hn := hRS.n
  refine kw_iload_n hC dX7_change_0 rfl 1 rfl ?_
  refine kw_callS hC (d_X7_isSlot hD (by omega)) gX7_change_X7_isSlot rfl ⟨rfl, rfl⟩ 1 (by decide +kernel) ⟨by decide, by decide⟩ rfl rfl (Nat.le_of_ble_eq_true rfl) dX7_change_1 rfl (kd_ie ?_)
  refine kw_ifeq_b (tgt := 20) hC dX7_change_4 rfl (by decide) ⟨fun c4 => ?_, fun c4 => ?_⟩
  · refine kw_iconst hC dX7_change_20 rfl ?_
    exact hR9.1 rfl _ _ _ _ dX7_change_21 (by first | exact ⟨_, rfl, hw9, fWd_tX hfS⟩ | exact ⟨_, rfl, hRS, Fr.rfl _ S⟩)
  · have hla := hRS.ln a (by omega) (by omega)
    have hwa := hRS.wv a (by omega) (by omega)
    refine kw_aload_n hC dX7_change_7 rfl 0 rfl ?_
    refine kg_0_2 hC w7 f25 dX7_change_8 rfl (by decide) (by decide) ?_
    refine kw_iload_n hC dX7_change_11 rfl 1 rfl ?_
    refine ka_20 hC dX7_change_12 rfl (by decide) (by decide) (by omega) (by omega) ?_
    refine kw_iload_n hC dX7_change_13 rfl 2 rfl ?_
    refine kw_callV hC (d_X6_hasTwoFrom hD (by omega) (by omega) (by omega) (by omega) (by omega)) gX7_change_X6_hasTwoFrom ⟨_, rfl⟩ rfl (by omega) (show (_ : Int) < 12 by omega) rfl ⟨rfl, rfl⟩ 1 (by decide +kernel) ⟨by decide, by decide⟩ rfl rfl (Nat.le_of_ble_eq_true rfl) dX7_change_14 rfl (kd_ie ?_)
    refine kw_ifne_b (tgt := 22) hC dX7_change_17 rfl (by decide) ⟨fun c17 => ?_, fun c17 => ?_⟩
    · refine kw_aload_n hC dX7_change_22 rfl 0 rfl ?_
      refine kg_0_2 hC w7 f25 dX7_change_23 rfl (by decide) (by decide) ?_
      refine kw_iload_n hC dX7_change_26 rfl 1 rfl ?_
      refine ka_20 hC dX7_change_27 rfl (by decide) (by decide) (by omega) (by omega) ?_
      refine kw_astore_n (lv' := [(3, _), (0, _), (1, _), (2, _)]) hC dX7_change_28 rfl (by decide) rfl ?_
      refine kw_aload_n hC dX7_change_29 rfl 0 rfl ?_
      refine kg_1_0 hC w6 f157 dX7_change_30 rfl (by omega) (by omega) ?_
      refine kw_iload_n hC dX7_change_33 rfl 3 rfl ?_
      refine ka_2 hC dX7_change_34 rfl (by omega) (by omega) (by omega) (by omega) ?_
      have q1 := hwa b (by omega) (by omega)
      refine kw_istore (lv' := [(4, _), (3, _), (0, _), (1, _), (2, _)]) hC dX7_change_35 rfl (by decide) rfl ?_
      refine kw_aload_n hC dX7_change_37 rfl 1 rfl ?_
      refine kg_1_0 hC w6 f157 dX7_change_38 rfl (by omega) (by omega) ?_
      refine kw_iload_n hC dX7_change_41 rfl 4 rfl ?_
      refine kw_iconst hC dX7_change_42 rfl ?_
      refine kw_iadd hC dX7_change_43 rfl ?_
      refine ka_2 hC dX7_change_44 rfl (by omega) (by omega) (by omega) (by omega) ?_
      have q2 := hwa (b + 1) (by omega) (by omega)
      refine kw_istore (lv' := [(5, _), (4, _), (3, _), (0, _), (1, _), (2, _)]) hC dX7_change_45 rfl (by decide) rfl ?_
      refine kw_aload_n hC dX7_change_47 rfl 3 rfl ?_
      refine kg_0_0 hC w7 f12 dX7_change_48 rfl (by decide) (by decide) ?_
      refine kw_iload hC dX7_change_51 rfl 1 rfl ?_
      refine kw_iload hC dX7_change_53 rfl 0 rfl ?_
      refine kw_callV hC (d_X3_meetsAt hD (by omega) (by omega) (by omega) (by omega) hRS) gX7_change_X3_meetsAt ⟨_, rfl⟩ rfl (by omega) (show (16 : Int) < 17 by omega) rfl ⟨rfl, rfl⟩ 2 (by decide +kernel) ⟨by decide, by decide⟩ rfl rfl (Nat.le_of_ble_eq_true rfl) dX7_change_55 rfl (kd_ie ?_)
      obtain ⟨m, hm⟩ : ∃ m, m = mAt (S 2 a b) (S 2 a (b + 1)) (S 5 16 (6 * S 2 a b + S 2 a (b + 1))) (S 5 16 (6 * S 2 a (b + 1) + S 2 a b)) := ⟨_, rfl⟩
      rw [← hm]
      have hmr : 0 ≤ m ∧ m ≤ 6 := hm ▸ mAt_r _ _ _ _
      refine kw_istore (lv' := [(6, _), (5, _), (4, _), (3, _), (0, _), (1, _), (2, _)]) hC dX7_change_58 rfl (by decide) rfl ?_
      refine kw_iload hC dX7_change_60 rfl 2 rfl ?_
      refine kw_iload hC dX7_change_62 rfl 1 rfl ?_
      refine kw_icmp_eq (tgt := 82) hC dX7_change_64 rfl (by decide) (by omega) (by omega) ⟨fun c64 => ?_, fun c64 => ?_⟩
      · refine kw_bipush hC dX7_change_82 rfl (by decide) ?_
        exact hR9.1 rfl _ _ _ _ dX7_change_84 (by first | exact ⟨_, rfl, hw9, fWd_tX hfS⟩ | exact ⟨_, rfl, hRS, Fr.rfl _ S⟩)
      · refine kw_iload hC dX7_change_67 rfl 0 rfl ?_
        refine kw_if_eq (tgt := 82) hC dX7_change_69 rfl (by decide) (by omega) ⟨fun c69 => ?_, fun c69 => ?_⟩
        · refine kw_bipush hC dX7_change_82 rfl (by decide) ?_
          exact hR9.1 rfl _ _ _ _ dX7_change_84 (by first | exact ⟨_, rfl, hw9, fWd_tX hfS⟩ | exact ⟨_, rfl, hRS, Fr.rfl _ S⟩)
        · refine kw_aload_n hC dX7_change_72 rfl 3 rfl ?_
          refine kw_iload_n hC dX7_change_73 rfl 6 rfl ?_
          refine kw_iload hC dX7_change_74 rfl 0 rfl ?_
          refine kw_callV hC (d_X6_isInTurn hD (by omega) (by omega) (by omega) (by omega) (by omega) (by omega) (by omega) hwa (by omega)) gX7_change_X6_isInTurn ⟨_, rfl⟩ rfl (by omega) (show (_ : Int) < 12 by omega) rfl ⟨rfl, rfl⟩ 2 (by decide +kernel) ⟨by decide, by decide⟩ rfl rfl (Nat.le_of_ble_eq_true rfl) dX7_change_76 rfl (kd_ie ?_)
          refine kw_ifne_b (tgt := 85) hC dX7_change_79 rfl (by decide) ⟨fun c79 => ?_, fun c79 => ?_⟩
          · obtain ⟨c79, -⟩ := c79
            refine kw_iconst hC dX7_change_85 rfl ?_
            refine kw_istore (lv' := [(7, _), (6, _), (5, _), (4, _), (3, _), (0, _), (1, _), (2, _)]) hC dX7_change_86 rfl (by decide) rfl ?_
            have hL88 : ∀ (n88 : Nat) (y : Int) (W88 : wSt), Fr (fWd a) S W88 → (0 ≤ y) → (y ≤ m) → (W88 1 a 1 = S 1 a 1) → (WV (W88 2 a) (S 1 a 1) (S 3 16 2)) → m - y < (n88 : Int) → Wk E g 8 W88 88 [(0, vr g 0 0), (1, vi a), (2, vi b), (3, vr g 1 a), (4, vi (S 2 a b)), (5, vi (S 2 a (b + 1))), (6, vi m), (7, vi y)] [] := by
              intro n88
              induction n88 with
              | zero => intro y W88 hfW88 y0 y1 hl hr hm88; exact absurd hm88 (by omega)
              | succ n88 ih88 =>
                intro y W88 hfW88 y0 y1 hl hr hm88
                refine kw_iload hC dX7_change_88 rfl 7 rfl ?_
                refine kw_iload hC dX7_change_90 rfl 6 rfl ?_
                refine kw_icmp_ge (tgt := 124) hC dX7_change_92 rfl (by decide) (by omega) (by omega) ⟨fun c92 => ?_, fun c92 => ?_⟩
                · have l9 : W88 1 a 1 = S 1 a 1 := hl
                  have hw9 := hTW W88 hfW88 (by omega) (hr.eq (fun _ _ _ => rfl) hl rfl)
                  refine kw_iload hC dX7_change_124 rfl 6 rfl ?_
                  exact hR9.1 rfl _ _ _ _ dX7_change_126 (by first | exact ⟨_, rfl, hw9, fWd_tX hfW88⟩ | exact ⟨_, rfl, hRS, Fr.rfl _ S⟩)
                · refine kw_aload_n hC dX7_change_95 rfl 3 rfl ?_
                  refine kg_1_0 hC w6 f157 dX7_change_96 rfl (by omega) (by omega) ?_
                  refine kw_iload_n hC dX7_change_99 rfl 2 rfl ?_
                  refine kw_iload hC dX7_change_100 rfl 7 rfl ?_
                  refine kw_iadd hC dX7_change_102 rfl ?_
                  refine kw_iload hC dX7_change_103 rfl 7 rfl ?_
                  refine kw_iconst hC dX7_change_105 rfl ?_
                  refine kw_irem hC dX7_change_106 rfl (by omega) (by omega) ?_
                  refine kw_if_ne (tgt := 115) hC dX7_change_107 rfl (by decide) (by omega) ⟨fun c107 => ?_, fun c107 => ?_⟩
                  · refine kw_iload hC dX7_change_115 rfl 4 rfl ?_
                    refine ks_2 hC dX7_change_117 rfl (by omega) (by omega) (by omega) (by omega) ?_
                    refine kw_hv hfW88 (by unfold fWd; omega) (fun S8 hfS8 hv8 ho8 => ?_)
                    have hr9 : WV (S8 2 a) (S 1 a 1) (S 3 16 2) := fun j j0 j1 => by rcases Decidable.em (j = b + y) with e | e; exact (by rw [e, hv8]; omega); exact (by rw [ho8 2 a j (by omega)]; exact hr j j0 j1)
                    refine kw_iinc (lv' := [(7, _), (0, _), (1, _), (2, _), (3, _), (4, _), (5, _), (6, _)]) hC dX7_change_118 rfl 7 rfl (by decide) rfl ?_
                    refine kw_goto (tgt := 88) hC dX7_change_121 rfl (by decide) ?_
                    refine kw_lv [1, 2, 3, 4, 5, 6, 7, 0] rfl ?_
                    exact ih88 (y + 1) S8 hfS8 (by omega) (by omega) ((ho8 1 a 1 (by omega)).trans hl) hr9 (by omega)
                  · refine kw_iload hC dX7_change_110 rfl 5 rfl ?_
                    refine kw_goto (tgt := 117) hC dX7_change_112 rfl (by decide) ?_
                    refine ks_2 hC dX7_change_117 rfl (by omega) (by omega) (by omega) (by omega) ?_
                    refine kw_hv hfW88 (by unfold fWd; omega) (fun S9 hfS9 hv9 ho9 => ?_)
                    have hr9 : WV (S9 2 a) (S 1 a 1) (S 3 16 2) := fun j j0 j1 => by rcases Decidable.em (j = b + y) with e | e; exact (by rw [e, hv9]; omega); exact (by rw [ho9 2 a j (by omega)]; exact hr j j0 j1)
                    refine kw_iinc (lv' := [(7, _), (0, _), (1, _), (2, _), (3, _), (4, _), (5, _), (6, _)]) hC dX7_change_118 rfl 7 rfl (by decide) rfl ?_
                    refine kw_goto (tgt := 88) hC dX7_change_121 rfl (by decide) ?_
                    refine kw_lv [1, 2, 3, 4, 5, 6, 7, 0] rfl ?_
                    exact ih88 (y + 1) S9 hfS9 (by omega) (by omega) ((ho9 1 a 1 (by omega)).trans hl) hr9 (by omega)
            refine kw_lv [5, 6, 7, 4, 3, 2, 1, 0] rfl ?_
            exact hL88 7 0 S hfS (by omega) (by omega) rfl hwa (by omega)
          · refine kw_bipush hC dX7_change_82 rfl (by decide) ?_
            exact hR9.1 rfl _ _ _ _ dX7_change_84 (by first | exact ⟨_, rfl, hw9, fWd_tX hfS⟩ | exact ⟨_, rfl, hRS, Fr.rfl _ S⟩)
    · refine kw_iconst hC dX7_change_20 rfl ?_
      exact hR9.1 rfl _ _ _ _ dX7_change_21 (by first | exact ⟨_, rfl, hw9, fWd_tX hfS⟩ | exact ⟨_, rfl, hRS, Fr.rfl _ S⟩)

set_option maxHeartbeats 4000000 in
set_option maxRecDepth 100000 in
theorem d_X7_shorten {g : wG} (hD : wD g) {S : wSt} {a b : Int} (ha : -2147483648 ≤ a ∧ a ≤ 2147483647) (hb : -2147483648 ≤ b ∧ b ≤ 2147483647) (hRS : CI S) (l : Launch) : Kt l yX7_shorten wsX7_shorten ({ frames := 4, cells := 0, slots := 0, locals := 96 } : Room) g S [vr g 0 0, vi a, vi b] (pI (fun _ S' => CI S' ∧ Fr tX S S')) := by
  refine Kt.of (cc := cX7_shorten) (nL := 3) (ret := (some .int)) (own := RX7) rfl hD (by decide) rfl (Nat.le_of_ble_eq_true rfl) ⟨rfl, rfl⟩ ?_
  intro E hC hR9
  have f25 : Cond.fieldLink RX7 25 "MirrorBench" "slots" "[LMirrorBench$Word;" ∈ wsX7_shorten := by decide +kernel
  have f40 : Cond.fieldLink RX7 40 "MirrorBench" "shortener" "LMirrorBench$Shortener;" ∈ wsX7_shorten := by decide +kernel
  have f59 : Cond.fieldLink RX7 59 "MirrorBench" "made" "LMirrorBench$Word;" ∈ wsX7_shorten := by decide +kernel
  have w7 : ∀ w ∈ wsX70, w ∈ wsX7_shorten := by decide +kernel
  show Wk E g 3 S 0 [(0, vr g 0 0), (1, vi a), (2, vi b)] []
  have hfS : Fr tC S S := Fr.rfl _ S
  have hRS := hRS.fr hfS
  have hnS := hRS.n
  have enS : S 3 16 2 = S 3 16 2 := hfS 3 16 2 (by unfold tC; omega)
  refine kw_iload_n hC dX7_shorten_0 rfl 1 rfl ?_
  refine kw_callS hC (d_X7_isSlot hD (by omega)) gX7_shorten_X7_isSlot rfl ⟨rfl, rfl⟩ 1 (by decide +kernel) ⟨by decide, by decide⟩ rfl rfl (Nat.le_of_ble_eq_true rfl) dX7_shorten_1 rfl (kd_ie ?_)
  refine kw_ifeq_b (tgt := 14) hC dX7_shorten_4 rfl (by decide) ⟨fun c4 => ?_, fun c4 => ?_⟩
  · refine kw_iconst hC dX7_shorten_14 rfl ?_
    exact hR9.1 rfl _ _ _ _ dX7_shorten_15 (by first | exact ⟨_, rfl, hp9.2.1, (tC_tX hfS).trans (fWd_tX hp9.2.2.1)⟩ | exact ⟨_, rfl, hRS, tC_tX hfS⟩)
  · refine kw_iload_n hC dX7_shorten_7 rfl 2 rfl ?_
    refine kw_callS hC (d_X7_isSlot hD (by omega)) gX7_shorten_X7_isSlot rfl ⟨rfl, rfl⟩ 1 (by decide +kernel) ⟨by decide, by decide⟩ rfl rfl (Nat.le_of_ble_eq_true rfl) dX7_shorten_8 rfl (kd_ie ?_)
    refine kw_ifne_b (tgt := 16) hC dX7_shorten_11 rfl (by decide) ⟨fun c11 => ?_, fun c11 => ?_⟩
    · have hla := hRS.ln a (by omega) (by omega)
      have hwa := hRS.wv a (by omega) (by omega)
      refine kw_aload_n hC dX7_shorten_16 rfl 0 rfl ?_
      refine kg_0_4 hC w7 f40 dX7_shorten_17 rfl (by decide) (by decide) ?_
      refine kw_aload_n hC dX7_shorten_20 rfl 0 rfl ?_
      refine kg_0_2 hC w7 f25 dX7_shorten_21 rfl (by decide) (by decide) ?_
      refine kw_iload_n hC dX7_shorten_24 rfl 1 rfl ?_
      refine ka_20 hC dX7_shorten_25 rfl (by decide) (by decide) (by omega) (by omega) ?_
      refine kw_aload_n hC dX7_shorten_26 rfl 0 rfl ?_
      refine kg_0_7 hC w7 f59 dX7_shorten_27 rfl (by decide) (by decide) ?_
      refine kw_callV hC (d_X5_makeShort hD (by omega) (by omega) (by omega) (by omega) (by omega) hRS hwa (by omega) (by omega)) gX7_shorten_X5_makeShort ⟨_, rfl⟩ rfl (by decide) (by decide) rfl ⟨rfl, rfl⟩ 2 (by decide +kernel) ⟨by decide, by decide⟩ rfl rfl (Nat.le_of_ble_eq_true rfl) dX7_shorten_30 rfl (kd_i (fun r3 S3 hp3 => ?_))
      obtain ⟨hg3, hp3⟩ := hp3
      have hfS3 : Fr tC S S3 := hfS.trans (hg3.mono (fun k i j h => by unfold fMs at h; unfold tC; omega))
      have hRS3 := hRS.fr hfS3
      have hnS3 := hRS3.n
      have enS3 : S3 3 16 2 = S 3 16 2 := hfS3 3 16 2 (by unfold tC; omega)
      obtain ⟨hb3, ⟨l03, l13⟩, hr3⟩ := hp3
      have hv8 : WV (S3 2 8) (S3 1 8 1) (S3 3 16 2) := hr3.eq (fun _ _ _ => rfl) rfl (by omega)
      refine kw_if_eq (tgt := 48) hC dX7_shorten_33 rfl (by decide) (by omega) ⟨fun c33 => ?_, fun c33 => ?_⟩
      · refine kw_bipush hC dX7_shorten_48 rfl (by decide) ?_
        exact hR9.1 rfl _ _ _ _ dX7_shorten_50 (by first | exact ⟨_, rfl, hp9.2.1, (tC_tX hfS3).trans (fWd_tX hp9.2.2.1)⟩ | exact ⟨_, rfl, hRS3, tC_tX hfS3⟩)
      · refine kw_aload_n hC dX7_shorten_36 rfl 0 rfl ?_
        refine kw_aload_n hC dX7_shorten_37 rfl 0 rfl ?_
        refine kg_0_7 hC w7 f59 dX7_shorten_38 rfl (by decide) (by decide) ?_
        refine kw_iload_n hC dX7_shorten_41 rfl 2 rfl ?_
        refine kw_callV hC (d_X7_store hD (by omega) (by omega) (by omega) (by omega) hRS3 hv8 (by omega) (by omega)) gX7_shorten_X7_store ⟨_, rfl⟩ rfl (by decide) (by decide) rfl ⟨rfl, rfl⟩ 2 (by decide +kernel) ⟨by decide, by decide⟩ rfl rfl (Nat.le_of_ble_eq_true rfl) dX7_shorten_42 rfl (kd_i (fun r9 Sz hp9 => ?_))
        refine kw_goto (tgt := 50) hC dX7_shorten_45 rfl (by decide) ?_
        exact hR9.1 rfl _ _ _ _ dX7_shorten_50 (by first | exact ⟨_, rfl, hp9.2.1, (tC_tX hfS3).trans (fWd_tX hp9.2.2.1)⟩ | exact ⟨_, rfl, hRS3, tC_tX hfS3⟩)
    · refine kw_iconst hC dX7_shorten_14 rfl ?_
      exact hR9.1 rfl _ _ _ _ dX7_shorten_15 (by first | exact ⟨_, rfl, hp9.2.1, (tC_tX hfS).trans (fWd_tX hp9.2.2.1)⟩ | exact ⟨_, rfl, hRS, tC_tX hfS⟩)

set_option maxHeartbeats 4000000 in
set_option maxRecDepth 100000 in
theorem d_X7_form {g : wG} (hD : wD g) {S : wSt} {a b : Int} (ha : -2147483648 ≤ a ∧ a ≤ 2147483647) (hb : -2147483648 ≤ b ∧ b ≤ 2147483647) (hRS : CI S) (l : Launch) : Kt l yX7_form wsX7_form ({ frames := 6, cells := 0, slots := 0, locals := 143 } : Room) g S [vr g 0 0, vi a, vi b] (pI (fun _ S' => CI S' ∧ Fr tX S S')) := by
  refine Kt.of (cc := cX7_form) (nL := 3) (ret := (some .int)) (own := RX7) rfl hD (by decide) rfl (Nat.le_of_ble_eq_true rfl) ⟨rfl, rfl⟩ ?_
  intro E hC hR9
  have f25 : Cond.fieldLink RX7 25 "MirrorBench" "slots" "[LMirrorBench$Word;" ∈ wsX7_form := by decide +kernel
  have f40 : Cond.fieldLink RX7 40 "MirrorBench" "shortener" "LMirrorBench$Shortener;" ∈ wsX7_form := by decide +kernel
  have f59 : Cond.fieldLink RX7 59 "MirrorBench" "made" "LMirrorBench$Word;" ∈ wsX7_form := by decide +kernel
  have w7 : ∀ w ∈ wsX70, w ∈ wsX7_form := by decide +kernel
  show Wk E g 3 S 0 [(0, vr g 0 0), (1, vi a), (2, vi b)] []
  have hfS : Fr tC S S := Fr.rfl _ S
  have hRS := hRS.fr hfS
  have hnS := hRS.n
  have enS : S 3 16 2 = S 3 16 2 := hfS 3 16 2 (by unfold tC; omega)
  refine kw_iload_n hC dX7_form_0 rfl 1 rfl ?_
  refine kw_callS hC (d_X7_isSlot hD (by omega)) gX7_form_X7_isSlot rfl ⟨rfl, rfl⟩ 1 (by decide +kernel) ⟨by decide, by decide⟩ rfl rfl (Nat.le_of_ble_eq_true rfl) dX7_form_1 rfl (kd_ie ?_)
  refine kw_ifeq_b (tgt := 14) hC dX7_form_4 rfl (by decide) ⟨fun c4 => ?_, fun c4 => ?_⟩
  · refine kw_iconst hC dX7_form_14 rfl ?_
    exact hR9.1 rfl _ _ _ _ dX7_form_15 (by first | exact ⟨_, rfl, hp9.2.1, (tC_tX hfS).trans (fWd_tX hp9.2.2.1)⟩ | exact ⟨_, rfl, hRS, tC_tX hfS⟩)
  · refine kw_iload_n hC dX7_form_7 rfl 2 rfl ?_
    refine kw_callS hC (d_X7_isSlot hD (by omega)) gX7_form_X7_isSlot rfl ⟨rfl, rfl⟩ 1 (by decide +kernel) ⟨by decide, by decide⟩ rfl rfl (Nat.le_of_ble_eq_true rfl) dX7_form_8 rfl (kd_ie ?_)
    refine kw_ifne_b (tgt := 16) hC dX7_form_11 rfl (by decide) ⟨fun c11 => ?_, fun c11 => ?_⟩
    · have hla := hRS.ln a (by omega) (by omega)
      have hwa := hRS.wv a (by omega) (by omega)
      refine kw_aload_n hC dX7_form_16 rfl 0 rfl ?_
      refine kg_0_4 hC w7 f40 dX7_form_17 rfl (by decide) (by decide) ?_
      refine kw_aload_n hC dX7_form_20 rfl 0 rfl ?_
      refine kg_0_2 hC w7 f25 dX7_form_21 rfl (by decide) (by decide) ?_
      refine kw_iload_n hC dX7_form_24 rfl 1 rfl ?_
      refine ka_20 hC dX7_form_25 rfl (by decide) (by decide) (by omega) (by omega) ?_
      refine kw_aload_n hC dX7_form_26 rfl 0 rfl ?_
      refine kg_0_7 hC w7 f59 dX7_form_27 rfl (by decide) (by decide) ?_
      refine kw_callV hC (d_X5_makeForm hD (by omega) (by omega) (by omega) (by omega) hRS hwa (by omega) (by omega)) gX7_form_X5_makeForm ⟨_, rfl⟩ rfl (by decide) (by decide) rfl ⟨rfl, rfl⟩ 2 (by decide +kernel) ⟨by decide, by decide⟩ rfl rfl (Nat.le_of_ble_eq_true rfl) dX7_form_30 rfl (kd_i (fun r3 S3 hp3 => ?_))
      obtain ⟨hg3, hp3⟩ := hp3
      have hfS3 : Fr tC S S3 := hfS.trans (hg3.mono (fun k i j h => by unfold fMd at h; unfold tC; omega))
      have hRS3 := hRS.fr hfS3
      have hnS3 := hRS3.n
      have enS3 : S3 3 16 2 = S 3 16 2 := hfS3 3 16 2 (by unfold tC; omega)
      obtain ⟨hb3, hq3⟩ := hp3
      have hqX := hq3
      refine kw_if_eq (tgt := 48) hC dX7_form_33 rfl (by decide) (by omega) ⟨fun c33 => ?_, fun c33 => ?_⟩
      · refine kw_bipush hC dX7_form_48 rfl (by decide) ?_
        exact hR9.1 rfl _ _ _ _ dX7_form_50 (by first | exact ⟨_, rfl, hp9.2.1, (tC_tX hfS3).trans (fWd_tX hp9.2.2.1)⟩ | exact ⟨_, rfl, hRS3, tC_tX hfS3⟩)
      · obtain ⟨⟨lX0, lX1⟩, hqW⟩ := hqX (by omega)
        have hv8 : WV (S3 2 8) (S3 1 8 1) (S3 3 16 2) := hqW.eq (fun _ _ _ => rfl) rfl (by omega)
        refine kw_aload_n hC dX7_form_36 rfl 0 rfl ?_
        refine kw_aload_n hC dX7_form_37 rfl 0 rfl ?_
        refine kg_0_7 hC w7 f59 dX7_form_38 rfl (by decide) (by decide) ?_
        refine kw_iload_n hC dX7_form_41 rfl 2 rfl ?_
        refine kw_callV hC (d_X7_store hD (by omega) (by omega) (by omega) (by omega) hRS3 hv8 (by omega) (by omega)) gX7_form_X7_store ⟨_, rfl⟩ rfl (by decide) (by decide) rfl ⟨rfl, rfl⟩ 2 (by decide +kernel) ⟨by decide, by decide⟩ rfl rfl (Nat.le_of_ble_eq_true rfl) dX7_form_42 rfl (kd_i (fun r9 Sz hp9 => ?_))
        refine kw_goto (tgt := 50) hC dX7_form_45 rfl (by decide) ?_
        exact hR9.1 rfl _ _ _ _ dX7_form_50 (by first | exact ⟨_, rfl, hp9.2.1, (tC_tX hfS3).trans (fWd_tX hp9.2.2.1)⟩ | exact ⟨_, rfl, hRS3, tC_tX hfS3⟩)
    · refine kw_iconst hC dX7_form_14 rfl ?_
      exact hR9.1 rfl _ _ _ _ dX7_form_15 (by first | exact ⟨_, rfl, hp9.2.1, (tC_tX hfS).trans (fWd_tX hp9.2.2.1)⟩ | exact ⟨_, rfl, hRS, tC_tX hfS⟩)

set_option maxHeartbeats 4000000 in
set_option maxRecDepth 100000 in
theorem d_X7_same {g : wG} (hD : wD g) {S : wSt} {a b : Int} (ha : -2147483648 ≤ a ∧ a ≤ 2147483647) (hb : -2147483648 ≤ b ∧ b ≤ 2147483647) (hRS : CI S) (l : Launch) : Kt l yX7_same wsX7_same ({ frames := 6, cells := 0, slots := 0, locals := 143 } : Room) g S [vr g 0 0, vi a, vi b] (pI (fun _ S' => CI S' ∧ Fr tX S S')) := by
  refine Kt.of (cc := cX7_same) (nL := 3) (ret := (some .int)) (own := RX7) rfl hD (by decide) rfl (Nat.le_of_ble_eq_true rfl) ⟨rfl, rfl⟩ ?_
  intro E hC hR9
  have f25 : Cond.fieldLink RX7 25 "MirrorBench" "slots" "[LMirrorBench$Word;" ∈ wsX7_same := by decide +kernel
  have f40 : Cond.fieldLink RX7 40 "MirrorBench" "shortener" "LMirrorBench$Shortener;" ∈ wsX7_same := by decide +kernel
  have f59 : Cond.fieldLink RX7 59 "MirrorBench" "made" "LMirrorBench$Word;" ∈ wsX7_same := by decide +kernel
  have f63 : Cond.fieldLink RX7 63 "MirrorBench" "other" "LMirrorBench$Word;" ∈ wsX7_same := by decide +kernel
  have w7 : ∀ w ∈ wsX70, w ∈ wsX7_same := by decide +kernel
  show Wk E g 3 S 0 [(0, vr g 0 0), (1, vi a), (2, vi b)] []
  have hfS : Fr tC S S := Fr.rfl _ S
  have hRS := hRS.fr hfS
  have hnS := hRS.n
  have enS : S 3 16 2 = S 3 16 2 := hfS 3 16 2 (by unfold tC; omega)
  refine kw_iload_n hC dX7_same_0 rfl 1 rfl ?_
  refine kw_callS hC (d_X7_isSlot hD (by omega)) gX7_same_X7_isSlot rfl ⟨rfl, rfl⟩ 1 (by decide +kernel) ⟨by decide, by decide⟩ rfl rfl (Nat.le_of_ble_eq_true rfl) dX7_same_1 rfl (kd_ie ?_)
  refine kw_ifeq_b (tgt := 14) hC dX7_same_4 rfl (by decide) ⟨fun c4 => ?_, fun c4 => ?_⟩
  · refine kw_iconst hC dX7_same_14 rfl ?_
    exact hR9.1 rfl _ _ _ _ dX7_same_15 (by first | exact ⟨_, rfl, hp9.2.1, (tC_tX hfS).trans (fWd_tX hp9.2.2.1)⟩ | exact ⟨_, rfl, hRS, tC_tX hfS⟩)
  · refine kw_iload_n hC dX7_same_7 rfl 2 rfl ?_
    refine kw_callS hC (d_X7_isSlot hD (by omega)) gX7_same_X7_isSlot rfl ⟨rfl, rfl⟩ 1 (by decide +kernel) ⟨by decide, by decide⟩ rfl rfl (Nat.le_of_ble_eq_true rfl) dX7_same_8 rfl (kd_ie ?_)
    refine kw_ifne_b (tgt := 16) hC dX7_same_11 rfl (by decide) ⟨fun c11 => ?_, fun c11 => ?_⟩
    · have hla := hRS.ln a (by omega) (by omega)
      have hlb := hRS.ln b (by omega) (by omega)
      have hwa := hRS.wv a (by omega) (by omega)
      have hwb := hRS.wv b (by omega) (by omega)
      refine kw_aload_n hC dX7_same_16 rfl 0 rfl ?_
      refine kg_0_4 hC w7 f40 dX7_same_17 rfl (by decide) (by decide) ?_
      refine kw_aload_n hC dX7_same_20 rfl 0 rfl ?_
      refine kg_0_2 hC w7 f25 dX7_same_21 rfl (by decide) (by decide) ?_
      refine kw_iload_n hC dX7_same_24 rfl 1 rfl ?_
      refine ka_20 hC dX7_same_25 rfl (by decide) (by decide) (by omega) (by omega) ?_
      refine kw_aload_n hC dX7_same_26 rfl 0 rfl ?_
      refine kg_0_7 hC w7 f59 dX7_same_27 rfl (by decide) (by decide) ?_
      refine kw_callV hC (d_X5_makeForm hD (by omega) (by omega) (by omega) (by omega) hRS hwa (by omega) (by omega)) gX7_same_X5_makeForm ⟨_, rfl⟩ rfl (by decide) (by decide) rfl ⟨rfl, rfl⟩ 2 (by decide +kernel) ⟨by decide, by decide⟩ rfl rfl (Nat.le_of_ble_eq_true rfl) dX7_same_30 rfl (kd_i (fun r3 S3 hp3 => ?_))
      obtain ⟨hg3, hp3⟩ := hp3
      have hfS3 : Fr tC S S3 := hfS.trans (hg3.mono (fun k i j h => by unfold fMd at h; unfold tC; omega))
      have hRS3 := hRS.fr hfS3
      have hnS3 := hRS3.n
      have enS3 : S3 3 16 2 = S 3 16 2 := hfS3 3 16 2 (by unfold tC; omega)
      obtain ⟨hb3, hq3⟩ := hp3
      have hqX := hq3
      refine kw_if_eq (tgt := 56) hC dX7_same_33 rfl (by decide) (by omega) ⟨fun c33 => ?_, fun c33 => ?_⟩
      · refine kw_bipush hC dX7_same_56 rfl (by decide) ?_
        exact hR9.1 rfl _ _ _ _ dX7_same_58 (by first | exact ⟨_, rfl, hp9.2.1, (tC_tX hfS3).trans (fWd_tX hp9.2.2.1)⟩ | exact ⟨_, rfl, hRS3, tC_tX hfS3⟩)
      · obtain ⟨⟨lX0, lX1⟩, hqW⟩ := hqX (by omega)
        have hv8 : WV (S3 2 8) (S3 1 8 1) (S3 3 16 2) := hqW.eq (fun _ _ _ => rfl) rfl (by omega)
        have eb3 : S3 1 b 1 = S 1 b 1 := hfS3 1 b 1 (by unfold tC; omega)
        have hwc : WV (S3 2 b) (S3 1 b 1) (S3 3 16 2) := hwb.fr (T := tC) hfS3 (by unfold tC; omega) (fun j => by unfold tC; omega) (by omega)
        refine kw_aload_n hC dX7_same_36 rfl 0 rfl ?_
        refine kg_0_4 hC w7 f40 dX7_same_37 rfl (by decide) (by decide) ?_
        refine kw_aload_n hC dX7_same_40 rfl 0 rfl ?_
        refine kg_0_2 hC w7 f25 dX7_same_41 rfl (by decide) (by decide) ?_
        refine kw_iload_n hC dX7_same_44 rfl 2 rfl ?_
        refine ka_20 hC dX7_same_45 rfl (by decide) (by decide) (by omega) (by omega) ?_
        refine kw_aload_n hC dX7_same_46 rfl 0 rfl ?_
        refine kg_0_8 hC w7 f63 dX7_same_47 rfl (by decide) (by decide) ?_
        refine kw_callV hC (d_X5_makeForm hD (by omega) (by omega) (by omega) (by omega) hRS3 hwc (by omega) (by omega)) gX7_same_X5_makeForm ⟨_, rfl⟩ rfl (by decide) (by decide) rfl ⟨rfl, rfl⟩ 2 (by decide +kernel) ⟨by decide, by decide⟩ rfl rfl (Nat.le_of_ble_eq_true rfl) dX7_same_50 rfl (kd_i (fun r5 S5 hp5 => ?_))
        obtain ⟨hg5, hp5⟩ := hp5
        have hfS5 : Fr tC S S5 := hfS3.trans (hg5.mono (fun k i j h => by unfold fMd at h; unfold tC; omega))
        have hRS5 := hRS.fr hfS5
        have hnS5 := hRS5.n
        have enS5 : S5 3 16 2 = S 3 16 2 := hfS5 3 16 2 (by unfold tC; omega)
        obtain ⟨hb5, hq5⟩ := hp5
        have hqY := hq5
        have e85 : S5 1 8 1 = S3 1 8 1 := hg5 1 8 1 (by unfold fMd; omega)
        refine kw_if_ne (tgt := 59) hC dX7_same_53 rfl (by decide) (by omega) ⟨fun c53 => ?_, fun c53 => ?_⟩
        · obtain ⟨⟨lY0, lY1⟩, -⟩ := hqY (by omega)
          refine kw_aload_n hC dX7_same_59 rfl 0 rfl ?_
          refine kg_0_7 hC w7 f59 dX7_same_60 rfl (by decide) (by decide) ?_
          refine kw_aload_n hC dX7_same_63 rfl 0 rfl ?_
          refine kg_0_8 hC w7 f63 dX7_same_64 rfl (by decide) (by decide) ?_
          refine kw_callV hC (d_X6_isLike hD (by omega) (by omega) (by omega) (by omega) (by omega) (by omega) (by omega) (by omega) ) gX7_same_X6_isLike ⟨_, rfl⟩ rfl (by omega) (show (_ : Int) < 12 by omega) rfl ⟨rfl, rfl⟩ 1 (by decide +kernel) ⟨by decide, by decide⟩ rfl rfl (Nat.le_of_ble_eq_true rfl) dX7_same_67 rfl (kd_i (fun r9 S9 hp9 => ?_))
          obtain ⟨hb9, rfl⟩ := hp9
          refine kw_if_eq (tgt := 77) hC dX7_same_70 rfl (by decide) (by omega) ⟨fun c70 => ?_, fun c70 => ?_⟩
          · refine kw_iconst hC dX7_same_77 rfl ?_
            exact hR9.1 rfl _ _ _ _ dX7_same_78 (by first | exact ⟨_, rfl, hp9.2.1, (tC_tX hfS5).trans (fWd_tX hp9.2.2.1)⟩ | exact ⟨_, rfl, hRS5, tC_tX hfS5⟩)
          · refine kw_iconst hC dX7_same_73 rfl ?_
            refine kw_goto (tgt := 78) hC dX7_same_74 rfl (by decide) ?_
            exact hR9.1 rfl _ _ _ _ dX7_same_78 (by first | exact ⟨_, rfl, hp9.2.1, (tC_tX hfS5).trans (fWd_tX hp9.2.2.1)⟩ | exact ⟨_, rfl, hRS5, tC_tX hfS5⟩)
        · refine kw_bipush hC dX7_same_56 rfl (by decide) ?_
          exact hR9.1 rfl _ _ _ _ dX7_same_58 (by first | exact ⟨_, rfl, hp9.2.1, (tC_tX hfS5).trans (fWd_tX hp9.2.2.1)⟩ | exact ⟨_, rfl, hRS5, tC_tX hfS5⟩)
    · refine kw_iconst hC dX7_same_14 rfl ?_
      exact hR9.1 rfl _ _ _ _ dX7_same_15 (by first | exact ⟨_, rfl, hp9.2.1, (tC_tX hfS).trans (fWd_tX hp9.2.2.1)⟩ | exact ⟨_, rfl, hRS, tC_tX hfS⟩)

set_option maxHeartbeats 4000000 in
set_option maxRecDepth 100000 in
theorem d_X7_downs {g : wG} (hD : wD g) {S : wSt} {a b : Int} (ha : -2147483648 ≤ a ∧ a ≤ 2147483647) (hb : -2147483648 ≤ b ∧ b ≤ 2147483647) (hRS : CI S) (l : Launch) : Kt l yX7_downs wsX7_downs ({ frames := 4, cells := 0, slots := 0, locals := 96 } : Room) g S [vr g 0 0, vi a, vi b] (pI (fun _ S' => CI S' ∧ Fr tX S S')) := by
  refine Kt.of (cc := cX7_downs) (nL := 6) (ret := (some .int)) (own := RX7) rfl hD (by decide) rfl (Nat.le_of_ble_eq_true rfl) ⟨rfl, rfl⟩ ?_
  intro E hC hR9
  have f12 : Cond.fieldLink RX7 12 "MirrorBench" "set" "LMirrorBench$Mirrors;" ∈ wsX7_downs := by decide +kernel
  have f25 : Cond.fieldLink RX7 25 "MirrorBench" "slots" "[LMirrorBench$Word;" ∈ wsX7_downs := by decide +kernel
  have f40 : Cond.fieldLink RX7 40 "MirrorBench" "shortener" "LMirrorBench$Shortener;" ∈ wsX7_downs := by decide +kernel
  have f59 : Cond.fieldLink RX7 59 "MirrorBench" "made" "LMirrorBench$Word;" ∈ wsX7_downs := by decide +kernel
  have f83 : Cond.fieldLink RX7 83 "MirrorBench$Mirrors" "size" "I" ∈ wsX7_downs := by decide +kernel
  have w3 : ∀ w ∈ wsX30, w ∈ wsX7_downs := by decide +kernel
  have w7 : ∀ w ∈ wsX70, w ∈ wsX7_downs := by decide +kernel
  show Wk E g 6 S 0 [(0, vr g 0 0), (1, vi a), (2, vi b)] []
  have hfS : Fr tC S S := Fr.rfl _ S
  have hRS := hRS.fr hfS
  have hnS := hRS.n
  have enS : S 3 16 2 = S 3 16 2 := hfS 3 16 2 (by unfold tC; omega)
  refine kw_iload_n hC dX7_downs_0 rfl 1 rfl ?_
  refine kw_callS hC (d_X7_isSlot hD (by omega)) gX7_downs_X7_isSlot rfl ⟨rfl, rfl⟩ 1 (by decide +kernel) ⟨by decide, by decide⟩ rfl rfl (Nat.le_of_ble_eq_true rfl) dX7_downs_1 rfl (kd_ie ?_)
  refine kw_ifne_b (tgt := 9) hC dX7_downs_4 rfl (by decide) ⟨fun c4 => ?_, fun c4 => ?_⟩
  · have hla := hRS.ln a (by omega) (by omega)
    have hwa := hRS.wv a (by omega) (by omega)
    refine kw_aload_n hC dX7_downs_9 rfl 0 rfl ?_
    refine kg_0_4 hC w7 f40 dX7_downs_10 rfl (by decide) (by decide) ?_
    refine kw_aload_n hC dX7_downs_13 rfl 0 rfl ?_
    refine kg_0_2 hC w7 f25 dX7_downs_14 rfl (by decide) (by decide) ?_
    refine kw_iload_n hC dX7_downs_17 rfl 1 rfl ?_
    refine ka_20 hC dX7_downs_18 rfl (by decide) (by decide) (by omega) (by omega) ?_
    refine kw_aload_n hC dX7_downs_19 rfl 0 rfl ?_
    refine kg_0_7 hC w7 f59 dX7_downs_20 rfl (by decide) (by decide) ?_
    refine kw_callV hC (d_X5_makeShort hD (by omega) (by omega) (by omega) (by omega) (by omega) hRS hwa (by omega) (by omega)) gX7_downs_X5_makeShort ⟨_, rfl⟩ rfl (by decide) (by decide) rfl ⟨rfl, rfl⟩ 2 (by decide +kernel) ⟨by decide, by decide⟩ rfl rfl (Nat.le_of_ble_eq_true rfl) dX7_downs_23 rfl (kd_i (fun r2 S2 hp2 => ?_))
    obtain ⟨hg2, hp2⟩ := hp2
    have hfS2 : Fr tC S S2 := hfS.trans (hg2.mono (fun k i j h => by unfold fMs at h; unfold tC; omega))
    have hRS2 := hRS.fr hfS2
    have hnS2 := hRS2.n
    have enS2 : S2 3 16 2 = S 3 16 2 := hfS2 3 16 2 (by unfold tC; omega)
    obtain ⟨hb2, ⟨l02, l12⟩, hr2⟩ := hp2
    have hv8 : WV (S2 2 8) (S2 1 8 1) (S2 3 16 2) := hr2.eq (fun _ _ _ => rfl) rfl (by omega)
    refine kw_if_ne (tgt := 32) hC dX7_downs_26 rfl (by decide) (by omega) ⟨fun c26 => ?_, fun c26 => ?_⟩
    · refine kw_iconst hC dX7_downs_32 rfl ?_
      refine kw_istore_n (lv' := [(3, _), (0, _), (1, _), (2, _)]) hC dX7_downs_33 rfl (by decide) rfl ?_
      refine kw_iconst hC dX7_downs_34 rfl ?_
      refine kw_istore (lv' := [(4, _), (3, _), (0, _), (1, _), (2, _)]) hC dX7_downs_35 rfl (by decide) rfl ?_
      have hL37 : ∀ (n37 : Nat) (s : Int) (z : Int) (W37 : wSt), Fr tC S W37 → (0 ≤ s) → (s ≤ W37 3 16 2) → (s ≤ 6) → (0 ≤ W37 1 8 1) → (W37 1 8 1 ≤ 100) → (WV (W37 2 8) (W37 1 8 1) (W37 3 16 2)) → 6 - s < (n37 : Int) → Wk E g 6 W37 37 [(0, vr g 0 0), (1, vi a), (2, vi b), (3, vi z), (4, vi s)] [] := by
        intro n37
        induction n37 with
        | zero => intro s z W37 hfW37 s0 s1 s6 l0 l1 hv8 hm37; exact absurd hm37 (by omega)
        | succ n37 ih37 =>
          intro s z W37 hfW37 s0 s1 s6 l0 l1 hv8 hm37
          have hRW37 := hRS.fr hfW37
          have hnW37 := hRW37.n
          have enW37 : W37 3 16 2 = S 3 16 2 := hfW37 3 16 2 (by unfold tC; omega)
          refine kw_iload hC dX7_downs_37 rfl 4 rfl ?_
          refine kw_aload_n hC dX7_downs_39 rfl 0 rfl ?_
          refine kg_0_0 hC w7 f12 dX7_downs_40 rfl (by decide) (by decide) ?_
          refine kg_3_2 hC w3 f83 dX7_downs_43 rfl (by omega) (by omega) ?_
          refine kw_icmp_ge (tgt := 113) hC dX7_downs_46 rfl (by decide) (by omega) (by omega) ⟨fun c46 => ?_, fun c46 => ?_⟩
          · refine kw_iload_n hC dX7_downs_113 rfl 3 rfl ?_
            exact hR9.1 rfl _ _ _ _ dX7_downs_114 (by first | exact ⟨_, rfl, hp9.2.1, (tC_tX hfW37).trans (fWd_tX hp9.2.2.1)⟩ | exact ⟨_, rfl, hRW37, tC_tX hfW37⟩)
          · refine kw_iload_n hC dX7_downs_49 rfl 2 rfl ?_
            refine kw_if_eq (tgt := 69) hC dX7_downs_50 rfl (by decide) (by omega) ⟨fun c50 => ?_, fun c50 => ?_⟩
            · refine kw_aload_n hC dX7_downs_69 rfl 0 rfl ?_
              refine kg_0_4 hC w7 f40 dX7_downs_70 rfl (by decide) (by decide) ?_
              refine kw_aload_n hC dX7_downs_73 rfl 0 rfl ?_
              refine kg_0_7 hC w7 f59 dX7_downs_74 rfl (by decide) (by decide) ?_
              refine kw_iload hC dX7_downs_77 rfl 4 rfl ?_
              refine kw_callV hC (d_X5_goesBehind hD (by omega) (by omega) (by omega) (by omega) hRW37 hv8 (by omega) (by omega)) gX7_downs_X5_goesBehind ⟨_, rfl⟩ rfl (by decide) (by decide) rfl ⟨rfl, rfl⟩ 2 (by decide +kernel) ⟨by decide, by decide⟩ rfl rfl (Nat.le_of_ble_eq_true rfl) dX7_downs_79 rfl (kd_i (fun r6 S6 hp6 => ?_))
              obtain ⟨hg6, hp6⟩ := hp6
              have hfS6 : Fr tC S S6 := hfW37.trans (hg6.mono (fun k i j h => by unfold fA at h; unfold tC; omega))
              have hRS6 := hRS.fr hfS6
              have hnS6 := hRS6.n
              have enS6 : S6 3 16 2 = S 3 16 2 := hfS6 3 16 2 (by unfold tC; omega)
              obtain ⟨hk9, -⟩ := hp6
              have e86 : S6 1 8 1 = W37 1 8 1 := hg6 1 8 1 (by unfold fA; omega)
              replace hv8 : WV (S6 2 8) (S6 1 8 1) (S6 3 16 2) := hv8.fr hg6 (by unfold fA; omega) (fun j => by unfold fA; omega) (by omega)
              refine kw_istore (lv' := [(5, _), (0, _), (1, _), (2, _), (3, _), (4, _)]) hC dX7_downs_82 rfl (by decide) rfl ?_
              refine kw_iload hC dX7_downs_84 rfl 0 rfl ?_
              refine kw_bipush hC dX7_downs_86 rfl (by decide) ?_
              refine kw_icmp_ne (tgt := 94) hC dX7_downs_88 rfl (by decide) (by omega) (by omega) ⟨fun c88 => ?_, fun c88 => ?_⟩
              · refine kw_iload hC dX7_downs_94 rfl 0 rfl ?_
                refine kw_iconst hC dX7_downs_96 rfl ?_
                refine kw_icmp_eq (tgt := 107) hC dX7_downs_97 rfl (by decide) (by omega) (by omega) ⟨fun c97 => ?_, fun c97 => ?_⟩
                · refine kw_iinc (lv' := [(4, _), (5, _), (0, _), (1, _), (2, _), (3, _)]) hC dX7_downs_107 rfl 5 rfl (by decide) rfl ?_
                  refine kw_goto (tgt := 37) hC dX7_downs_110 rfl (by decide) ?_
                  refine kw_lv [2, 3, 4, 5, 0] rfl ?_
                  exact ih37 (s + 1) _ S6 hfS6 (by omega) (by omega) (by omega) (by omega) (by omega) hv8 (by omega)
                · refine kw_iload_n hC dX7_downs_100 rfl 4 rfl ?_
                  refine kw_iconst hC dX7_downs_101 rfl ?_
                  refine kw_iload hC dX7_downs_102 rfl 5 rfl ?_
                  refine kw_ishlX hC dX7_downs_104 rfl ?_
                  refine kw_iorX hC dX7_downs_105 rfl ?_
                  refine kw_istore_n (lv' := [(3, _), (5, _), (0, _), (1, _), (2, _), (4, _)]) hC dX7_downs_106 rfl (by decide) rfl ?_
                  refine kw_iinc (lv' := [(4, _), (3, _), (5, _), (0, _), (1, _), (2, _)]) hC dX7_downs_107 rfl 5 rfl (by decide) rfl ?_
                  refine kw_goto (tgt := 37) hC dX7_downs_110 rfl (by decide) ?_
                  refine kw_lv [3, 4, 5, 1, 0] rfl ?_
                  exact ih37 (s + 1) _ S6 hfS6 (by omega) (by omega) (by omega) (by omega) (by omega) hv8 (by omega)
              · refine kw_bipush hC dX7_downs_91 rfl (by decide) ?_
                exact hR9.1 rfl _ _ _ _ dX7_downs_93 (by first | exact ⟨_, rfl, hp9.2.1, (tC_tX hfS6).trans (fWd_tX hp9.2.2.1)⟩ | exact ⟨_, rfl, hRS6, tC_tX hfS6⟩)
            · refine kw_aload_n hC dX7_downs_53 rfl 0 rfl ?_
              refine kg_0_4 hC w7 f40 dX7_downs_54 rfl (by decide) (by decide) ?_
              refine kw_aload_n hC dX7_downs_57 rfl 0 rfl ?_
              refine kg_0_7 hC w7 f59 dX7_downs_58 rfl (by decide) (by decide) ?_
              refine kw_iload hC dX7_downs_61 rfl 4 rfl ?_
              refine kw_callV hC (d_X5_goesAhead hD (by omega) (by omega) (by omega) (by omega) hRW37 hv8 (by omega) (by omega)) gX7_downs_X5_goesAhead ⟨_, rfl⟩ rfl (by decide) (by decide) rfl ⟨rfl, rfl⟩ 2 (by decide +kernel) ⟨by decide, by decide⟩ rfl rfl (Nat.le_of_ble_eq_true rfl) dX7_downs_63 rfl (kd_i (fun r9 S9 hp9 => ?_))
              obtain ⟨hg9, hp9⟩ := hp9
              have hfS9 : Fr tC S S9 := hfW37.trans (hg9.mono (fun k i j h => by unfold fA at h; unfold tC; omega))
              have hRS9 := hRS.fr hfS9
              have hnS9 := hRS9.n
              have enS9 : S9 3 16 2 = S 3 16 2 := hfS9 3 16 2 (by unfold tC; omega)
              have hk9 := hp9
              have e89 : S9 1 8 1 = W37 1 8 1 := hg9 1 8 1 (by unfold fA; omega)
              replace hv8 : WV (S9 2 8) (S9 1 8 1) (S9 3 16 2) := hv8.fr hg9 (by unfold fA; omega) (fun j => by unfold fA; omega) (by omega)
              refine kw_goto (tgt := 82) hC dX7_downs_66 rfl (by decide) ?_
              refine kw_istore (lv' := [(5, _), (0, _), (1, _), (2, _), (3, _), (4, _)]) hC dX7_downs_82 rfl (by decide) rfl ?_
              refine kw_iload hC dX7_downs_84 rfl 0 rfl ?_
              refine kw_bipush hC dX7_downs_86 rfl (by decide) ?_
              refine kw_icmp_ne (tgt := 94) hC dX7_downs_88 rfl (by decide) (by omega) (by omega) ⟨fun c88 => ?_, fun c88 => ?_⟩
              · refine kw_iload hC dX7_downs_94 rfl 0 rfl ?_
                refine kw_iconst hC dX7_downs_96 rfl ?_
                refine kw_icmp_eq (tgt := 107) hC dX7_downs_97 rfl (by decide) (by omega) (by omega) ⟨fun c97 => ?_, fun c97 => ?_⟩
                · refine kw_iinc (lv' := [(4, _), (5, _), (0, _), (1, _), (2, _), (3, _)]) hC dX7_downs_107 rfl 5 rfl (by decide) rfl ?_
                  refine kw_goto (tgt := 37) hC dX7_downs_110 rfl (by decide) ?_
                  refine kw_lv [2, 3, 4, 5, 0] rfl ?_
                  exact ih37 (s + 1) _ S9 hfS9 (by omega) (by omega) (by omega) (by omega) (by omega) hv8 (by omega)
                · refine kw_iload_n hC dX7_downs_100 rfl 4 rfl ?_
                  refine kw_iconst hC dX7_downs_101 rfl ?_
                  refine kw_iload hC dX7_downs_102 rfl 5 rfl ?_
                  refine kw_ishlX hC dX7_downs_104 rfl ?_
                  refine kw_iorX hC dX7_downs_105 rfl ?_
                  refine kw_istore_n (lv' := [(3, _), (5, _), (0, _), (1, _), (2, _), (4, _)]) hC dX7_downs_106 rfl (by decide) rfl ?_
                  refine kw_iinc (lv' := [(4, _), (3, _), (5, _), (0, _), (1, _), (2, _)]) hC dX7_downs_107 rfl 5 rfl (by decide) rfl ?_
                  refine kw_goto (tgt := 37) hC dX7_downs_110 rfl (by decide) ?_
                  refine kw_lv [3, 4, 5, 1, 0] rfl ?_
                  exact ih37 (s + 1) _ S9 hfS9 (by omega) (by omega) (by omega) (by omega) (by omega) hv8 (by omega)
              · refine kw_bipush hC dX7_downs_91 rfl (by decide) ?_
                exact hR9.1 rfl _ _ _ _ dX7_downs_93 (by first | exact ⟨_, rfl, hp9.2.1, (tC_tX hfS9).trans (fWd_tX hp9.2.2.1)⟩ | exact ⟨_, rfl, hRS9, tC_tX hfS9⟩)
      refine kw_lv [2, 3, 4, 1, 0] rfl ?_
      exact hL37 7 0 _ S2 hfS2 (by omega) (by omega) (by omega) (by omega) (by omega) hv8 (by omega)
    · refine kw_bipush hC dX7_downs_29 rfl (by decide) ?_
      exact hR9.1 rfl _ _ _ _ dX7_downs_31 (by first | exact ⟨_, rfl, hp9.2.1, (tC_tX hfS2).trans (fWd_tX hp9.2.2.1)⟩ | exact ⟨_, rfl, hRS2, tC_tX hfS2⟩)
  · refine kw_iconst hC dX7_downs_7 rfl ?_
    exact hR9.1 rfl _ _ _ _ dX7_downs_8 (by first | exact ⟨_, rfl, hp9.2.1, (tC_tX hfS).trans (fWd_tX hp9.2.2.1)⟩ | exact ⟨_, rfl, hRS, tC_tX hfS⟩)

set_option maxHeartbeats 4000000 in
set_option maxRecDepth 100000 in
theorem d_X7_does {g : wG} (hD : wD g) {S : wSt} {a b c : Int} (ha : -2147483648 ≤ a ∧ a ≤ 2147483647) (hb : -2147483648 ≤ b ∧ b ≤ 2147483647) (hc : -2147483648 ≤ c ∧ c ≤ 2147483647) (hRS : CI S) (l : Launch) : Kt l yX7_does wsX7_does ({ frames := 3, cells := 0, slots := 0, locals := 73 } : Room) g S [vr g 0 0, vi a, vi b, vi c] (pL (fun _ S' => CI S' ∧ Fr tX S S')) := by
  refine Kt.of (cc := cX7_does) (nL := 4) (ret := (some .long)) (own := RX7) rfl hD (by decide) rfl (Nat.le_of_ble_eq_true rfl) ⟨rfl, rfl⟩ ?_
  intro E hC hR9
  have f12 : Cond.fieldLink RX7 12 "MirrorBench" "set" "LMirrorBench$Mirrors;" ∈ wsX7_does := by decide +kernel
  have f25 : Cond.fieldLink RX7 25 "MirrorBench" "slots" "[LMirrorBench$Word;" ∈ wsX7_does := by decide +kernel
  have f69 : Cond.fieldLink RX7 69 "MirrorBench" "spare" "[J" ∈ wsX7_does := by decide +kernel
  have f131 : Cond.fieldLink RX7 131 "MirrorBench$Word" "length" "I" ∈ wsX7_does := by decide +kernel
  have l196 : Cond.constantLong RX7 196 (Int64.ofInt (-10000000000001)) ∈ wsX7_does := by decide +kernel
  have l206 : Cond.constantLong RX7 206 (Int64.ofInt (-10000000000004)) ∈ wsX7_does := by decide +kernel
  have w6 : ∀ w ∈ wsX60, w ∈ wsX7_does := by decide +kernel
  have w7 : ∀ w ∈ wsX70, w ∈ wsX7_does := by decide +kernel
  show Wk E g 4 S 0 [(0, vr g 0 0), (1, vi a), (2, vi b), (3, vi c)] []
  have hfS : Fr tC S S := Fr.rfl _ S
  have hRS := hRS.fr hfS
  have hnS := hRS.n
  have enS : S 3 16 2 = S 3 16 2 := hfS 3 16 2 (by unfold tC; omega)
  refine kw_iload_n hC dX7_does_0 rfl 1 rfl ?_
  refine kw_callS hC (d_X7_isSlot hD (by omega)) gX7_does_X7_isSlot rfl ⟨rfl, rfl⟩ 1 (by decide +kernel) ⟨by decide, by decide⟩ rfl rfl (Nat.le_of_ble_eq_true rfl) dX7_does_1 rfl (kd_ie ?_)
  refine kw_ifeq_b (tgt := 29) hC dX7_does_4 rfl (by decide) ⟨fun c4 => ?_, fun c4 => ?_⟩
  · refine kw_ldc2 (z := -10000000000001) hC dX7_does_29 rfl l196 ?_
    exact hR9.2.2.1 rfl _ _ _ _ dX7_does_32 (by first | exact ⟨_, rfl, hp9.2.1, (tC_tX hfS).trans (fWd_tX hp9.2.2.1)⟩ | exact ⟨_, rfl, hRS, tC_tX hfS⟩)
  · refine kw_aload_n hC dX7_does_7 rfl 0 rfl ?_
    refine kg_0_0 hC w7 f12 dX7_does_8 rfl (by decide) (by decide) ?_
    refine kw_iload_n hC dX7_does_11 rfl 2 rfl ?_
    refine kw_callV hC (d_X3_has hD (by omega) (by omega) (by omega) (by omega) (by omega)) gX7_does_X3_has ⟨_, rfl⟩ rfl (by omega) (show (16 : Int) < 17 by omega) rfl ⟨rfl, rfl⟩ 1 (by decide +kernel) ⟨by decide, by decide⟩ rfl rfl (Nat.le_of_ble_eq_true rfl) dX7_does_12 rfl (kd_ie ?_)
    refine kw_ifeq_b (tgt := 29) hC dX7_does_15 rfl (by decide) ⟨fun c15 => ?_, fun c15 => ?_⟩
    · refine kw_ldc2 (z := -10000000000001) hC dX7_does_29 rfl l196 ?_
      exact hR9.2.2.1 rfl _ _ _ _ dX7_does_32 (by first | exact ⟨_, rfl, hp9.2.1, (tC_tX hfS).trans (fWd_tX hp9.2.2.1)⟩ | exact ⟨_, rfl, hRS, tC_tX hfS⟩)
    · refine kw_aload_n hC dX7_does_18 rfl 0 rfl ?_
      refine kg_0_0 hC w7 f12 dX7_does_19 rfl (by decide) (by decide) ?_
      refine kw_iload_n hC dX7_does_22 rfl 3 rfl ?_
      refine kw_callV hC (d_X3_has hD (by omega) (by omega) (by omega) (by omega) (by omega)) gX7_does_X3_has ⟨_, rfl⟩ rfl (by omega) (show (16 : Int) < 17 by omega) rfl ⟨rfl, rfl⟩ 1 (by decide +kernel) ⟨by decide, by decide⟩ rfl rfl (Nat.le_of_ble_eq_true rfl) dX7_does_23 rfl (kd_ie ?_)
      refine kw_ifne_b (tgt := 33) hC dX7_does_26 rfl (by decide) ⟨fun c26 => ?_, fun c26 => ?_⟩
      · have hla := hRS.ln a (by omega) (by omega)
        have hwa := hRS.wv a (by omega) (by omega)
        refine kw_aload_n hC dX7_does_33 rfl 0 rfl ?_
        refine kg_0_10 hC w7 f69 dX7_does_34 rfl (by decide) (by decide) ?_
        refine kw_iload_n hC dX7_does_37 rfl 2 rfl ?_
        refine kw_callS hC (d_X7_setOwn hD (c := 22) (w := 0) (fun _ => rfl) (by decide) (by decide) (by omega) (by omega)) gX7_does_X7_setOwn rfl ⟨rfl, rfl⟩ 2 (by decide +kernel) ⟨by decide, by decide⟩ rfl rfl (Nat.le_of_ble_eq_true rfl) dX7_does_38 rfl (kd_v (fun S4 hp4 => ?_))
        obtain ⟨hg4, hp4⟩ := hp4
        have hfS4 : Fr tC S S4 := hfS.trans (hg4.mono (fun k i j h => by unfold fCl at h; unfold tC; omega))
        have hRS4 := hRS.fr hfS4
        have hnS4 := hRS4.n
        have enS4 : S4 3 16 2 = S 3 16 2 := hfS4 3 16 2 (by unfold tC; omega)
        refine kw_aload_n hC dX7_does_41 rfl 0 rfl ?_
        refine kg_0_0 hC w7 f12 dX7_does_42 rfl (by decide) (by decide) ?_
        refine kw_aload_n hC dX7_does_45 rfl 0 rfl ?_
        refine kg_0_2 hC w7 f25 dX7_does_46 rfl (by decide) (by decide) ?_
        refine kw_iload_n hC dX7_does_49 rfl 1 rfl ?_
        refine ka_20 hC dX7_does_50 rfl (by decide) (by decide) (by omega) (by omega) ?_
        refine kw_aload_n hC dX7_does_51 rfl 0 rfl ?_
        refine kg_0_2 hC w7 f25 dX7_does_52 rfl (by decide) (by decide) ?_
        refine kw_iload_n hC dX7_does_55 rfl 1 rfl ?_
        refine ka_20 hC dX7_does_56 rfl (by decide) (by decide) (by omega) (by omega) ?_
        refine kg_1_1 hC w6 f131 dX7_does_57 rfl (by omega) (by omega) ?_
        refine kw_chi (z' := S 1 a 1) (hfS4 1 a 1 (by unfold tC; omega)) ?_
        have hws : WV (S4 2 a) (S 1 a 1) (S4 3 16 2) := hwa.eq (fun j _ _ => hfS4 2 a j (by unfold tC; omega)) rfl (by omega)
        refine kw_aload_n hC dX7_does_60 rfl 0 rfl ?_
        refine kg_0_10 hC w7 f69 dX7_does_61 rfl (by decide) (by decide) ?_
        refine kw_callV hC (d_X3_turnBy hD (c := 22) (w := 0) (fun _ => rfl) (by decide) (by decide) (by decide) (fun j => by unfold tC; omega) (by omega) (by omega) (by omega) (by omega) hRS4 hws) gX7_does_X3_turnBy ⟨_, rfl⟩ rfl (by omega) (show (16 : Int) < 17 by omega) rfl ⟨rfl, rfl⟩ 3 (by decide +kernel) ⟨by decide, by decide⟩ rfl rfl (Nat.le_of_ble_eq_true rfl) dX7_does_64 rfl (kd_i (fun r5 S5 hp5 => ?_))
        obtain ⟨hg5, hp5⟩ := hp5
        have hfS5 : Fr tC S S5 := hfS4.trans (hg5.mono (fun k i j h => by unfold fCl at h; unfold tC; omega))
        have hRS5 := hRS.fr hfS5
        have hnS5 := hRS5.n
        have enS5 : S5 3 16 2 = S 3 16 2 := hfS5 3 16 2 (by unfold tC; omega)
        obtain ⟨-, hb5⟩ := (⟨trivial, hp5⟩ : True ∧ _)
        refine kw_if_eq (tgt := 79) hC dX7_does_67 rfl (by decide) (by omega) ⟨fun c67 => ?_, fun c67 => ?_⟩
        · refine kw_ldc2 (z := -10000000000004) hC dX7_does_79 rfl l206 ?_
          exact hR9.2.2.1 rfl _ _ _ _ dX7_does_82 (by first | exact ⟨_, rfl, hp9.2.1, (tC_tX hfS5).trans (fWd_tX hp9.2.2.1)⟩ | exact ⟨_, rfl, hRS5, tC_tX hfS5⟩)
        · refine kw_aload_n hC dX7_does_70 rfl 0 rfl ?_
          refine kg_0_10 hC w7 f69 dX7_does_71 rfl (by decide) (by decide) ?_
          refine kw_iload_n hC dX7_does_74 rfl 3 rfl ?_
          refine ka_22 hC dX7_does_75 rfl (by decide) (by decide) (by omega) (by omega) ?_
          refine kw_goto (tgt := 82) hC dX7_does_76 rfl (by decide) ?_
          exact hR9.2.2.1 rfl _ _ _ _ dX7_does_82 (by first | exact ⟨_, rfl, hp9.2.1, (tC_tX hfS5).trans (fWd_tX hp9.2.2.1)⟩ | exact ⟨_, rfl, hRS5, tC_tX hfS5⟩)
      · refine kw_ldc2 (z := -10000000000001) hC dX7_does_29 rfl l196 ?_
        exact hR9.2.2.1 rfl _ _ _ _ dX7_does_32 (by first | exact ⟨_, rfl, hp9.2.1, (tC_tX hfS).trans (fWd_tX hp9.2.2.1)⟩ | exact ⟨_, rfl, hRS, tC_tX hfS⟩)

set_option maxHeartbeats 4000000 in
set_option maxRecDepth 100000 in
theorem d_X7_order {g : wG} (hD : wD g) {S : wSt} {a : Int} (ha : -2147483648 ≤ a ∧ a ≤ 2147483647) (hRS : CI S) (l : Launch) : Kt l yX7_order wsX7_order ({ frames := 3, cells := 0, slots := 0, locals := 73 } : Room) g S [vr g 0 0, vi a] (pI (fun _ S' => CI S' ∧ Fr tX S S')) := by
  refine Kt.of (cc := cX7_order) (nL := 5) (ret := (some .int)) (own := RX7) rfl hD (by decide) rfl (Nat.le_of_ble_eq_true rfl) ⟨rfl, rfl⟩ ?_
  intro E hC hR9
  have f12 : Cond.fieldLink RX7 12 "MirrorBench" "set" "LMirrorBench$Mirrors;" ∈ wsX7_order := by decide +kernel
  have f25 : Cond.fieldLink RX7 25 "MirrorBench" "slots" "[LMirrorBench$Word;" ∈ wsX7_order := by decide +kernel
  have f75 : Cond.fieldLink RX7 75 "MirrorBench" "images" "[[J" ∈ wsX7_order := by decide +kernel
  have f83 : Cond.fieldLink RX7 83 "MirrorBench$Mirrors" "size" "I" ∈ wsX7_order := by decide +kernel
  have f131 : Cond.fieldLink RX7 131 "MirrorBench$Word" "length" "I" ∈ wsX7_order := by decide +kernel
  have w3 : ∀ w ∈ wsX30, w ∈ wsX7_order := by decide +kernel
  have w6 : ∀ w ∈ wsX60, w ∈ wsX7_order := by decide +kernel
  have w7 : ∀ w ∈ wsX70, w ∈ wsX7_order := by decide +kernel
  show Wk E g 5 S 0 [(0, vr g 0 0), (1, vi a)] []
  have hfS : Fr tC S S := Fr.rfl _ S
  have hRS := hRS.fr hfS
  have hnS := hRS.n
  have enS : S 3 16 2 = S 3 16 2 := hfS 3 16 2 (by unfold tC; omega)
  refine kw_iload_n hC dX7_order_0 rfl 1 rfl ?_
  refine kw_callS hC (d_X7_isSlot hD (by omega)) gX7_order_X7_isSlot rfl ⟨rfl, rfl⟩ 1 (by decide +kernel) ⟨by decide, by decide⟩ rfl rfl (Nat.le_of_ble_eq_true rfl) dX7_order_1 rfl (kd_ie ?_)
  refine kw_ifne_b (tgt := 9) hC dX7_order_4 rfl (by decide) ⟨fun c4 => ?_, fun c4 => ?_⟩
  · have hla := hRS.ln a (by omega) (by omega)
    have hwa := hRS.wv a (by omega) (by omega)
    refine kw_iconst hC dX7_order_9 rfl ?_
    refine kw_istore_n (lv' := [(2, _), (0, _), (1, _)]) hC dX7_order_10 rfl (by decide) rfl ?_
    have hL11 : ∀ (n11 : Nat) (i : Int) (W11 : wSt), Fr tC S W11 → (0 ≤ i) → (i ≤ W11 3 16 2) → (i ≤ 6) → 6 - i < (n11 : Int) → Wk E g 5 W11 11 [(0, vr g 0 0), (1, vi a), (2, vi i)] [] := by
      intro n11
      induction n11 with
      | zero => intro i W11 hfW11 i0 i1 i6 hm11; exact absurd hm11 (by omega)
      | succ n11 ih11 =>
        intro i W11 hfW11 i0 i1 i6 hm11
        have hRW11 := hRS.fr hfW11
        have hnW11 := hRW11.n
        have enW11 : W11 3 16 2 = S 3 16 2 := hfW11 3 16 2 (by unfold tC; omega)
        refine kw_iload_n hC dX7_order_11 rfl 2 rfl ?_
        refine kw_aload_n hC dX7_order_12 rfl 0 rfl ?_
        refine kg_0_0 hC w7 f12 dX7_order_13 rfl (by decide) (by decide) ?_
        refine kg_3_2 hC w3 f83 dX7_order_16 rfl (by omega) (by omega) ?_
        refine kw_icmp_ge (tgt := 38) hC dX7_order_19 rfl (by decide) (by omega) (by omega) ⟨fun c19 => ?_, fun c19 => ?_⟩
        · refine kw_iconst hC dX7_order_38 rfl ?_
          refine kw_istore_n (lv' := [(2, _), (0, _), (1, _)]) hC dX7_order_39 rfl (by decide) rfl ?_
          have hL40 : ∀ (n40 : Nat) (n : Int) (W40 : wSt), Fr tC S W40 → (1 ≤ n) → (n ≤ 31) → 31 - n < (n40 : Int) → Wk E g 5 W40 40 [(0, vr g 0 0), (1, vi a), (2, vi n)] [] := by
            intro n40
            induction n40 with
            | zero => intro n W40 hfW40 n0 n1 hm40; exact absurd hm40 (by omega)
            | succ n40 ih40 =>
              intro n W40 hfW40 n0 n1 hm40
              have hRW40 := hRS.fr hfW40
              have hnW40 := hRW40.n
              have enW40 : W40 3 16 2 = S 3 16 2 := hfW40 3 16 2 (by unfold tC; omega)
              refine kw_iload_n hC dX7_order_40 rfl 2 rfl ?_
              refine kw_bipush hC dX7_order_41 rfl (by decide) ?_
              refine kw_icmp_gt (tgt := 134) hC dX7_order_43 rfl (by decide) (by omega) (by omega) ⟨fun c43 => ?_, fun c43 => ?_⟩
              · refine kw_bipush hC dX7_order_134 rfl (by decide) ?_
                exact hR9.1 rfl _ _ _ _ dX7_order_136 (by first | exact ⟨_, rfl, hp9.2.1, (tC_tX hfW40).trans (fWd_tX hp9.2.2.1)⟩ | exact ⟨_, rfl, hRW40, tC_tX hfW40⟩)
              · refine kw_iconst hC dX7_order_46 rfl ?_
                refine kw_istore_n (lv' := [(3, _), (0, _), (1, _), (2, _)]) hC dX7_order_47 rfl (by decide) rfl ?_
                refine kw_iconst hC dX7_order_48 rfl ?_
                refine kw_istore (lv' := [(4, _), (3, _), (0, _), (1, _), (2, _)]) hC dX7_order_49 rfl (by decide) rfl ?_
                have hL51 : ∀ (n51 : Nat) (i : Int) (z : Int) (W51 : wSt), Fr tC S W51 → (0 ≤ i) → (i ≤ W51 3 16 2) → (i ≤ 6) → (0 ≤ z) → (z ≤ i) → 6 - i < (n51 : Int) → Wk E g 5 W51 51 [(0, vr g 0 0), (1, vi a), (2, vi n), (3, vi z), (4, vi i)] [] := by
                  intro n51
                  induction n51 with
                  | zero => intro i z W51 hfW51 i0 i1 i6 z0 z1 hm51; exact absurd hm51 (by omega)
                  | succ n51 ih51 =>
                    intro i z W51 hfW51 i0 i1 i6 z0 z1 hm51
                    have hRW51 := hRS.fr hfW51
                    have hnW51 := hRW51.n
                    have enW51 : W51 3 16 2 = S 3 16 2 := hfW51 3 16 2 (by unfold tC; omega)
                    refine kw_iload hC dX7_order_51 rfl 4 rfl ?_
                    refine kw_aload_n hC dX7_order_53 rfl 0 rfl ?_
                    refine kg_0_0 hC w7 f12 dX7_order_54 rfl (by decide) (by decide) ?_
                    refine kg_3_2 hC w3 f83 dX7_order_57 rfl (by omega) (by omega) ?_
                    refine kw_icmp_ge (tgt := 122) hC dX7_order_60 rfl (by decide) (by omega) (by omega) ⟨fun c60 => ?_, fun c60 => ?_⟩
                    · refine kw_iload_n hC dX7_order_122 rfl 3 rfl ?_
                      refine kw_if_ne (tgt := 128) hC dX7_order_123 rfl (by decide) (by omega) ⟨fun c123 => ?_, fun c123 => ?_⟩
                      · refine kw_iinc (lv' := [(2, _), (0, _), (1, _), (3, _), (4, _)]) hC dX7_order_128 rfl 2 rfl (by decide) rfl ?_
                        refine kw_goto (tgt := 40) hC dX7_order_131 rfl (by decide) ?_
                        refine kw_lv [1, 2, 0] rfl ?_
                        exact ih40 (n + 1) W51 hfW51 (by omega) (by omega) (by omega)
                      · refine kw_iload_n hC dX7_order_126 rfl 2 rfl ?_
                        exact hR9.1 rfl _ _ _ _ dX7_order_127 (by first | exact ⟨_, rfl, hp9.2.1, (tC_tX hfW51).trans (fWd_tX hp9.2.2.1)⟩ | exact ⟨_, rfl, hRW51, tC_tX hfW51⟩)
                    · refine kw_aload_n hC dX7_order_63 rfl 0 rfl ?_
                      refine kg_0_0 hC w7 f12 dX7_order_64 rfl (by decide) (by decide) ?_
                      refine kw_aload_n hC dX7_order_67 rfl 0 rfl ?_
                      refine kg_0_2 hC w7 f25 dX7_order_68 rfl (by decide) (by decide) ?_
                      refine kw_iload_n hC dX7_order_71 rfl 1 rfl ?_
                      refine ka_20 hC dX7_order_72 rfl (by decide) (by decide) (by omega) (by omega) ?_
                      refine kw_aload_n hC dX7_order_73 rfl 0 rfl ?_
                      refine kg_0_2 hC w7 f25 dX7_order_74 rfl (by decide) (by decide) ?_
                      refine kw_iload_n hC dX7_order_77 rfl 1 rfl ?_
                      refine ka_20 hC dX7_order_78 rfl (by decide) (by decide) (by omega) (by omega) ?_
                      refine kg_1_1 hC w6 f131 dX7_order_79 rfl (by omega) (by omega) ?_
                      refine kw_chi (z' := S 1 a 1) (hfW51 1 a 1 (by unfold tC; omega)) ?_
                      have hws : WV (W51 2 a) (S 1 a 1) (W51 3 16 2) := hwa.eq (fun j _ _ => hfW51 2 a j (by unfold tC; omega)) rfl (by omega)
                      refine kw_aload_n hC dX7_order_82 rfl 0 rfl ?_
                      refine kg_0_11 hC w7 f75 dX7_order_83 rfl (by decide) (by decide) ?_
                      refine kw_iload hC dX7_order_86 rfl 4 rfl ?_
                      refine ka_23 hC dX7_order_88 rfl (by decide) (by decide) (by omega) (by omega) ?_
                      refine kw_callV hC (d_X3_turnBy hD (c := 24) (w := i) (fun _ => rfl) (by omega) (show (_ : Int) < 6 by omega) (by decide) (fun j => by unfold tC; omega) (by omega) (by omega) (by omega) (by omega) hRW51 hws) gX7_order_X3_turnBy ⟨_, rfl⟩ rfl (by omega) (show (16 : Int) < 17 by omega) rfl ⟨rfl, rfl⟩ 3 (by decide +kernel) ⟨by decide, by decide⟩ rfl rfl (Nat.le_of_ble_eq_true rfl) dX7_order_89 rfl (kd_i (fun r6 S6 hp6 => ?_))
                      obtain ⟨hg6, hp6⟩ := hp6
                      have hfS6 : Fr tC S S6 := hfW51.trans (hg6.mono (fun k i j h => by unfold fCl at h; unfold tC; omega))
                      have hRS6 := hRS.fr hfS6
                      have hnS6 := hRS6.n
                      have enS6 : S6 3 16 2 = S 3 16 2 := hfS6 3 16 2 (by unfold tC; omega)
                      obtain ⟨-, hb6⟩ := (⟨trivial, hp6⟩ : True ∧ _)
                      refine kw_if_ne (tgt := 98) hC dX7_order_92 rfl (by decide) (by omega) ⟨fun c92 => ?_, fun c92 => ?_⟩
                      · refine kw_aload_n hC dX7_order_98 rfl 0 rfl ?_
                        refine kg_0_11 hC w7 f75 dX7_order_99 rfl (by decide) (by decide) ?_
                        refine kw_iload hC dX7_order_102 rfl 4 rfl ?_
                        refine ka_23 hC dX7_order_104 rfl (by decide) (by decide) (by omega) (by omega) ?_
                        refine kw_iload hC dX7_order_105 rfl 4 rfl ?_
                        refine kw_callS hC (d_X7_isOwn hD (c := 24) (w := i) (fun _ => rfl) (by omega) (show (_ : Int) < 6 by omega) (by omega) (by omega)) gX7_order_X7_isOwn rfl ⟨rfl, rfl⟩ 2 (by decide +kernel) ⟨by decide, by decide⟩ rfl rfl (Nat.le_of_ble_eq_true rfl) dX7_order_107 rfl (kd_ie ?_)
                        refine kw_ifne_b (tgt := 116) hC dX7_order_110 rfl (by decide) ⟨fun c110 => ?_, fun c110 => ?_⟩
                        · refine kw_iinc (lv' := [(4, _), (0, _), (1, _), (2, _), (3, _)]) hC dX7_order_116 rfl 4 rfl (by decide) rfl ?_
                          refine kw_goto (tgt := 51) hC dX7_order_119 rfl (by decide) ?_
                          refine kw_lv [1, 2, 3, 4, 0] rfl ?_
                          exact ih51 (i + 1) _ S6 hfS6 (by omega) (by omega) (by omega) (by omega) (by omega) (by omega)
                        · refine kw_iinc (lv' := [(3, _), (0, _), (1, _), (2, _), (4, _)]) hC dX7_order_113 rfl 3 rfl (by decide) rfl ?_
                          refine kw_iinc (lv' := [(4, _), (3, _), (0, _), (1, _), (2, _)]) hC dX7_order_116 rfl 4 rfl (by decide) rfl ?_
                          refine kw_goto (tgt := 51) hC dX7_order_119 rfl (by decide) ?_
                          refine kw_lv [2, 3, 4, 1, 0] rfl ?_
                          exact ih51 (i + 1) _ S6 hfS6 (by omega) (by omega) (by omega) (by omega) (by omega) (by omega)
                      · refine kw_bipush hC dX7_order_95 rfl (by decide) ?_
                        exact hR9.1 rfl _ _ _ _ dX7_order_97 (by first | exact ⟨_, rfl, hp9.2.1, (tC_tX hfS6).trans (fWd_tX hp9.2.2.1)⟩ | exact ⟨_, rfl, hRS6, tC_tX hfS6⟩)
                refine kw_lv [2, 3, 4, 1, 0] rfl ?_
                exact hL51 7 0 _ W40 hfW40 (by omega) (by omega) (by omega) (by omega) (by omega) (by omega)
          refine kw_lv [1, 2, 0] rfl ?_
          exact hL40 31 1 W11 hfW11 (by omega) (by omega) (by omega)
        · refine kw_aload_n hC dX7_order_22 rfl 0 rfl ?_
          refine kg_0_11 hC w7 f75 dX7_order_23 rfl (by decide) (by decide) ?_
          refine kw_iload_n hC dX7_order_26 rfl 2 rfl ?_
          refine ka_23 hC dX7_order_27 rfl (by decide) (by decide) (by omega) (by omega) ?_
          refine kw_iload_n hC dX7_order_28 rfl 2 rfl ?_
          refine kw_callS hC (d_X7_setOwn hD (c := 24) (w := i) (fun _ => rfl) (by omega) (show (_ : Int) < 6 by omega) (by omega) (by omega)) gX7_order_X7_setOwn rfl ⟨rfl, rfl⟩ 2 (by decide +kernel) ⟨by decide, by decide⟩ rfl rfl (Nat.le_of_ble_eq_true rfl) dX7_order_29 rfl (kd_v (fun S9 hp9 => ?_))
          obtain ⟨hg9, hp9⟩ := hp9
          have hfS9 : Fr tC S S9 := hfW11.trans (hg9.mono (fun k i j h => by unfold fCl at h; unfold tC; omega))
          have hRS9 := hRS.fr hfS9
          have hnS9 := hRS9.n
          have enS9 : S9 3 16 2 = S 3 16 2 := hfS9 3 16 2 (by unfold tC; omega)
          refine kw_iinc (lv' := [(2, _), (0, _), (1, _)]) hC dX7_order_32 rfl 2 rfl (by decide) rfl ?_
          refine kw_goto (tgt := 11) hC dX7_order_35 rfl (by decide) ?_
          refine kw_lv [1, 2, 0] rfl ?_
          exact ih11 (i + 1) S9 hfS9 (by omega) (by omega) (by omega) (by omega)
    refine kw_lv [1, 2, 0] rfl ?_
    exact hL11 7 0 S hfS (by omega) (by omega) (by omega) (by omega)
  · refine kw_iconst hC dX7_order_7 rfl ?_
    exact hR9.1 rfl _ _ _ _ dX7_order_8 (by first | exact ⟨_, rfl, hp9.2.1, (tC_tX hfS).trans (fWd_tX hp9.2.2.1)⟩ | exact ⟨_, rfl, hRS, tC_tX hfS⟩)

set_option maxHeartbeats 4000000 in
set_option maxRecDepth 100000 in
theorem d_X7_below {g : wG} (hD : wD g) {S : wSt} {a b : Int} (ha : -2147483648 ≤ a ∧ a ≤ 2147483647) (hb : -2147483648 ≤ b ∧ b ≤ 2147483647) (hRS : CI S) (l : Launch) : Kt l yX7_below wsX7_below ({ frames := 4, cells := 0, slots := 0, locals := 96 } : Room) g S [vr g 0 0, vi a, vi b] (pI (fun _ S' => CI S' ∧ Fr tX S S')) := by
  refine Kt.of (cc := cX7_below) (nL := 5) (ret := (some .int)) (own := RX7) rfl hD (by decide) rfl (Nat.le_of_ble_eq_true rfl) ⟨rfl, rfl⟩ ?_
  intro E hC hR9
  have f25 : Cond.fieldLink RX7 25 "MirrorBench" "slots" "[LMirrorBench$Word;" ∈ wsX7_below := by decide +kernel
  have f40 : Cond.fieldLink RX7 40 "MirrorBench" "shortener" "LMirrorBench$Shortener;" ∈ wsX7_below := by decide +kernel
  have f59 : Cond.fieldLink RX7 59 "MirrorBench" "made" "LMirrorBench$Word;" ∈ wsX7_below := by decide +kernel
  have f63 : Cond.fieldLink RX7 63 "MirrorBench" "other" "LMirrorBench$Word;" ∈ wsX7_below := by decide +kernel
  have f131 : Cond.fieldLink RX7 131 "MirrorBench$Word" "length" "I" ∈ wsX7_below := by decide +kernel
  have f157 : Cond.fieldLink RX7 157 "MirrorBench$Word" "mirrors" "[I" ∈ wsX7_below := by decide +kernel
  have w6 : ∀ w ∈ wsX60, w ∈ wsX7_below := by decide +kernel
  have w7 : ∀ w ∈ wsX70, w ∈ wsX7_below := by decide +kernel
  show Wk E g 5 S 0 [(0, vr g 0 0), (1, vi a), (2, vi b)] []
  have hfS : Fr tC S S := Fr.rfl _ S
  have hRS := hRS.fr hfS
  have hnS := hRS.n
  have enS : S 3 16 2 = S 3 16 2 := hfS 3 16 2 (by unfold tC; omega)
  refine kw_iload_n hC dX7_below_0 rfl 1 rfl ?_
  refine kw_callS hC (d_X7_isSlot hD (by omega)) gX7_below_X7_isSlot rfl ⟨rfl, rfl⟩ 1 (by decide +kernel) ⟨by decide, by decide⟩ rfl rfl (Nat.le_of_ble_eq_true rfl) dX7_below_1 rfl (kd_ie ?_)
  refine kw_ifeq_b (tgt := 14) hC dX7_below_4 rfl (by decide) ⟨fun c4 => ?_, fun c4 => ?_⟩
  · refine kw_iconst hC dX7_below_14 rfl ?_
    exact hR9.1 rfl _ _ _ _ dX7_below_15 (by first | exact ⟨_, rfl, hp9.2.1, (tC_tX hfS).trans (fWd_tX hp9.2.2.1)⟩ | exact ⟨_, rfl, hRS, tC_tX hfS⟩)
  · refine kw_iload_n hC dX7_below_7 rfl 2 rfl ?_
    refine kw_callS hC (d_X7_isSlot hD (by omega)) gX7_below_X7_isSlot rfl ⟨rfl, rfl⟩ 1 (by decide +kernel) ⟨by decide, by decide⟩ rfl rfl (Nat.le_of_ble_eq_true rfl) dX7_below_8 rfl (kd_ie ?_)
    refine kw_ifne_b (tgt := 16) hC dX7_below_11 rfl (by decide) ⟨fun c11 => ?_, fun c11 => ?_⟩
    · have hla := hRS.ln a (by omega) (by omega)
      have hlb := hRS.ln b (by omega) (by omega)
      have hwa := hRS.wv a (by omega) (by omega)
      have hwb := hRS.wv b (by omega) (by omega)
      refine kw_aload_n hC dX7_below_16 rfl 0 rfl ?_
      refine kg_0_4 hC w7 f40 dX7_below_17 rfl (by decide) (by decide) ?_
      refine kw_aload_n hC dX7_below_20 rfl 0 rfl ?_
      refine kg_0_2 hC w7 f25 dX7_below_21 rfl (by decide) (by decide) ?_
      refine kw_iload_n hC dX7_below_24 rfl 1 rfl ?_
      refine ka_20 hC dX7_below_25 rfl (by decide) (by decide) (by omega) (by omega) ?_
      refine kw_aload_n hC dX7_below_26 rfl 0 rfl ?_
      refine kg_0_7 hC w7 f59 dX7_below_27 rfl (by decide) (by decide) ?_
      refine kw_callV hC (d_X5_makeShort hD (by omega) (by omega) (by omega) (by omega) (by omega) hRS hwa (by omega) (by omega)) gX7_below_X5_makeShort ⟨_, rfl⟩ rfl (by decide) (by decide) rfl ⟨rfl, rfl⟩ 2 (by decide +kernel) ⟨by decide, by decide⟩ rfl rfl (Nat.le_of_ble_eq_true rfl) dX7_below_30 rfl (kd_i (fun r3 S3 hp3 => ?_))
      obtain ⟨hg3, hp3⟩ := hp3
      have hfS3 : Fr tC S S3 := hfS.trans (hg3.mono (fun k i j h => by unfold fMs at h; unfold tC; omega))
      have hRS3 := hRS.fr hfS3
      have hnS3 := hRS3.n
      have enS3 : S3 3 16 2 = S 3 16 2 := hfS3 3 16 2 (by unfold tC; omega)
      obtain ⟨hb3, ⟨l03, l13⟩, hr3⟩ := hp3
      have hv8 : WV (S3 2 8) (S3 1 8 1) (S3 3 16 2) := hr3.eq (fun _ _ _ => rfl) rfl (by omega)
      refine kw_if_eq (tgt := 56) hC dX7_below_33 rfl (by decide) (by omega) ⟨fun c33 => ?_, fun c33 => ?_⟩
      · refine kw_bipush hC dX7_below_56 rfl (by decide) ?_
        exact hR9.1 rfl _ _ _ _ dX7_below_58 (by first | exact ⟨_, rfl, hp9.2.1, (tC_tX hfS3).trans (fWd_tX hp9.2.2.1)⟩ | exact ⟨_, rfl, hRS3, tC_tX hfS3⟩)
      · have eb3 : S3 1 b 1 = S 1 b 1 := hfS3 1 b 1 (by unfold tC; omega)
        have hwc : WV (S3 2 b) (S3 1 b 1) (S3 3 16 2) := hwb.fr (T := tC) hfS3 (by unfold tC; omega) (fun j => by unfold tC; omega) (by omega)
        refine kw_aload_n hC dX7_below_36 rfl 0 rfl ?_
        refine kg_0_4 hC w7 f40 dX7_below_37 rfl (by decide) (by decide) ?_
        refine kw_aload_n hC dX7_below_40 rfl 0 rfl ?_
        refine kg_0_2 hC w7 f25 dX7_below_41 rfl (by decide) (by decide) ?_
        refine kw_iload_n hC dX7_below_44 rfl 2 rfl ?_
        refine ka_20 hC dX7_below_45 rfl (by decide) (by decide) (by omega) (by omega) ?_
        refine kw_aload_n hC dX7_below_46 rfl 0 rfl ?_
        refine kg_0_8 hC w7 f63 dX7_below_47 rfl (by decide) (by decide) ?_
        refine kw_callV hC (d_X5_makeShort hD (by omega) (by omega) (by omega) (by omega) (by omega) hRS3 hwc (by omega) (by omega)) gX7_below_X5_makeShort ⟨_, rfl⟩ rfl (by decide) (by decide) rfl ⟨rfl, rfl⟩ 2 (by decide +kernel) ⟨by decide, by decide⟩ rfl rfl (Nat.le_of_ble_eq_true rfl) dX7_below_50 rfl (kd_i (fun r5 S5 hp5 => ?_))
        obtain ⟨hg5, hp5⟩ := hp5
        have hfS5 : Fr tC S S5 := hfS3.trans (hg5.mono (fun k i j h => by unfold fMs at h; unfold tC; omega))
        have hRS5 := hRS.fr hfS5
        have hnS5 := hRS5.n
        have enS5 : S5 3 16 2 = S 3 16 2 := hfS5 3 16 2 (by unfold tC; omega)
        obtain ⟨hb5, ⟨l05, l15⟩, hr5⟩ := hp5
        have hv9 : WV (S5 2 9) (S5 1 9 1) (S5 3 16 2) := hr5.eq (fun _ _ _ => rfl) rfl (by omega)
        have e85 : S5 1 8 1 = S3 1 8 1 := hg5 1 8 1 (by unfold fMs; omega)
        replace hv8 : WV (S5 2 8) (S5 1 8 1) (S5 3 16 2) := hv8.fr hg5 (by unfold fMs; omega) (fun j => by unfold fMs; omega) (by omega)
        refine kw_if_ne (tgt := 59) hC dX7_below_53 rfl (by decide) (by omega) ⟨fun c53 => ?_, fun c53 => ?_⟩
        · refine kw_aload_n hC dX7_below_59 rfl 0 rfl ?_
          refine kg_0_8 hC w7 f63 dX7_below_60 rfl (by decide) (by decide) ?_
          refine kg_1_1 hC w6 f131 dX7_below_63 rfl (by omega) (by omega) ?_
          refine kw_iconst hC dX7_below_66 rfl ?_
          refine kw_isub hC dX7_below_67 rfl ?_
          refine kw_istore_n (lv' := [(3, _), (0, _), (1, _), (2, _)]) hC dX7_below_68 rfl (by decide) rfl ?_
          have hL69 : ∀ (n69 : Nat) (x : Int) (W69 : wSt), Fr tC S W69 → (-1 ≤ x) → (x < W69 1 9 1) → (W69 1 9 1 ≤ 100) → (0 ≤ W69 1 8 1) → (W69 1 8 1 ≤ 100) → (WV (W69 2 8) (W69 1 8 1) (W69 3 16 2)) → (WV (W69 2 9) (W69 1 9 1) (W69 3 16 2)) → x + 1 < (n69 : Int) → Wk E g 5 W69 69 [(0, vr g 0 0), (1, vi a), (2, vi b), (3, vi x)] [] := by
            intro n69
            induction n69 with
            | zero => intro x W69 hfW69 x0 x1 x2 l0 l1 hv8 hv9 hm69; exact absurd hm69 (by omega)
            | succ n69 ih69 =>
              intro x W69 hfW69 x0 x1 x2 l0 l1 hv8 hv9 hm69
              have hRW69 := hRS.fr hfW69
              have hnW69 := hRW69.n
              have enW69 : W69 3 16 2 = S 3 16 2 := hfW69 3 16 2 (by unfold tC; omega)
              refine kw_iload_n hC dX7_below_69 rfl 3 rfl ?_
              refine kw_if_lt (tgt := 126) hC dX7_below_70 rfl (by decide) (by omega) ⟨fun c70 => ?_, fun c70 => ?_⟩
              · refine kw_aload_n hC dX7_below_126 rfl 0 rfl ?_
                refine kg_0_7 hC w7 f59 dX7_below_127 rfl (by decide) (by decide) ?_
                refine kg_1_1 hC w6 f131 dX7_below_130 rfl (by omega) (by omega) ?_
                refine kw_if_ne (tgt := 140) hC dX7_below_133 rfl (by decide) (by omega) ⟨fun c133 => ?_, fun c133 => ?_⟩
                · refine kw_iconst hC dX7_below_140 rfl ?_
                  exact hR9.1 rfl _ _ _ _ dX7_below_141 (by first | exact ⟨_, rfl, hp9.2.1, (tC_tX hfW69).trans (fWd_tX hp9.2.2.1)⟩ | exact ⟨_, rfl, hRW69, tC_tX hfW69⟩)
                · refine kw_iconst hC dX7_below_136 rfl ?_
                  refine kw_goto (tgt := 141) hC dX7_below_137 rfl (by decide) ?_
                  exact hR9.1 rfl _ _ _ _ dX7_below_141 (by first | exact ⟨_, rfl, hp9.2.1, (tC_tX hfW69).trans (fWd_tX hp9.2.2.1)⟩ | exact ⟨_, rfl, hRW69, tC_tX hfW69⟩)
              · refine kw_aload_n hC dX7_below_73 rfl 0 rfl ?_
                refine kg_0_4 hC w7 f40 dX7_below_74 rfl (by decide) (by decide) ?_
                refine kw_aload_n hC dX7_below_77 rfl 0 rfl ?_
                refine kg_0_7 hC w7 f59 dX7_below_78 rfl (by decide) (by decide) ?_
                refine kw_aload_n hC dX7_below_81 rfl 0 rfl ?_
                refine kg_0_8 hC w7 f63 dX7_below_82 rfl (by decide) (by decide) ?_
                refine kg_1_0 hC w6 f157 dX7_below_85 rfl (by omega) (by omega) ?_
                refine kw_iload_n hC dX7_below_88 rfl 3 rfl ?_
                refine ka_2 hC dX7_below_89 rfl (by omega) (by omega) (by omega) (by omega) ?_
                have hlx := hv9 x (by omega) (by omega)
                refine kw_callV hC (d_X5_goesBehind hD (by omega) (by omega) (by omega) (by omega) hRW69 hv8 (by omega) (by omega)) gX7_below_X5_goesBehind ⟨_, rfl⟩ rfl (by decide) (by decide) rfl ⟨rfl, rfl⟩ 2 (by decide +kernel) ⟨by decide, by decide⟩ rfl rfl (Nat.le_of_ble_eq_true rfl) dX7_below_90 rfl (kd_i (fun r9 S9 hp9 => ?_))
                obtain ⟨hg9, hp9⟩ := hp9
                have hfS9 : Fr tC S S9 := hfW69.trans (hg9.mono (fun k i j h => by unfold fA at h; unfold tC; omega))
                have hRS9 := hRS.fr hfS9
                have hnS9 := hRS9.n
                have enS9 : S9 3 16 2 = S 3 16 2 := hfS9 3 16 2 (by unfold tC; omega)
                obtain ⟨hk9, -⟩ := hp9
                have e89 : S9 1 8 1 = W69 1 8 1 := hg9 1 8 1 (by unfold fA; omega)
                replace hv8 : WV (S9 2 8) (S9 1 8 1) (S9 3 16 2) := hv8.fr hg9 (by unfold fA; omega) (fun j => by unfold fA; omega) (by omega)
                have e99 : S9 1 9 1 = W69 1 9 1 := hg9 1 9 1 (by unfold fA; omega)
                replace hv9 : WV (S9 2 9) (S9 1 9 1) (S9 3 16 2) := hv9.fr hg9 (by unfold fA; omega) (fun j => by unfold fA; omega) (by omega)
                refine kw_istore (lv' := [(4, _), (0, _), (1, _), (2, _), (3, _)]) hC dX7_below_93 rfl (by decide) rfl ?_
                refine kw_iload hC dX7_below_95 rfl 0 rfl ?_
                refine kw_bipush hC dX7_below_97 rfl (by decide) ?_
                refine kw_icmp_ne (tgt := 105) hC dX7_below_99 rfl (by decide) (by omega) (by omega) ⟨fun c99 => ?_, fun c99 => ?_⟩
                · refine kw_iload hC dX7_below_105 rfl 0 rfl ?_
                  refine kw_iconst hC dX7_below_107 rfl ?_
                  refine kw_icmp_eq (tgt := 120) hC dX7_below_108 rfl (by decide) (by omega) (by omega) ⟨fun c108 => ?_, fun c108 => ?_⟩
                  · refine kw_iinc (lv' := [(3, _), (4, _), (0, _), (1, _), (2, _)]) hC dX7_below_120 rfl 4 rfl (by decide) rfl ?_
                    refine kw_goto (tgt := 69) hC dX7_below_123 rfl (by decide) ?_
                    refine kw_lv [2, 3, 4, 0] rfl ?_
                    exact ih69 (x + -1) S9 hfS9 (by omega) (by omega) (by omega) (by omega) (by omega) hv8 hv9 (by omega)
                  · refine kw_aload_n hC dX7_below_111 rfl 1 rfl ?_
                    refine kg_0_7 hC w7 f59 dX7_below_112 rfl (by decide) (by decide) ?_
                    refine kw_iload hC dX7_below_115 rfl 0 rfl ?_
                    refine kw_callV hC (d_X6_removeAt hD (by omega) (by omega) (by omega) (by omega) (by omega)) gX7_below_X6_removeAt ⟨_, rfl⟩ rfl (by omega) (show (_ : Int) < 12 by omega) rfl ⟨rfl, rfl⟩ 1 (by decide +kernel) ⟨by decide, by decide⟩ rfl rfl (Nat.le_of_ble_eq_true rfl) dX7_below_117 rfl (kd_v (fun S12 hp12 => ?_))
                    obtain ⟨hg12, hp12⟩ := hp12
                    have hfS12 : Fr tC S S12 := hfS9.trans (hg12.mono (fun k i j h => by unfold fWd at h; unfold tC; omega))
                    have hRS12 := hRS.fr hfS12
                    have hnS12 := hRS12.n
                    have enS12 : S12 3 16 2 = S 3 16 2 := hfS12 3 16 2 (by unfold tC; omega)
                    obtain ⟨y1, y2, y3⟩ := hp12
                    replace hv8 : WV (S12 2 8) (S12 1 8 1) (S12 3 16 2) := (y1 ▸ WV.del hv8 y2 y3 (by omega)).eq (fun _ _ _ => rfl) rfl (by omega)
                    have e912 : S12 1 9 1 = S9 1 9 1 := hg12 1 9 1 (by unfold fWd; omega)
                    replace hv9 : WV (S12 2 9) (S12 1 9 1) (S12 3 16 2) := hv9.fr hg12 (by unfold fWd; omega) (fun j => by unfold fWd; omega) (by omega)
                    refine kw_iinc (lv' := [(3, _), (4, _), (0, _), (1, _), (2, _)]) hC dX7_below_120 rfl 4 rfl (by decide) rfl ?_
                    refine kw_goto (tgt := 69) hC dX7_below_123 rfl (by decide) ?_
                    refine kw_lv [2, 3, 4, 0] rfl ?_
                    exact ih69 (x + -1) S12 hfS12 (by omega) (by omega) (by omega) (by omega) (by omega) hv8 hv9 (by omega)
                · refine kw_bipush hC dX7_below_102 rfl (by decide) ?_
                  exact hR9.1 rfl _ _ _ _ dX7_below_104 (by first | exact ⟨_, rfl, hp9.2.1, (tC_tX hfS9).trans (fWd_tX hp9.2.2.1)⟩ | exact ⟨_, rfl, hRS9, tC_tX hfS9⟩)
          refine kw_lv [1, 2, 3, 0] rfl ?_
          exact hL69 101 _ S5 hfS5 (by omega) (by omega) (by omega) (by omega) (by omega) hv8 hv9 (by omega)
        · refine kw_bipush hC dX7_below_56 rfl (by decide) ?_
          exact hR9.1 rfl _ _ _ _ dX7_below_58 (by first | exact ⟨_, rfl, hp9.2.1, (tC_tX hfS5).trans (fWd_tX hp9.2.2.1)⟩ | exact ⟨_, rfl, hRS5, tC_tX hfS5⟩)
    · refine kw_iconst hC dX7_below_14 rfl ?_
      exact hR9.1 rfl _ _ _ _ dX7_below_15 (by first | exact ⟨_, rfl, hp9.2.1, (tC_tX hfS).trans (fWd_tX hp9.2.2.1)⟩ | exact ⟨_, rfl, hRS, tC_tX hfS⟩)

set_option maxHeartbeats 4000000 in
set_option maxRecDepth 100000 in
theorem d_X7_joinWay {g : wG} (hD : wD g) {S : wSt} {a b : Int} (a0 : 0 ≤ a) (a1 : a < 8) (b0 : 0 ≤ b) (b1 : b < 8) (hRS : CI S) (l : Launch) : Kt l yX7_joinWay wsX7_joinWay ({ frames := 2, cells := 0, slots := 0, locals := 47 } : Room) g S [vr g 0 0, vi a, vi b] (pI (fun r S' => Fr (fWd 10) S S' ∧ ((r = 0 ∨ r = 1) ∧ (r = 1 → (0 ≤ S' 1 10 1 ∧ S' 1 10 1 ≤ 100) ∧ WV (S' 2 10) (S' 1 10 1) (S 3 16 2))))) := by
  refine Kt.of (cc := cX7_joinWay) (nL := 3) (ret := (some .boolean)) (own := RX7) rfl hD (by decide) rfl (Nat.le_of_ble_eq_true rfl) ⟨rfl, rfl⟩ ?_
  intro E hC hR9
  have f25 : Cond.fieldLink RX7 25 "MirrorBench" "slots" "[LMirrorBench$Word;" ∈ wsX7_joinWay := by decide +kernel
  have f66 : Cond.fieldLink RX7 66 "MirrorBench" "joined" "LMirrorBench$Word;" ∈ wsX7_joinWay := by decide +kernel
  have f131 : Cond.fieldLink RX7 131 "MirrorBench$Word" "length" "I" ∈ wsX7_joinWay := by decide +kernel
  have w6 : ∀ w ∈ wsX60, w ∈ wsX7_joinWay := by decide +kernel
  have w7 : ∀ w ∈ wsX70, w ∈ wsX7_joinWay := by decide +kernel
  show Wk E g 3 S 0 [(0, vr g 0 0), (1, vi a), (2, vi b)] []
  have hfS : Fr (fWd 10) S S := Fr.rfl _ S
  have hRS : CI S := hRS.fr (hfS.mono (fun k i j h => by unfold fWd at h; unfold tC; omega))
  have hnS := hRS.n
  have enS : S 3 16 2 = S 3 16 2 := hfS 3 16 2 (by unfold fWd; omega)
  have hla := hRS.ln a (by omega) (by omega)
  have hlb := hRS.ln b (by omega) (by omega)
  have hwa := hRS.wv a (by omega) (by omega)
  have hwb := hRS.wv b (by omega) (by omega)
  refine kw_aload_n hC dX7_joinWay_0 rfl 0 rfl ?_
  refine kg_0_2 hC w7 f25 dX7_joinWay_1 rfl (by decide) (by decide) ?_
  refine kw_iload_n hC dX7_joinWay_4 rfl 1 rfl ?_
  refine ka_20 hC dX7_joinWay_5 rfl (by decide) (by decide) (by omega) (by omega) ?_
  refine kg_1_1 hC w6 f131 dX7_joinWay_6 rfl (by omega) (by omega) ?_
  refine kw_aload_n hC dX7_joinWay_9 rfl 0 rfl ?_
  refine kg_0_2 hC w7 f25 dX7_joinWay_10 rfl (by decide) (by decide) ?_
  refine kw_iload_n hC dX7_joinWay_13 rfl 2 rfl ?_
  refine ka_20 hC dX7_joinWay_14 rfl (by decide) (by decide) (by omega) (by omega) ?_
  refine kg_1_1 hC w6 f131 dX7_joinWay_15 rfl (by omega) (by omega) ?_
  refine kw_iadd hC dX7_joinWay_18 rfl ?_
  refine kw_bipush hC dX7_joinWay_19 rfl (by decide) ?_
  refine kw_icmp_le (tgt := 26) hC dX7_joinWay_21 rfl (by decide) (by omega) (by omega) ⟨fun c21 => ?_, fun c21 => ?_⟩
  · refine kw_aload_n hC dX7_joinWay_26 rfl 0 rfl ?_
    refine kg_0_9 hC w7 f66 dX7_joinWay_27 rfl (by decide) (by decide) ?_
    refine kw_aload_n hC dX7_joinWay_30 rfl 0 rfl ?_
    refine kg_0_2 hC w7 f25 dX7_joinWay_31 rfl (by decide) (by decide) ?_
    refine kw_iload_n hC dX7_joinWay_34 rfl 1 rfl ?_
    refine ka_20 hC dX7_joinWay_35 rfl (by decide) (by decide) (by omega) (by omega) ?_
    refine kw_callV hC (d_X6_takeInverted hD (by omega) (by omega) (by omega) (by omega) (by omega) (by omega) (by omega) ) gX7_joinWay_X6_takeInverted ⟨_, rfl⟩ rfl (by omega) (show (_ : Int) < 12 by omega) rfl ⟨rfl, rfl⟩ 1 (by decide +kernel) ⟨by decide, by decide⟩ rfl rfl (Nat.le_of_ble_eq_true rfl) dX7_joinWay_36 rfl (kd_v (fun S2 hp2 => ?_))
    obtain ⟨hg2, hp2⟩ := hp2
    have hfS2 : Fr (fWd 10) S S2 := hfS.trans (hg2.mono (fun k i j h => by unfold fWd at h; unfold fWd; omega))
    have hRS2 : CI S2 := hRS.fr (hfS2.mono (fun k i j h => by unfold fWd at h; unfold tC; omega))
    have hnS2 := hRS2.n
    have enS2 : S2 3 16 2 = S 3 16 2 := hfS2 3 16 2 (by unfold fWd; omega)
    obtain ⟨y1, y2⟩ := hp2
    have hv : WV (S2 2 10) (S2 1 10 1) (S 3 16 2) := fun j j0 j1 => by rw [y2 j j0 (by omega)]; exact hwa (S 1 a 1 - 1 - j) (by omega) (by omega)
    have eb : S2 1 b 1 = S 1 b 1 := hfS2 1 b 1 (by unfold fWd; omega)
    have eb2 : ∀ j, S2 2 b j = S 2 b j := fun j => hfS2 2 b j (by unfold fWd; omega)
    refine kw_aload_n hC dX7_joinWay_39 rfl 0 rfl ?_
    refine kg_0_9 hC w7 f66 dX7_joinWay_40 rfl (by decide) (by decide) ?_
    refine kw_aload_n hC dX7_joinWay_43 rfl 0 rfl ?_
    refine kg_0_2 hC w7 f25 dX7_joinWay_44 rfl (by decide) (by decide) ?_
    refine kw_iload_n hC dX7_joinWay_47 rfl 2 rfl ?_
    refine ka_20 hC dX7_joinWay_48 rfl (by decide) (by decide) (by omega) (by omega) ?_
    refine kw_callV hC (d_X6_append hD (by omega) (by omega) (by omega) (by omega) (by omega) (by omega) (by omega) ) gX7_joinWay_X6_append ⟨_, rfl⟩ rfl (by omega) (show (_ : Int) < 12 by omega) rfl ⟨rfl, rfl⟩ 1 (by decide +kernel) ⟨by decide, by decide⟩ rfl rfl (Nat.le_of_ble_eq_true rfl) dX7_joinWay_49 rfl (kd_v (fun S3 hp3 => ?_))
    obtain ⟨hg3, hp3⟩ := hp3
    have hfS3 : Fr (fWd 10) S S3 := hfS2.trans (hg3.mono (fun k i j h => by unfold fWd at h; unfold fWd; omega))
    have hRS3 : CI S3 := hRS.fr (hfS3.mono (fun k i j h => by unfold fWd at h; unfold tC; omega))
    have hnS3 := hRS3.n
    have enS3 : S3 3 16 2 = S 3 16 2 := hfS3 3 16 2 (by unfold fWd; omega)
    obtain ⟨z1, z2, z3⟩ := hp3
    replace hv : WV (S3 2 10) (S3 1 10 1) (S 3 16 2) := fun j j0 j1 => by rcases Decidable.em (j < S2 1 10 1) with e | e; exact (by rw [z2 j j0 e]; exact hv j j0 e); exact (by have h5 := z3 (j - S2 1 10 1) (by omega) (by omega); rw [show S2 1 10 1 + (j - S2 1 10 1) = j by omega, eb2] at h5; rw [h5]; exact hwb (j - S2 1 10 1) (by omega) (by omega))
    refine kw_iconst hC dX7_joinWay_52 rfl ?_
    exact hR9.2.1 rfl _ _ _ _ dX7_joinWay_53 (by omega) (by first | exact ⟨_, rfl, hfS3, by omega, fun q => by omega⟩ | exact ⟨_, rfl, hfS3, by omega, fun q => ⟨by omega, hv⟩⟩)
  · refine kw_iconst hC dX7_joinWay_24 rfl ?_
    exact hR9.2.1 rfl _ _ _ _ dX7_joinWay_25 (by omega) (by first | exact ⟨_, rfl, hfS, by omega, fun q => by omega⟩ | exact ⟨_, rfl, hfS, by omega, fun q => ⟨by omega, hv⟩⟩)

set_option maxHeartbeats 4000000 in
set_option maxRecDepth 100000 in
theorem d_X7_way {g : wG} (hD : wD g) {S : wSt} {a b c : Int} (ha : -2147483648 ≤ a ∧ a ≤ 2147483647) (hb : -2147483648 ≤ b ∧ b ≤ 2147483647) (hc : -2147483648 ≤ c ∧ c ≤ 2147483647) (hRS : CI S) (l : Launch) : Kt l yX7_way wsX7_way ({ frames := 6, cells := 0, slots := 0, locals := 143 } : Room) g S [vr g 0 0, vi a, vi b, vi c] (pI (fun _ S' => CI S' ∧ Fr tX S S')) := by
  refine Kt.of (cc := cX7_way) (nL := 4) (ret := (some .int)) (own := RX7) rfl hD (by decide) rfl (Nat.le_of_ble_eq_true rfl) ⟨rfl, rfl⟩ ?_
  intro E hC hR9
  have f40 : Cond.fieldLink RX7 40 "MirrorBench" "shortener" "LMirrorBench$Shortener;" ∈ wsX7_way := by decide +kernel
  have f59 : Cond.fieldLink RX7 59 "MirrorBench" "made" "LMirrorBench$Word;" ∈ wsX7_way := by decide +kernel
  have f66 : Cond.fieldLink RX7 66 "MirrorBench" "joined" "LMirrorBench$Word;" ∈ wsX7_way := by decide +kernel
  have w7 : ∀ w ∈ wsX70, w ∈ wsX7_way := by decide +kernel
  show Wk E g 4 S 0 [(0, vr g 0 0), (1, vi a), (2, vi b), (3, vi c)] []
  have hfS : Fr tC S S := Fr.rfl _ S
  have hRS := hRS.fr hfS
  have hnS := hRS.n
  have enS : S 3 16 2 = S 3 16 2 := hfS 3 16 2 (by unfold tC; omega)
  refine kw_iload_n hC dX7_way_0 rfl 1 rfl ?_
  refine kw_callS hC (d_X7_isSlot hD (by omega)) gX7_way_X7_isSlot rfl ⟨rfl, rfl⟩ 1 (by decide +kernel) ⟨by decide, by decide⟩ rfl rfl (Nat.le_of_ble_eq_true rfl) dX7_way_1 rfl (kd_ie ?_)
  refine kw_ifeq_b (tgt := 21) hC dX7_way_4 rfl (by decide) ⟨fun c4 => ?_, fun c4 => ?_⟩
  · refine kw_iconst hC dX7_way_21 rfl ?_
    exact hR9.1 rfl _ _ _ _ dX7_way_22 (by first | exact ⟨_, rfl, hp9.2.1, (tC_tX hfS).trans (fWd_tX hp9.2.2.1)⟩ | exact ⟨_, rfl, hRS, tC_tX hfS⟩)
  · refine kw_iload_n hC dX7_way_7 rfl 2 rfl ?_
    refine kw_callS hC (d_X7_isSlot hD (by omega)) gX7_way_X7_isSlot rfl ⟨rfl, rfl⟩ 1 (by decide +kernel) ⟨by decide, by decide⟩ rfl rfl (Nat.le_of_ble_eq_true rfl) dX7_way_8 rfl (kd_ie ?_)
    refine kw_ifeq_b (tgt := 21) hC dX7_way_11 rfl (by decide) ⟨fun c11 => ?_, fun c11 => ?_⟩
    · refine kw_iconst hC dX7_way_21 rfl ?_
      exact hR9.1 rfl _ _ _ _ dX7_way_22 (by first | exact ⟨_, rfl, hp9.2.1, (tC_tX hfS).trans (fWd_tX hp9.2.2.1)⟩ | exact ⟨_, rfl, hRS, tC_tX hfS⟩)
    · refine kw_iload_n hC dX7_way_14 rfl 3 rfl ?_
      refine kw_callS hC (d_X7_isSlot hD (by omega)) gX7_way_X7_isSlot rfl ⟨rfl, rfl⟩ 1 (by decide +kernel) ⟨by decide, by decide⟩ rfl rfl (Nat.le_of_ble_eq_true rfl) dX7_way_15 rfl (kd_ie ?_)
      refine kw_ifne_b (tgt := 23) hC dX7_way_18 rfl (by decide) ⟨fun c18 => ?_, fun c18 => ?_⟩
      · refine kw_aload_n hC dX7_way_23 rfl 0 rfl ?_
        refine kw_iload_n hC dX7_way_24 rfl 1 rfl ?_
        refine kw_iload_n hC dX7_way_25 rfl 2 rfl ?_
        refine kw_callV hC (d_X7_joinWay hD (by omega) (by omega) (by omega) (by omega) hRS) gX7_way_X7_joinWay ⟨_, rfl⟩ rfl (by decide) (by decide) rfl ⟨rfl, rfl⟩ 2 (by decide +kernel) ⟨by decide, by decide⟩ rfl rfl (Nat.le_of_ble_eq_true rfl) dX7_way_26 rfl (kd_i (fun r4 S4 hp4 => ?_))
        obtain ⟨hg4, hp4⟩ := hp4
        have hfS4 : Fr tC S S4 := hfS.trans (hg4.mono (fun k i j h => by unfold fWd at h; unfold tC; omega))
        have hRS4 := hRS.fr hfS4
        have hnS4 := hRS4.n
        have enS4 : S4 3 16 2 = S 3 16 2 := hfS4 3 16 2 (by unfold tC; omega)
        obtain ⟨hbJ, hqJ⟩ := hp4
        refine kw_if_ne (tgt := 35) hC dX7_way_29 rfl (by decide) (by omega) ⟨fun c29 => ?_, fun c29 => ?_⟩
        · obtain ⟨⟨lJ0, lJ1⟩, hvJ⟩ := hqJ (by omega)
          replace hvJ : WV (S4 2 10) (S4 1 10 1) (S4 3 16 2) := hvJ.eq (fun _ _ _ => rfl) rfl (by omega)
          refine kw_aload_n hC dX7_way_35 rfl 0 rfl ?_
          refine kg_0_4 hC w7 f40 dX7_way_36 rfl (by decide) (by decide) ?_
          refine kw_aload_n hC dX7_way_39 rfl 0 rfl ?_
          refine kg_0_9 hC w7 f66 dX7_way_40 rfl (by decide) (by decide) ?_
          refine kw_aload_n hC dX7_way_43 rfl 0 rfl ?_
          refine kg_0_7 hC w7 f59 dX7_way_44 rfl (by decide) (by decide) ?_
          refine kw_callV hC (d_X5_makeForm hD (by omega) (by omega) (by omega) (by omega) hRS4 hvJ (by omega) (by omega)) gX7_way_X5_makeForm ⟨_, rfl⟩ rfl (by decide) (by decide) rfl ⟨rfl, rfl⟩ 2 (by decide +kernel) ⟨by decide, by decide⟩ rfl rfl (Nat.le_of_ble_eq_true rfl) dX7_way_47 rfl (kd_i (fun r6 S6 hp6 => ?_))
          obtain ⟨hg6, hp6⟩ := hp6
          have hfS6 : Fr tC S S6 := hfS4.trans (hg6.mono (fun k i j h => by unfold fMd at h; unfold tC; omega))
          have hRS6 := hRS.fr hfS6
          have hnS6 := hRS6.n
          have enS6 : S6 3 16 2 = S 3 16 2 := hfS6 3 16 2 (by unfold tC; omega)
          obtain ⟨hb6, hq6⟩ := hp6
          have hqX := hq6
          refine kw_if_eq (tgt := 65) hC dX7_way_50 rfl (by decide) (by omega) ⟨fun c50 => ?_, fun c50 => ?_⟩
          · refine kw_bipush hC dX7_way_65 rfl (by decide) ?_
            exact hR9.1 rfl _ _ _ _ dX7_way_67 (by first | exact ⟨_, rfl, hp9.2.1, (tC_tX hfS6).trans (fWd_tX hp9.2.2.1)⟩ | exact ⟨_, rfl, hRS6, tC_tX hfS6⟩)
          · obtain ⟨⟨lX0, lX1⟩, hqW⟩ := hqX (by omega)
            have hv8 : WV (S6 2 8) (S6 1 8 1) (S6 3 16 2) := hqW.eq (fun _ _ _ => rfl) rfl (by omega)
            refine kw_aload_n hC dX7_way_53 rfl 0 rfl ?_
            refine kw_aload_n hC dX7_way_54 rfl 0 rfl ?_
            refine kg_0_7 hC w7 f59 dX7_way_55 rfl (by decide) (by decide) ?_
            refine kw_iload_n hC dX7_way_58 rfl 3 rfl ?_
            refine kw_callV hC (d_X7_store hD (by omega) (by omega) (by omega) (by omega) hRS6 hv8 (by omega) (by omega)) gX7_way_X7_store ⟨_, rfl⟩ rfl (by decide) (by decide) rfl ⟨rfl, rfl⟩ 2 (by decide +kernel) ⟨by decide, by decide⟩ rfl rfl (Nat.le_of_ble_eq_true rfl) dX7_way_59 rfl (kd_i (fun r9 Sz hp9 => ?_))
            refine kw_goto (tgt := 67) hC dX7_way_62 rfl (by decide) ?_
            exact hR9.1 rfl _ _ _ _ dX7_way_67 (by first | exact ⟨_, rfl, hp9.2.1, (tC_tX hfS6).trans (fWd_tX hp9.2.2.1)⟩ | exact ⟨_, rfl, hRS6, tC_tX hfS6⟩)
        · refine kw_bipush hC dX7_way_32 rfl (by decide) ?_
          exact hR9.1 rfl _ _ _ _ dX7_way_34 (by first | exact ⟨_, rfl, hp9.2.1, (tC_tX hfS4).trans (fWd_tX hp9.2.2.1)⟩ | exact ⟨_, rfl, hRS4, tC_tX hfS4⟩)
      · refine kw_iconst hC dX7_way_21 rfl ?_
        exact hR9.1 rfl _ _ _ _ dX7_way_22 (by first | exact ⟨_, rfl, hp9.2.1, (tC_tX hfS).trans (fWd_tX hp9.2.2.1)⟩ | exact ⟨_, rfl, hRS, tC_tX hfS⟩)

set_option maxHeartbeats 4000000 in
set_option maxRecDepth 100000 in
theorem d_X7_wall {g : wG} (hD : wD g) {S : wSt} {a b c d : Int} (ha : -2147483648 ≤ a ∧ a ≤ 2147483647) (hb : -2147483648 ≤ b ∧ b ≤ 2147483647) (hc : -2147483648 ≤ c ∧ c ≤ 2147483647) (hd : -2147483648 ≤ d ∧ d ≤ 2147483647) (hRS : CI S) (l : Launch) : Kt l yX7_wall wsX7_wall ({ frames := 6, cells := 0, slots := 0, locals := 143 } : Room) g S [vr g 0 0, vi a, vi b, vi c, vi d] (pL (fun _ S' => CI S' ∧ Fr tX S S')) := by
  refine Kt.of (cc := cX7_wall) (nL := 5) (ret := (some .long)) (own := RX7) rfl hD (by decide) rfl (Nat.le_of_ble_eq_true rfl) ⟨rfl, rfl⟩ ?_
  intro E hC hR9
  have f12 : Cond.fieldLink RX7 12 "MirrorBench" "set" "LMirrorBench$Mirrors;" ∈ wsX7_wall := by decide +kernel
  have f25 : Cond.fieldLink RX7 25 "MirrorBench" "slots" "[LMirrorBench$Word;" ∈ wsX7_wall := by decide +kernel
  have f40 : Cond.fieldLink RX7 40 "MirrorBench" "shortener" "LMirrorBench$Shortener;" ∈ wsX7_wall := by decide +kernel
  have f59 : Cond.fieldLink RX7 59 "MirrorBench" "made" "LMirrorBench$Word;" ∈ wsX7_wall := by decide +kernel
  have f66 : Cond.fieldLink RX7 66 "MirrorBench" "joined" "LMirrorBench$Word;" ∈ wsX7_wall := by decide +kernel
  have f69 : Cond.fieldLink RX7 69 "MirrorBench" "spare" "[J" ∈ wsX7_wall := by decide +kernel
  have f131 : Cond.fieldLink RX7 131 "MirrorBench$Word" "length" "I" ∈ wsX7_wall := by decide +kernel
  have f157 : Cond.fieldLink RX7 157 "MirrorBench$Word" "mirrors" "[I" ∈ wsX7_wall := by decide +kernel
  have l196 : Cond.constantLong RX7 196 (Int64.ofInt (-10000000000001)) ∈ wsX7_wall := by decide +kernel
  have l206 : Cond.constantLong RX7 206 (Int64.ofInt (-10000000000004)) ∈ wsX7_wall := by decide +kernel
  have w6 : ∀ w ∈ wsX60, w ∈ wsX7_wall := by decide +kernel
  have w7 : ∀ w ∈ wsX70, w ∈ wsX7_wall := by decide +kernel
  show Wk E g 5 S 0 [(0, vr g 0 0), (1, vi a), (2, vi b), (3, vi c), (4, vi d)] []
  have hfS : Fr tC S S := Fr.rfl _ S
  have hRS := hRS.fr hfS
  have hnS := hRS.n
  have enS : S 3 16 2 = S 3 16 2 := hfS 3 16 2 (by unfold tC; omega)
  refine kw_iload_n hC dX7_wall_0 rfl 1 rfl ?_
  refine kw_callS hC (d_X7_isSlot hD (by omega)) gX7_wall_X7_isSlot rfl ⟨rfl, rfl⟩ 1 (by decide +kernel) ⟨by decide, by decide⟩ rfl rfl (Nat.le_of_ble_eq_true rfl) dX7_wall_1 rfl (kd_ie ?_)
  refine kw_ifeq_b (tgt := 39) hC dX7_wall_4 rfl (by decide) ⟨fun c4 => ?_, fun c4 => ?_⟩
  · refine kw_ldc2 (z := -10000000000001) hC dX7_wall_39 rfl l196 ?_
    exact hR9.2.2.1 rfl _ _ _ _ dX7_wall_42 (by first | exact ⟨_, rfl, hp9.2.1, (tC_tX hfS).trans (fWd_tX hp9.2.2.1)⟩ | exact ⟨_, rfl, hRS, tC_tX hfS⟩)
  · refine kw_iload_n hC dX7_wall_7 rfl 2 rfl ?_
    refine kw_callS hC (d_X7_isSlot hD (by omega)) gX7_wall_X7_isSlot rfl ⟨rfl, rfl⟩ 1 (by decide +kernel) ⟨by decide, by decide⟩ rfl rfl (Nat.le_of_ble_eq_true rfl) dX7_wall_8 rfl (kd_ie ?_)
    refine kw_ifeq_b (tgt := 39) hC dX7_wall_11 rfl (by decide) ⟨fun c11 => ?_, fun c11 => ?_⟩
    · refine kw_ldc2 (z := -10000000000001) hC dX7_wall_39 rfl l196 ?_
      exact hR9.2.2.1 rfl _ _ _ _ dX7_wall_42 (by first | exact ⟨_, rfl, hp9.2.1, (tC_tX hfS).trans (fWd_tX hp9.2.2.1)⟩ | exact ⟨_, rfl, hRS, tC_tX hfS⟩)
    · refine kw_iload_n hC dX7_wall_14 rfl 3 rfl ?_
      refine kw_if_lt (tgt := 39) hC dX7_wall_15 rfl (by decide) (by omega) ⟨fun c15 => ?_, fun c15 => ?_⟩
      · refine kw_ldc2 (z := -10000000000001) hC dX7_wall_39 rfl l196 ?_
        exact hR9.2.2.1 rfl _ _ _ _ dX7_wall_42 (by first | exact ⟨_, rfl, hp9.2.1, (tC_tX hfS).trans (fWd_tX hp9.2.2.1)⟩ | exact ⟨_, rfl, hRS, tC_tX hfS⟩)
      · refine kw_aload_n hC dX7_wall_18 rfl 0 rfl ?_
        refine kg_0_0 hC w7 f12 dX7_wall_19 rfl (by decide) (by decide) ?_
        refine kw_iload hC dX7_wall_22 rfl 4 rfl ?_
        refine kw_callV hC (d_X3_has hD (by omega) (by omega) (by omega) (by omega) (by omega)) gX7_wall_X3_has ⟨_, rfl⟩ rfl (by omega) (show (16 : Int) < 17 by omega) rfl ⟨rfl, rfl⟩ 1 (by decide +kernel) ⟨by decide, by decide⟩ rfl rfl (Nat.le_of_ble_eq_true rfl) dX7_wall_24 rfl (kd_ie ?_)
        refine kw_ifeq_b (tgt := 39) hC dX7_wall_27 rfl (by decide) ⟨fun c27 => ?_, fun c27 => ?_⟩
        · refine kw_ldc2 (z := -10000000000001) hC dX7_wall_39 rfl l196 ?_
          exact hR9.2.2.1 rfl _ _ _ _ dX7_wall_42 (by first | exact ⟨_, rfl, hp9.2.1, (tC_tX hfS).trans (fWd_tX hp9.2.2.1)⟩ | exact ⟨_, rfl, hRS, tC_tX hfS⟩)
        · refine kw_aload_n hC dX7_wall_30 rfl 0 rfl ?_
          refine kw_iload_n hC dX7_wall_31 rfl 1 rfl ?_
          refine kw_iload_n hC dX7_wall_32 rfl 2 rfl ?_
          refine kw_callV hC (d_X7_joinWay hD (by omega) (by omega) (by omega) (by omega) hRS) gX7_wall_X7_joinWay ⟨_, rfl⟩ rfl (by decide) (by decide) rfl ⟨rfl, rfl⟩ 2 (by decide +kernel) ⟨by decide, by decide⟩ rfl rfl (Nat.le_of_ble_eq_true rfl) dX7_wall_33 rfl (kd_i (fun r5 S5 hp5 => ?_))
          obtain ⟨hg5, hp5⟩ := hp5
          have hfS5 : Fr tC S S5 := hfS.trans (hg5.mono (fun k i j h => by unfold fWd at h; unfold tC; omega))
          have hRS5 := hRS.fr hfS5
          have hnS5 := hRS5.n
          have enS5 : S5 3 16 2 = S 3 16 2 := hfS5 3 16 2 (by unfold tC; omega)
          obtain ⟨hbJ, hqJ⟩ := hp5
          refine kw_if_ne (tgt := 43) hC dX7_wall_36 rfl (by decide) (by omega) ⟨fun c36 => ?_, fun c36 => ?_⟩
          · obtain ⟨⟨lJ0, lJ1⟩, hvJ⟩ := hqJ (by omega)
            replace hvJ : WV (S5 2 10) (S5 1 10 1) (S5 3 16 2) := hvJ.eq (fun _ _ _ => rfl) rfl (by omega)
            have hla := hRS.ln a (by omega) (by omega)
            have hwa := hRS.wv a (by omega) (by omega)
            refine kw_aload_n hC dX7_wall_43 rfl 0 rfl ?_
            refine kg_0_4 hC w7 f40 dX7_wall_44 rfl (by decide) (by decide) ?_
            refine kw_aload_n hC dX7_wall_47 rfl 0 rfl ?_
            refine kg_0_9 hC w7 f66 dX7_wall_48 rfl (by decide) (by decide) ?_
            refine kw_aload_n hC dX7_wall_51 rfl 0 rfl ?_
            refine kg_0_7 hC w7 f59 dX7_wall_52 rfl (by decide) (by decide) ?_
            refine kw_callV hC (d_X5_makeForm hD (by omega) (by omega) (by omega) (by omega) hRS5 hvJ (by omega) (by omega)) gX7_wall_X5_makeForm ⟨_, rfl⟩ rfl (by decide) (by decide) rfl ⟨rfl, rfl⟩ 2 (by decide +kernel) ⟨by decide, by decide⟩ rfl rfl (Nat.le_of_ble_eq_true rfl) dX7_wall_55 rfl (kd_i (fun r7 S7 hp7 => ?_))
            obtain ⟨hg7, hp7⟩ := hp7
            have hfS7 : Fr tC S S7 := hfS5.trans (hg7.mono (fun k i j h => by unfold fMd at h; unfold tC; omega))
            have hRS7 := hRS.fr hfS7
            have hnS7 := hRS7.n
            have enS7 : S7 3 16 2 = S 3 16 2 := hfS7 3 16 2 (by unfold tC; omega)
            obtain ⟨hb7, hq7⟩ := hp7
            have hqX := hq7
            refine kw_if_ne (tgt := 65) hC dX7_wall_58 rfl (by decide) (by omega) ⟨fun c58 => ?_, fun c58 => ?_⟩
            · obtain ⟨⟨lX0, lX1⟩, hqW⟩ := hqX (by omega)
              have hv8 : WV (S7 2 8) (S7 1 8 1) (S7 3 16 2) := hqW.eq (fun _ _ _ => rfl) rfl (by omega)
              refine kw_iload_n hC dX7_wall_65 rfl 3 rfl ?_
              refine kw_aload_n hC dX7_wall_66 rfl 0 rfl ?_
              refine kg_0_7 hC w7 f59 dX7_wall_67 rfl (by decide) (by decide) ?_
              refine kg_1_1 hC w6 f131 dX7_wall_70 rfl (by omega) (by omega) ?_
              refine kw_icmp_lt (tgt := 80) hC dX7_wall_73 rfl (by decide) (by omega) (by omega) ⟨fun c73 => ?_, fun c73 => ?_⟩
              · refine kw_aload_n hC dX7_wall_80 rfl 0 rfl ?_
                refine kg_0_10 hC w7 f69 dX7_wall_81 rfl (by decide) (by decide) ?_
                refine kw_aload_n hC dX7_wall_84 rfl 0 rfl ?_
                refine kg_0_7 hC w7 f59 dX7_wall_85 rfl (by decide) (by decide) ?_
                refine kg_1_0 hC w6 f157 dX7_wall_88 rfl (by omega) (by omega) ?_
                refine kw_iload_n hC dX7_wall_91 rfl 3 rfl ?_
                refine ka_2 hC dX7_wall_92 rfl (by omega) (by omega) (by omega) (by omega) ?_
                have hlx := hv8 c (by omega) (by omega)
                refine kw_callS hC (d_X7_setOwn hD (c := 22) (w := 0) (fun _ => rfl) (by decide) (by decide) (by omega) (by omega)) gX7_wall_X7_setOwn rfl ⟨rfl, rfl⟩ 2 (by decide +kernel) ⟨by decide, by decide⟩ rfl rfl (Nat.le_of_ble_eq_true rfl) dX7_wall_93 rfl (kd_v (fun S10 hp10 => ?_))
                obtain ⟨hg10, hp10⟩ := hp10
                have hfS10 : Fr tC S S10 := hfS7.trans (hg10.mono (fun k i j h => by unfold fCl at h; unfold tC; omega))
                have hRS10 := hRS.fr hfS10
                have hnS10 := hRS10.n
                have enS10 : S10 3 16 2 = S 3 16 2 := hfS10 3 16 2 (by unfold tC; omega)
                replace hv8 : WV (S10 2 8) (S10 1 8 1) (S10 3 16 2) := hv8.fr hg10 (by unfold fCl; omega) (fun j => by unfold fCl; omega) (by omega)
                have e810 : S10 1 8 1 = S7 1 8 1 := hg10 1 8 1 (by unfold fCl; omega)
                have hvc : WV (S10 2 8) c (S10 3 16 2) := fun j j0 j1 => hv8 j j0 (by omega)
                refine kw_aload_n hC dX7_wall_96 rfl 0 rfl ?_
                refine kg_0_0 hC w7 f12 dX7_wall_97 rfl (by decide) (by decide) ?_
                refine kw_aload_n hC dX7_wall_100 rfl 0 rfl ?_
                refine kg_0_7 hC w7 f59 dX7_wall_101 rfl (by decide) (by decide) ?_
                refine kw_iload_n hC dX7_wall_104 rfl 3 rfl ?_
                refine kw_aload_n hC dX7_wall_105 rfl 0 rfl ?_
                refine kg_0_10 hC w7 f69 dX7_wall_106 rfl (by decide) (by decide) ?_
                refine kw_callV hC (d_X3_turnBy hD (c := 22) (w := 0) (fun _ => rfl) (by decide) (by decide) (by decide) (fun j => by unfold tC; omega) (by omega) (by omega) (by omega) (by omega) hRS10 hvc) gX7_wall_X3_turnBy ⟨_, rfl⟩ rfl (by omega) (show (16 : Int) < 17 by omega) rfl ⟨rfl, rfl⟩ 3 (by decide +kernel) ⟨by decide, by decide⟩ rfl rfl (Nat.le_of_ble_eq_true rfl) dX7_wall_109 rfl (kd_i (fun r11 S11 hp11 => ?_))
                obtain ⟨hg11, hp11⟩ := hp11
                have hfS11 : Fr tC S S11 := hfS10.trans (hg11.mono (fun k i j h => by unfold fCl at h; unfold tC; omega))
                have hRS11 := hRS.fr hfS11
                have hnS11 := hRS11.n
                have enS11 : S11 3 16 2 = S 3 16 2 := hfS11 3 16 2 (by unfold tC; omega)
                obtain ⟨-, hb11⟩ := (⟨trivial, hp11⟩ : True ∧ _)
                refine kw_if_eq (tgt := 144) hC dX7_wall_112 rfl (by decide) (by omega) ⟨fun c112 => ?_, fun c112 => ?_⟩
                · refine kw_ldc2 (z := -10000000000004) hC dX7_wall_144 rfl l206 ?_
                  exact hR9.2.2.1 rfl _ _ _ _ dX7_wall_147 (by first | exact ⟨_, rfl, hp9.2.1, (tC_tX hfS11).trans (fWd_tX hp9.2.2.1)⟩ | exact ⟨_, rfl, hRS11, tC_tX hfS11⟩)
                · refine kw_aload_n hC dX7_wall_115 rfl 0 rfl ?_
                  refine kg_0_0 hC w7 f12 dX7_wall_116 rfl (by decide) (by decide) ?_
                  refine kw_aload_n hC dX7_wall_119 rfl 0 rfl ?_
                  refine kg_0_2 hC w7 f25 dX7_wall_120 rfl (by decide) (by decide) ?_
                  refine kw_iload_n hC dX7_wall_123 rfl 1 rfl ?_
                  refine ka_20 hC dX7_wall_124 rfl (by decide) (by decide) (by omega) (by omega) ?_
                  refine kw_aload_n hC dX7_wall_125 rfl 0 rfl ?_
                  refine kg_0_2 hC w7 f25 dX7_wall_126 rfl (by decide) (by decide) ?_
                  refine kw_iload_n hC dX7_wall_129 rfl 1 rfl ?_
                  refine ka_20 hC dX7_wall_130 rfl (by decide) (by decide) (by omega) (by omega) ?_
                  refine kg_1_1 hC w6 f131 dX7_wall_131 rfl (by omega) (by omega) ?_
                  refine kw_chi (z' := S 1 a 1) (hfS11 1 a 1 (by unfold tC; omega)) ?_
                  have hws : WV (S11 2 a) (S 1 a 1) (S11 3 16 2) := hwa.eq (fun j _ _ => hfS11 2 a j (by unfold tC; omega)) rfl (by omega)
                  refine kw_aload_n hC dX7_wall_134 rfl 0 rfl ?_
                  refine kg_0_10 hC w7 f69 dX7_wall_135 rfl (by decide) (by decide) ?_
                  refine kw_callV hC (d_X3_turnBy hD (c := 22) (w := 0) (fun _ => rfl) (by decide) (by decide) (by decide) (fun j => by unfold tC; omega) (by omega) (by omega) (by omega) (by omega) hRS11 hws) gX7_wall_X3_turnBy ⟨_, rfl⟩ rfl (by omega) (show (16 : Int) < 17 by omega) rfl ⟨rfl, rfl⟩ 3 (by decide +kernel) ⟨by decide, by decide⟩ rfl rfl (Nat.le_of_ble_eq_true rfl) dX7_wall_138 rfl (kd_i (fun r13 S13 hp13 => ?_))
                  obtain ⟨hg13, hp13⟩ := hp13
                  have hfS13 : Fr tC S S13 := hfS11.trans (hg13.mono (fun k i j h => by unfold fCl at h; unfold tC; omega))
                  have hRS13 := hRS.fr hfS13
                  have hnS13 := hRS13.n
                  have enS13 : S13 3 16 2 = S 3 16 2 := hfS13 3 16 2 (by unfold tC; omega)
                  obtain ⟨-, hb13⟩ := (⟨trivial, hp13⟩ : True ∧ _)
                  refine kw_if_ne (tgt := 148) hC dX7_wall_141 rfl (by decide) (by omega) ⟨fun c141 => ?_, fun c141 => ?_⟩
                  · refine kw_aload_n hC dX7_wall_148 rfl 0 rfl ?_
                    refine kg_0_10 hC w7 f69 dX7_wall_149 rfl (by decide) (by decide) ?_
                    refine kw_callS hC (d_X7_hasBelowZero hD (c := 22) (w := 0) (fun _ => rfl) (by decide) (by decide) ) gX7_wall_X7_hasBelowZero rfl ⟨rfl, rfl⟩ 1 (by decide +kernel) ⟨by decide, by decide⟩ rfl rfl (Nat.le_of_ble_eq_true rfl) dX7_wall_152 rfl (kd_ie ?_)
                    refine kw_ifeq_b (tgt := 169) hC dX7_wall_155 rfl (by decide) ⟨fun c155 => ?_, fun c155 => ?_⟩
                    · refine kw_aload_n hC dX7_wall_169 rfl 0 rfl ?_
                      refine kg_0_10 hC w7 f69 dX7_wall_170 rfl (by decide) (by decide) ?_
                      refine kw_iload hC dX7_wall_173 rfl 4 rfl ?_
                      refine ka_22 hC dX7_wall_175 rfl (by decide) (by decide) (by omega) (by omega) ?_
                      exact hR9.2.2.1 rfl _ _ _ _ dX7_wall_176 (by first | exact ⟨_, rfl, hp9.2.1, (tC_tX hfS13).trans (fWd_tX hp9.2.2.1)⟩ | exact ⟨_, rfl, hRS13, tC_tX hfS13⟩)
                    · refine kw_aload_n hC dX7_wall_158 rfl 0 rfl ?_
                      refine kg_0_10 hC w7 f69 dX7_wall_159 rfl (by decide) (by decide) ?_
                      refine kw_iload hC dX7_wall_162 rfl 4 rfl ?_
                      refine ka_22 hC dX7_wall_164 rfl (by decide) (by decide) (by omega) (by omega) ?_
                      refine kw_lneg hC dX7_wall_165 rfl ?_
                      refine kw_goto (tgt := 176) hC dX7_wall_166 rfl (by decide) ?_
                      exact hR9.2.2.1 rfl _ _ _ _ dX7_wall_176 (by first | exact ⟨_, rfl, hp9.2.1, (tC_tX hfS13).trans (fWd_tX hp9.2.2.1)⟩ | exact ⟨_, rfl, hRS13, tC_tX hfS13⟩)
                  · refine kw_ldc2 (z := -10000000000004) hC dX7_wall_144 rfl l206 ?_
                    exact hR9.2.2.1 rfl _ _ _ _ dX7_wall_147 (by first | exact ⟨_, rfl, hp9.2.1, (tC_tX hfS13).trans (fWd_tX hp9.2.2.1)⟩ | exact ⟨_, rfl, hRS13, tC_tX hfS13⟩)
              · refine kw_ldc2 (z := -10000000000001) hC dX7_wall_76 rfl l196 ?_
                exact hR9.2.2.1 rfl _ _ _ _ dX7_wall_79 (by first | exact ⟨_, rfl, hp9.2.1, (tC_tX hfS7).trans (fWd_tX hp9.2.2.1)⟩ | exact ⟨_, rfl, hRS7, tC_tX hfS7⟩)
            · refine kw_ldc2 (z := -10000000000004) hC dX7_wall_61 rfl l206 ?_
              exact hR9.2.2.1 rfl _ _ _ _ dX7_wall_64 (by first | exact ⟨_, rfl, hp9.2.1, (tC_tX hfS7).trans (fWd_tX hp9.2.2.1)⟩ | exact ⟨_, rfl, hRS7, tC_tX hfS7⟩)
          · refine kw_ldc2 (z := -10000000000001) hC dX7_wall_39 rfl l196 ?_
            exact hR9.2.2.1 rfl _ _ _ _ dX7_wall_42 (by first | exact ⟨_, rfl, hp9.2.1, (tC_tX hfS5).trans (fWd_tX hp9.2.2.1)⟩ | exact ⟨_, rfl, hRS5, tC_tX hfS5⟩)

set_option maxHeartbeats 4000000 in
set_option maxRecDepth 100000 in
theorem d_X3_partBits {g : wG} (hD : wD g) {S : wSt} (hRS : CI S) (l : Launch) : Kt l yX3_partBits wsX3_partBits ({ frames := 0, cells := 0, slots := 0, locals := 0 } : Room) g S [vr g 3 16] (pI (fun r S' => S' = S)) := by
  refine Kt.of (cc := cX3_partBits) (nL := 3) (ret := (some .int)) (own := RX3) rfl hD (by decide) rfl (Nat.le_of_ble_eq_true rfl) ⟨rfl, rfl⟩ ?_
  intro E hC hR9
  have f9 : Cond.fieldLink RX3 9 "MirrorBench$Mirrors" "kinds" "[I" ∈ wsX3_partBits := by decide +kernel
  have f18 : Cond.fieldLink RX3 18 "MirrorBench$Mirrors" "size" "I" ∈ wsX3_partBits := by decide +kernel
  have w3 : ∀ w ∈ wsX30, w ∈ wsX3_partBits := by decide +kernel
  show Wk E g 3 S 0 [(0, vr g 3 16)] []
  have hn := hRS.n
  refine kw_iconst hC dX3_partBits_0 rfl ?_
  refine kw_istore_n (lv' := [(1, _), (0, _)]) hC dX3_partBits_1 rfl (by decide) rfl ?_
  refine kw_iconst hC dX3_partBits_2 rfl ?_
  refine kw_istore_n (lv' := [(2, _), (1, _), (0, _)]) hC dX3_partBits_3 rfl (by decide) rfl ?_
  have hL4 : ∀ (n4 : Nat) (s : Int) (z : Int), (0 ≤ s) → (s ≤ S 3 16 2) → S 3 16 2 - s < (n4 : Int) → Wk E g 3 S 4 [(0, vr g 3 16), (1, vi z), (2, vi s)] [] := by
    intro n4
    induction n4 with
    | zero => intro s z s0 s1 hm4; exact absurd hm4 (by omega)
    | succ n4 ih4 =>
      intro s z s0 s1 hm4
      refine kw_iload_n hC dX3_partBits_4 rfl 2 rfl ?_
      refine kw_aload_n hC dX3_partBits_5 rfl 0 rfl ?_
      refine kg_3_2 hC w3 f18 dX3_partBits_6 rfl (by omega) (by omega) ?_
      refine kw_icmp_ge (tgt := 34) hC dX3_partBits_9 rfl (by decide) (by omega) (by omega) ⟨fun c9 => ?_, fun c9 => ?_⟩
      · refine kw_iload_n hC dX3_partBits_34 rfl 1 rfl ?_
        exact hR9.1 rfl _ _ _ _ dX3_partBits_35 ⟨_, rfl, rfl⟩
      · refine kw_aload_n hC dX3_partBits_12 rfl 0 rfl ?_
        refine kg_3_0 hC w3 f9 dX3_partBits_13 rfl (by omega) (by omega) ?_
        refine kw_iload_n hC dX3_partBits_16 rfl 2 rfl ?_
        refine ka_4 hC dX3_partBits_17 rfl (by omega) (by omega) (by omega) (by omega) ?_
        have hkd := hRS.kd s (by omega) (by omega)
        refine kw_iconst hC dX3_partBits_18 rfl ?_
        refine kw_icmp_ge (tgt := 28) hC dX3_partBits_19 rfl (by decide) (by omega) (by omega) ⟨fun c19 => ?_, fun c19 => ?_⟩
        · refine kw_iinc (lv' := [(2, _), (0, _), (1, _)]) hC dX3_partBits_28 rfl 2 rfl (by decide) rfl ?_
          refine kw_goto (tgt := 4) hC dX3_partBits_31 rfl (by decide) ?_
          refine kw_lv [1, 2, 0] rfl ?_
          exact ih4 (s + 1) _ (by omega) (by omega) (by omega)
        · refine kw_iload_n hC dX3_partBits_22 rfl 1 rfl ?_
          refine kw_iconst hC dX3_partBits_23 rfl ?_
          refine kw_iload_n hC dX3_partBits_24 rfl 2 rfl ?_
          refine kw_ishlX hC dX3_partBits_25 rfl ?_
          refine kw_iorX hC dX3_partBits_26 rfl ?_
          refine kw_istore_n (lv' := [(1, _), (0, _), (2, _)]) hC dX3_partBits_27 rfl (by decide) rfl ?_
          refine kw_iinc (lv' := [(2, _), (1, _), (0, _)]) hC dX3_partBits_28 rfl 2 rfl (by decide) rfl ?_
          refine kw_goto (tgt := 4) hC dX3_partBits_31 rfl (by decide) ?_
          refine kw_lv [2, 1, 0] rfl ?_
          exact ih4 (s + 1) _ (by omega) (by omega) (by omega)
  refine kw_lv [2, 1, 0] rfl ?_
  exact hL4 7 0 _ (by omega) (by omega) (by omega)

set_option maxHeartbeats 4000000 in
set_option maxRecDepth 100000 in
theorem d_X7_parts {g : wG} (hD : wD g) {S : wSt} {a b c d : Int} (ha : -2147483648 ≤ a ∧ a ≤ 2147483647) (hb : -2147483648 ≤ b ∧ b ≤ 2147483647) (hc : -2147483648 ≤ c ∧ c ≤ 2147483647) (hd : -2147483648 ≤ d ∧ d ≤ 2147483647) (hRS : CI S) (l : Launch) : Kt l yX7_parts wsX7_parts ({ frames := 6, cells := 0, slots := 0, locals := 143 } : Room) g S [vr g 0 0, vi a, vi b, vi c, vi d] (pI (fun _ S' => CI S' ∧ Fr tX S S')) := by
  refine Kt.of (cc := cX7_parts) (nL := 6) (ret := (some .int)) (own := RX7) rfl hD (by decide) rfl (Nat.le_of_ble_eq_true rfl) ⟨rfl, rfl⟩ ?_
  intro E hC hR9
  have f12 : Cond.fieldLink RX7 12 "MirrorBench" "set" "LMirrorBench$Mirrors;" ∈ wsX7_parts := by decide +kernel
  have f25 : Cond.fieldLink RX7 25 "MirrorBench" "slots" "[LMirrorBench$Word;" ∈ wsX7_parts := by decide +kernel
  have f40 : Cond.fieldLink RX7 40 "MirrorBench" "shortener" "LMirrorBench$Shortener;" ∈ wsX7_parts := by decide +kernel
  have f59 : Cond.fieldLink RX7 59 "MirrorBench" "made" "LMirrorBench$Word;" ∈ wsX7_parts := by decide +kernel
  have f63 : Cond.fieldLink RX7 63 "MirrorBench" "other" "LMirrorBench$Word;" ∈ wsX7_parts := by decide +kernel
  have f66 : Cond.fieldLink RX7 66 "MirrorBench" "joined" "LMirrorBench$Word;" ∈ wsX7_parts := by decide +kernel
  have f131 : Cond.fieldLink RX7 131 "MirrorBench$Word" "length" "I" ∈ wsX7_parts := by decide +kernel
  have w6 : ∀ w ∈ wsX60, w ∈ wsX7_parts := by decide +kernel
  have w7 : ∀ w ∈ wsX70, w ∈ wsX7_parts := by decide +kernel
  show Wk E g 6 S 0 [(0, vr g 0 0), (1, vi a), (2, vi b), (3, vi c), (4, vi d)] []
  have hfS : Fr tC S S := Fr.rfl _ S
  have hRS := hRS.fr hfS
  have hnS := hRS.n
  have enS : S 3 16 2 = S 3 16 2 := hfS 3 16 2 (by unfold tC; omega)
  refine kw_iload_n hC dX7_parts_0 rfl 1 rfl ?_
  refine kw_callS hC (d_X7_isSlot hD (by omega)) gX7_parts_X7_isSlot rfl ⟨rfl, rfl⟩ 1 (by decide +kernel) ⟨by decide, by decide⟩ rfl rfl (Nat.le_of_ble_eq_true rfl) dX7_parts_1 rfl (kd_ie ?_)
  refine kw_ifeq_b (tgt := 28) hC dX7_parts_4 rfl (by decide) ⟨fun c4 => ?_, fun c4 => ?_⟩
  · refine kw_iconst hC dX7_parts_28 rfl ?_
    exact hR9.1 rfl _ _ _ _ dX7_parts_29 (by first | exact ⟨_, rfl, hp9.2.1, hbW.trans ((tC_tX hfS).trans (fWd_tX hp9.2.2.1))⟩ | exact ⟨_, rfl, hRS, tC_tX hfS⟩)
  · refine kw_iload_n hC dX7_parts_7 rfl 3 rfl ?_
    refine kw_callS hC (d_X7_isSlot hD (by omega)) gX7_parts_X7_isSlot rfl ⟨rfl, rfl⟩ 1 (by decide +kernel) ⟨by decide, by decide⟩ rfl rfl (Nat.le_of_ble_eq_true rfl) dX7_parts_8 rfl (kd_ie ?_)
    refine kw_ifeq_b (tgt := 28) hC dX7_parts_11 rfl (by decide) ⟨fun c11 => ?_, fun c11 => ?_⟩
    · refine kw_iconst hC dX7_parts_28 rfl ?_
      exact hR9.1 rfl _ _ _ _ dX7_parts_29 (by first | exact ⟨_, rfl, hp9.2.1, hbW.trans ((tC_tX hfS).trans (fWd_tX hp9.2.2.1))⟩ | exact ⟨_, rfl, hRS, tC_tX hfS⟩)
    · refine kw_iload hC dX7_parts_14 rfl 4 rfl ?_
      refine kw_callS hC (d_X7_isSlot hD (by omega)) gX7_parts_X7_isSlot rfl ⟨rfl, rfl⟩ 1 (by decide +kernel) ⟨by decide, by decide⟩ rfl rfl (Nat.le_of_ble_eq_true rfl) dX7_parts_16 rfl (kd_ie ?_)
      refine kw_ifeq_b (tgt := 28) hC dX7_parts_19 rfl (by decide) ⟨fun c19 => ?_, fun c19 => ?_⟩
      · refine kw_iconst hC dX7_parts_28 rfl ?_
        exact hR9.1 rfl _ _ _ _ dX7_parts_29 (by first | exact ⟨_, rfl, hp9.2.1, hbW.trans ((tC_tX hfS).trans (fWd_tX hp9.2.2.1))⟩ | exact ⟨_, rfl, hRS, tC_tX hfS⟩)
      · refine kw_iload_n hC dX7_parts_22 rfl 3 rfl ?_
        refine kw_iload hC dX7_parts_23 rfl 4 rfl ?_
        refine kw_icmp_ne (tgt := 30) hC dX7_parts_25 rfl (by decide) (by omega) (by omega) ⟨fun c25 => ?_, fun c25 => ?_⟩
        · have hla := hRS.ln a (by omega) (by omega)
          have hwa := hRS.wv a (by omega) (by omega)
          refine kw_iload_n hC dX7_parts_30 rfl 2 rfl ?_
          refine kw_iconst hC dX7_parts_31 rfl ?_
          refine kw_icmp_ne (tgt := 45) hC dX7_parts_32 rfl (by decide) (by omega) (by omega) ⟨fun c32 => ?_, fun c32 => ?_⟩
          · refine kw_iload_n hC dX7_parts_45 rfl 2 rfl ?_
            refine kw_istore (lv' := [(5, _), (0, _), (1, _), (2, _), (3, _), (4, _)]) hC dX7_parts_46 rfl (by decide) rfl ?_
            refine kw_aload_n hC dX7_parts_48 rfl 1 rfl ?_
            refine kg_0_4 hC w7 f40 dX7_parts_49 rfl (by decide) (by decide) ?_
            refine kw_aload_n hC dX7_parts_52 rfl 1 rfl ?_
            refine kg_0_2 hC w7 f25 dX7_parts_53 rfl (by decide) (by decide) ?_
            refine kw_iload_n hC dX7_parts_56 rfl 2 rfl ?_
            refine ka_20 hC dX7_parts_57 rfl (by decide) (by decide) (by omega) (by omega) ?_
            refine kw_aload_n hC dX7_parts_58 rfl 1 rfl ?_
            refine kg_0_8 hC w7 f63 dX7_parts_59 rfl (by decide) (by decide) ?_
            refine kw_callV hC (d_X5_makeShort hD (by omega) (by omega) (by omega) (by omega) (by omega) hRS hwa (by omega) (by omega)) gX7_parts_X5_makeShort ⟨_, rfl⟩ rfl (by decide) (by decide) rfl ⟨rfl, rfl⟩ 2 (by decide +kernel) ⟨by decide, by decide⟩ rfl rfl (Nat.le_of_ble_eq_true rfl) dX7_parts_62 rfl (kd_i (fun r6 S6 hp6 => ?_))
            obtain ⟨hg6, hp6⟩ := hp6
            have hfS6 : Fr tC S S6 := hfS.trans (hg6.mono (fun k i j h => by unfold fMs at h; unfold tC; omega))
            have hRS6 := hRS.fr hfS6
            have hnS6 := hRS6.n
            have enS6 : S6 3 16 2 = S 3 16 2 := hfS6 3 16 2 (by unfold tC; omega)
            obtain ⟨hb6, ⟨l06, l16⟩, hr6⟩ := hp6
            have hv9 : WV (S6 2 9) (S6 1 9 1) (S6 3 16 2) := hr6.eq (fun _ _ _ => rfl) rfl (by omega)
            refine kw_if_ne (tgt := 71) hC dX7_parts_65 rfl (by decide) (by omega) ⟨fun c65 => ?_, fun c65 => ?_⟩
            · refine kw_aload_n hC dX7_parts_71 rfl 1 rfl ?_
              refine kg_0_9 hC w7 f66 dX7_parts_72 rfl (by decide) (by decide) ?_
              refine kw_iconst hC dX7_parts_75 rfl ?_
              refine kp_1_1 hC w6 f131 dX7_parts_76 rfl (by omega) (by omega) ?_
              refine kw_hv hfS6 (by unfold tC; omega) (fun S8 hfS8 hv8 ho8 => ?_)
              have hRS8 := hRS.fr hfS8
              have hnS8 := hRS8.n
              have enS8 : S8 3 16 2 = S 3 16 2 := hfS8 3 16 2 (by unfold tC; omega)
              have lJ := hv8
              replace hv9 : WV (S8 2 9) (S8 1 9 1) (S8 3 16 2) := hv9.eq (fun j _ _ => ho8 2 9 j (by omega)) (ho8 1 9 1 (by omega)) (ho8 3 16 2 (by omega))
              have e98 : S8 1 9 1 = S6 1 9 1 := ho8 1 9 1 (by omega)
              refine kw_aload_n hC dX7_parts_79 rfl 1 rfl ?_
              refine kg_0_4 hC w7 f40 dX7_parts_80 rfl (by decide) (by decide) ?_
              refine kw_aload_n hC dX7_parts_83 rfl 1 rfl ?_
              refine kg_0_8 hC w7 f63 dX7_parts_84 rfl (by decide) (by decide) ?_
              refine kw_iload hC dX7_parts_87 rfl 0 rfl ?_
              refine kw_aload_n hC dX7_parts_89 rfl 1 rfl ?_
              refine kg_0_9 hC w7 f66 dX7_parts_90 rfl (by decide) (by decide) ?_
              refine kw_callV hC (d_X5_moveDowns hD (by omega) (by omega) (by omega) (by omega) (by omega) hRS8 hv9 (by omega) (fun j _ _ => by omega) (by omega) (by omega)) gX7_parts_X5_moveDowns ⟨_, rfl⟩ rfl (by decide) (by decide) rfl ⟨rfl, rfl⟩ 3 (by decide +kernel) ⟨by decide, by decide⟩ rfl rfl (Nat.le_of_ble_eq_true rfl) dX7_parts_93 rfl (kd_i (fun r9 S9 hp9 => ?_))
              obtain ⟨hg9, hp9⟩ := hp9
              have hfS9 : Fr tC S S9 := hfS8.trans (hg9.mono (fun k i j h => by unfold fMd at h; unfold tC; omega))
              have hRS9 := hRS.fr hfS9
              have hnS9 := hRS9.n
              have enS9 : S9 3 16 2 = S 3 16 2 := hfS9 3 16 2 (by unfold tC; omega)
              obtain ⟨hb9, ⟨f0, f1, f2⟩, hrA, hrB⟩ := hp9
              replace hv9 : WV (S9 2 9) (S9 1 9 1) (S9 3 16 2) := hrA.eq (fun _ _ _ => rfl) rfl (by omega)
              have hvJ : WV (S9 2 10) (S9 1 10 1) (S9 3 16 2) := hrB.eq (fun _ _ _ => rfl) rfl (by omega)
              refine kw_if_ne (tgt := 102) hC dX7_parts_96 rfl (by decide) (by omega) ⟨fun c96 => ?_, fun c96 => ?_⟩
              · refine kw_aload_n hC dX7_parts_102 rfl 1 rfl ?_
                refine kg_0_4 hC w7 f40 dX7_parts_103 rfl (by decide) (by decide) ?_
                refine kw_aload_n hC dX7_parts_106 rfl 1 rfl ?_
                refine kg_0_9 hC w7 f66 dX7_parts_107 rfl (by decide) (by decide) ?_
                refine kw_aload_n hC dX7_parts_110 rfl 1 rfl ?_
                refine kg_0_7 hC w7 f59 dX7_parts_111 rfl (by decide) (by decide) ?_
                refine kw_callV hC (d_X5_makeForm hD (by omega) (by omega) (by omega) (by omega) hRS9 hvJ (by omega) (by omega)) gX7_parts_X5_makeForm ⟨_, rfl⟩ rfl (by decide) (by decide) rfl ⟨rfl, rfl⟩ 2 (by decide +kernel) ⟨by decide, by decide⟩ rfl rfl (Nat.le_of_ble_eq_true rfl) dX7_parts_114 rfl (kd_i (fun r11 S11 hp11 => ?_))
                obtain ⟨hg11, hp11⟩ := hp11
                have hfS11 : Fr tC S S11 := hfS9.trans (hg11.mono (fun k i j h => by unfold fMd at h; unfold tC; omega))
                have hRS11 := hRS.fr hfS11
                have hnS11 := hRS11.n
                have enS11 : S11 3 16 2 = S 3 16 2 := hfS11 3 16 2 (by unfold tC; omega)
                obtain ⟨hb11, hq11⟩ := hp11
                have hqX := hq11
                replace hv9 : WV (S11 2 9) (S11 1 9 1) (S11 3 16 2) := hv9.fr hg11 (by unfold fMd; omega) (fun j => by unfold fMd; omega) (by omega)
                have e911 : S11 1 9 1 = S9 1 9 1 := hg11 1 9 1 (by unfold fMd; omega)
                refine kw_if_eq (tgt := 138) hC dX7_parts_117 rfl (by decide) (by omega) ⟨fun c117 => ?_, fun c117 => ?_⟩
                · refine kw_bipush hC dX7_parts_138 rfl (by decide) ?_
                  exact hR9.1 rfl _ _ _ _ dX7_parts_140 (by first | exact ⟨_, rfl, hp9.2.1, hbW.trans ((tC_tX hfS11).trans (fWd_tX hp9.2.2.1))⟩ | exact ⟨_, rfl, hRS11, tC_tX hfS11⟩)
                · obtain ⟨⟨lX0, lX1⟩, hqW⟩ := hqX (by omega)
                  have hv8 : WV (S11 2 8) (S11 1 8 1) (S11 3 16 2) := hqW.eq (fun _ _ _ => rfl) rfl (by omega)
                  refine kw_aload_n hC dX7_parts_120 rfl 1 rfl ?_
                  refine kg_0_4 hC w7 f40 dX7_parts_121 rfl (by decide) (by decide) ?_
                  refine kw_aload_n hC dX7_parts_124 rfl 1 rfl ?_
                  refine kg_0_8 hC w7 f63 dX7_parts_125 rfl (by decide) (by decide) ?_
                  refine kw_aload_n hC dX7_parts_128 rfl 1 rfl ?_
                  refine kg_0_9 hC w7 f66 dX7_parts_129 rfl (by decide) (by decide) ?_
                  refine kw_callV hC (d_X5_makeForm hD (by omega) (by omega) (by omega) (by omega) hRS11 hv9 (by omega) (by omega)) gX7_parts_X5_makeForm ⟨_, rfl⟩ rfl (by decide) (by decide) rfl ⟨rfl, rfl⟩ 2 (by decide +kernel) ⟨by decide, by decide⟩ rfl rfl (Nat.le_of_ble_eq_true rfl) dX7_parts_132 rfl (kd_i (fun r13 S13 hp13 => ?_))
                  obtain ⟨hg13, hp13⟩ := hp13
                  have hfS13 : Fr tC S S13 := hfS11.trans (hg13.mono (fun k i j h => by unfold fMd at h; unfold tC; omega))
                  have hRS13 := hRS.fr hfS13
                  have hnS13 := hRS13.n
                  have enS13 : S13 3 16 2 = S 3 16 2 := hfS13 3 16 2 (by unfold tC; omega)
                  obtain ⟨hb13, hq13⟩ := hp13
                  have hqY := hq13
                  have e813 : S13 1 8 1 = S11 1 8 1 := hg13 1 8 1 (by unfold fMd; omega)
                  replace hv8 : WV (S13 2 8) (S13 1 8 1) (S13 3 16 2) := hv8.fr hg13 (by unfold fMd; omega) (fun j => by unfold fMd; omega) (by omega)
                  refine kw_if_ne (tgt := 141) hC dX7_parts_135 rfl (by decide) (by omega) ⟨fun c135 => ?_, fun c135 => ?_⟩
                  · obtain ⟨⟨lY0, lY1⟩, hvY⟩ := hqY (by omega)
                    replace hvY : WV (S13 2 10) (S13 1 10 1) (S13 3 16 2) := hvY.eq (fun _ _ _ => rfl) rfl (by omega)
                    refine kw_aload_n hC dX7_parts_141 rfl 1 rfl ?_
                    refine kw_aload_n hC dX7_parts_142 rfl 1 rfl ?_
                    refine kg_0_9 hC w7 f66 dX7_parts_143 rfl (by decide) (by decide) ?_
                    refine kw_iload hC dX7_parts_146 rfl 5 rfl ?_
                    refine kw_callV hC (d_X7_store hD (by omega) (by omega) (by omega) (by omega) hRS13 hvY (by omega) (by omega)) gX7_parts_X7_store ⟨_, rfl⟩ rfl (by decide) (by decide) rfl ⟨rfl, rfl⟩ 2 (by decide +kernel) ⟨by decide, by decide⟩ rfl rfl (Nat.le_of_ble_eq_true rfl) dX7_parts_148 rfl (kd_i (fun r15 S15 hp15 => ?_))
                    obtain ⟨-, hRS15, hgV, -⟩ := hp15
                    have hbW : Fr tX S S15 := (tC_tX hfS13).trans (fWd_tX hgV)
                    have hfS15 : Fr tC S15 S15 := Fr.rfl _ _
                    have hnS15 := hRS15.n
                    have eb0 : S15 3 16 2 = S13 3 16 2 := hgV 3 16 2 (by unfold fWd; omega)
                    have e8b : S15 1 8 1 = S13 1 8 1 := hgV 1 8 1 (by unfold fWd; omega)
                    replace hv8 : WV (S15 2 8) (S15 1 8 1) (S15 3 16 2) := hv8.fr hgV (by unfold fWd; omega) (fun j => by unfold fWd; omega) eb0
                    refine kw_pop hC dX7_parts_151 rfl rfl ?_
                    refine kw_aload_n hC dX7_parts_152 rfl 1 rfl ?_
                    refine kw_aload_n hC dX7_parts_153 rfl 1 rfl ?_
                    refine kg_0_7 hC w7 f59 dX7_parts_154 rfl (by decide) (by decide) ?_
                    refine kw_iload_n hC dX7_parts_157 rfl 4 rfl ?_
                    refine kw_callV hC (d_X7_store hD (by omega) (by omega) (by omega) (by omega) hRS15 hv8 (by omega) (by omega)) gX7_parts_X7_store ⟨_, rfl⟩ rfl (by decide) (by decide) rfl ⟨rfl, rfl⟩ 2 (by decide +kernel) ⟨by decide, by decide⟩ rfl rfl (Nat.le_of_ble_eq_true rfl) dX7_parts_158 rfl (kd_i (fun r9 Sz hp9 => ?_))
                    exact hR9.1 rfl _ _ _ _ dX7_parts_161 (by first | exact ⟨_, rfl, hp9.2.1, hbW.trans ((tC_tX hfS15).trans (fWd_tX hp9.2.2.1))⟩ | exact ⟨_, rfl, hRS15, tC_tX hfS15⟩)
                  · refine kw_bipush hC dX7_parts_138 rfl (by decide) ?_
                    exact hR9.1 rfl _ _ _ _ dX7_parts_140 (by first | exact ⟨_, rfl, hp9.2.1, hbW.trans ((tC_tX hfS13).trans (fWd_tX hp9.2.2.1))⟩ | exact ⟨_, rfl, hRS13, tC_tX hfS13⟩)
              · refine kw_bipush hC dX7_parts_99 rfl (by decide) ?_
                exact hR9.1 rfl _ _ _ _ dX7_parts_101 (by first | exact ⟨_, rfl, hp9.2.1, hbW.trans ((tC_tX hfS9).trans (fWd_tX hp9.2.2.1))⟩ | exact ⟨_, rfl, hRS9, tC_tX hfS9⟩)
            · refine kw_bipush hC dX7_parts_68 rfl (by decide) ?_
              exact hR9.1 rfl _ _ _ _ dX7_parts_70 (by first | exact ⟨_, rfl, hp9.2.1, hbW.trans ((tC_tX hfS6).trans (fWd_tX hp9.2.2.1))⟩ | exact ⟨_, rfl, hRS6, tC_tX hfS6⟩)
          · refine kw_aload_n hC dX7_parts_35 rfl 0 rfl ?_
            refine kg_0_0 hC w7 f12 dX7_parts_36 rfl (by decide) (by decide) ?_
            refine kw_callV hC (d_X3_partBits hD hRS) gX7_parts_X3_partBits ⟨_, rfl⟩ rfl (by omega) (show (16 : Int) < 17 by omega) rfl ⟨rfl, rfl⟩ 0 (by decide +kernel) ⟨by decide, by decide⟩ rfl rfl (Nat.le_of_ble_eq_true rfl) dX7_parts_39 rfl (kd_i (fun r9 S9 hp9 => ?_))
            rw [hp9]
            refine kw_goto (tgt := 46) hC dX7_parts_42 rfl (by decide) ?_
            refine kw_istore (lv' := [(5, _), (0, _), (1, _), (2, _), (3, _), (4, _)]) hC dX7_parts_46 rfl (by decide) rfl ?_
            refine kw_aload_n hC dX7_parts_48 rfl 1 rfl ?_
            refine kg_0_4 hC w7 f40 dX7_parts_49 rfl (by decide) (by decide) ?_
            refine kw_aload_n hC dX7_parts_52 rfl 1 rfl ?_
            refine kg_0_2 hC w7 f25 dX7_parts_53 rfl (by decide) (by decide) ?_
            refine kw_iload_n hC dX7_parts_56 rfl 2 rfl ?_
            refine ka_20 hC dX7_parts_57 rfl (by decide) (by decide) (by omega) (by omega) ?_
            refine kw_aload_n hC dX7_parts_58 rfl 1 rfl ?_
            refine kg_0_8 hC w7 f63 dX7_parts_59 rfl (by decide) (by decide) ?_
            refine kw_callV hC (d_X5_makeShort hD (by omega) (by omega) (by omega) (by omega) (by omega) hRS hwa (by omega) (by omega)) gX7_parts_X5_makeShort ⟨_, rfl⟩ rfl (by decide) (by decide) rfl ⟨rfl, rfl⟩ 2 (by decide +kernel) ⟨by decide, by decide⟩ rfl rfl (Nat.le_of_ble_eq_true rfl) dX7_parts_62 rfl (kd_i (fun r16 S16 hp16 => ?_))
            obtain ⟨hg16, hp16⟩ := hp16
            have hfS16 : Fr tC S S16 := hfS.trans (hg16.mono (fun k i j h => by unfold fMs at h; unfold tC; omega))
            have hRS16 := hRS.fr hfS16
            have hnS16 := hRS16.n
            have enS16 : S16 3 16 2 = S 3 16 2 := hfS16 3 16 2 (by unfold tC; omega)
            obtain ⟨hb16, ⟨l016, l116⟩, hr16⟩ := hp16
            have hv9 : WV (S16 2 9) (S16 1 9 1) (S16 3 16 2) := hr16.eq (fun _ _ _ => rfl) rfl (by omega)
            refine kw_if_ne (tgt := 71) hC dX7_parts_65 rfl (by decide) (by omega) ⟨fun c65 => ?_, fun c65 => ?_⟩
            · refine kw_aload_n hC dX7_parts_71 rfl 1 rfl ?_
              refine kg_0_9 hC w7 f66 dX7_parts_72 rfl (by decide) (by decide) ?_
              refine kw_iconst hC dX7_parts_75 rfl ?_
              refine kp_1_1 hC w6 f131 dX7_parts_76 rfl (by omega) (by omega) ?_
              refine kw_hv hfS16 (by unfold tC; omega) (fun S18 hfS18 hv18 ho18 => ?_)
              have hRS18 := hRS.fr hfS18
              have hnS18 := hRS18.n
              have enS18 : S18 3 16 2 = S 3 16 2 := hfS18 3 16 2 (by unfold tC; omega)
              have lJ := hv18
              replace hv9 : WV (S18 2 9) (S18 1 9 1) (S18 3 16 2) := hv9.eq (fun j _ _ => ho18 2 9 j (by omega)) (ho18 1 9 1 (by omega)) (ho18 3 16 2 (by omega))
              have e918 : S18 1 9 1 = S16 1 9 1 := ho18 1 9 1 (by omega)
              refine kw_aload_n hC dX7_parts_79 rfl 1 rfl ?_
              refine kg_0_4 hC w7 f40 dX7_parts_80 rfl (by decide) (by decide) ?_
              refine kw_aload_n hC dX7_parts_83 rfl 1 rfl ?_
              refine kg_0_8 hC w7 f63 dX7_parts_84 rfl (by decide) (by decide) ?_
              refine kw_iload hC dX7_parts_87 rfl 0 rfl ?_
              refine kw_aload_n hC dX7_parts_89 rfl 1 rfl ?_
              refine kg_0_9 hC w7 f66 dX7_parts_90 rfl (by decide) (by decide) ?_
              refine kw_callV hC (d_X5_moveDowns hD (by omega) (by omega) (by omega) (by omega) (by omega) hRS18 hv9 (by omega) (fun j _ _ => by omega) (by omega) (by omega)) gX7_parts_X5_moveDowns ⟨_, rfl⟩ rfl (by decide) (by decide) rfl ⟨rfl, rfl⟩ 3 (by decide +kernel) ⟨by decide, by decide⟩ rfl rfl (Nat.le_of_ble_eq_true rfl) dX7_parts_93 rfl (kd_i (fun r19 S19 hp19 => ?_))
              obtain ⟨hg19, hp19⟩ := hp19
              have hfS19 : Fr tC S S19 := hfS18.trans (hg19.mono (fun k i j h => by unfold fMd at h; unfold tC; omega))
              have hRS19 := hRS.fr hfS19
              have hnS19 := hRS19.n
              have enS19 : S19 3 16 2 = S 3 16 2 := hfS19 3 16 2 (by unfold tC; omega)
              obtain ⟨hb19, ⟨f0, f1, f2⟩, hrA, hrB⟩ := hp19
              replace hv9 : WV (S19 2 9) (S19 1 9 1) (S19 3 16 2) := hrA.eq (fun _ _ _ => rfl) rfl (by omega)
              have hvJ : WV (S19 2 10) (S19 1 10 1) (S19 3 16 2) := hrB.eq (fun _ _ _ => rfl) rfl (by omega)
              refine kw_if_ne (tgt := 102) hC dX7_parts_96 rfl (by decide) (by omega) ⟨fun c96 => ?_, fun c96 => ?_⟩
              · refine kw_aload_n hC dX7_parts_102 rfl 1 rfl ?_
                refine kg_0_4 hC w7 f40 dX7_parts_103 rfl (by decide) (by decide) ?_
                refine kw_aload_n hC dX7_parts_106 rfl 1 rfl ?_
                refine kg_0_9 hC w7 f66 dX7_parts_107 rfl (by decide) (by decide) ?_
                refine kw_aload_n hC dX7_parts_110 rfl 1 rfl ?_
                refine kg_0_7 hC w7 f59 dX7_parts_111 rfl (by decide) (by decide) ?_
                refine kw_callV hC (d_X5_makeForm hD (by omega) (by omega) (by omega) (by omega) hRS19 hvJ (by omega) (by omega)) gX7_parts_X5_makeForm ⟨_, rfl⟩ rfl (by decide) (by decide) rfl ⟨rfl, rfl⟩ 2 (by decide +kernel) ⟨by decide, by decide⟩ rfl rfl (Nat.le_of_ble_eq_true rfl) dX7_parts_114 rfl (kd_i (fun r21 S21 hp21 => ?_))
                obtain ⟨hg21, hp21⟩ := hp21
                have hfS21 : Fr tC S S21 := hfS19.trans (hg21.mono (fun k i j h => by unfold fMd at h; unfold tC; omega))
                have hRS21 := hRS.fr hfS21
                have hnS21 := hRS21.n
                have enS21 : S21 3 16 2 = S 3 16 2 := hfS21 3 16 2 (by unfold tC; omega)
                obtain ⟨hb21, hq21⟩ := hp21
                have hqX := hq21
                replace hv9 : WV (S21 2 9) (S21 1 9 1) (S21 3 16 2) := hv9.fr hg21 (by unfold fMd; omega) (fun j => by unfold fMd; omega) (by omega)
                have e921 : S21 1 9 1 = S19 1 9 1 := hg21 1 9 1 (by unfold fMd; omega)
                refine kw_if_eq (tgt := 138) hC dX7_parts_117 rfl (by decide) (by omega) ⟨fun c117 => ?_, fun c117 => ?_⟩
                · refine kw_bipush hC dX7_parts_138 rfl (by decide) ?_
                  exact hR9.1 rfl _ _ _ _ dX7_parts_140 (by first | exact ⟨_, rfl, hp9.2.1, hbW.trans ((tC_tX hfS21).trans (fWd_tX hp9.2.2.1))⟩ | exact ⟨_, rfl, hRS21, tC_tX hfS21⟩)
                · obtain ⟨⟨lX0, lX1⟩, hqW⟩ := hqX (by omega)
                  have hv8 : WV (S21 2 8) (S21 1 8 1) (S21 3 16 2) := hqW.eq (fun _ _ _ => rfl) rfl (by omega)
                  refine kw_aload_n hC dX7_parts_120 rfl 1 rfl ?_
                  refine kg_0_4 hC w7 f40 dX7_parts_121 rfl (by decide) (by decide) ?_
                  refine kw_aload_n hC dX7_parts_124 rfl 1 rfl ?_
                  refine kg_0_8 hC w7 f63 dX7_parts_125 rfl (by decide) (by decide) ?_
                  refine kw_aload_n hC dX7_parts_128 rfl 1 rfl ?_
                  refine kg_0_9 hC w7 f66 dX7_parts_129 rfl (by decide) (by decide) ?_
                  refine kw_callV hC (d_X5_makeForm hD (by omega) (by omega) (by omega) (by omega) hRS21 hv9 (by omega) (by omega)) gX7_parts_X5_makeForm ⟨_, rfl⟩ rfl (by decide) (by decide) rfl ⟨rfl, rfl⟩ 2 (by decide +kernel) ⟨by decide, by decide⟩ rfl rfl (Nat.le_of_ble_eq_true rfl) dX7_parts_132 rfl (kd_i (fun r23 S23 hp23 => ?_))
                  obtain ⟨hg23, hp23⟩ := hp23
                  have hfS23 : Fr tC S S23 := hfS21.trans (hg23.mono (fun k i j h => by unfold fMd at h; unfold tC; omega))
                  have hRS23 := hRS.fr hfS23
                  have hnS23 := hRS23.n
                  have enS23 : S23 3 16 2 = S 3 16 2 := hfS23 3 16 2 (by unfold tC; omega)
                  obtain ⟨hb23, hq23⟩ := hp23
                  have hqY := hq23
                  have e823 : S23 1 8 1 = S21 1 8 1 := hg23 1 8 1 (by unfold fMd; omega)
                  replace hv8 : WV (S23 2 8) (S23 1 8 1) (S23 3 16 2) := hv8.fr hg23 (by unfold fMd; omega) (fun j => by unfold fMd; omega) (by omega)
                  refine kw_if_ne (tgt := 141) hC dX7_parts_135 rfl (by decide) (by omega) ⟨fun c135 => ?_, fun c135 => ?_⟩
                  · obtain ⟨⟨lY0, lY1⟩, hvY⟩ := hqY (by omega)
                    replace hvY : WV (S23 2 10) (S23 1 10 1) (S23 3 16 2) := hvY.eq (fun _ _ _ => rfl) rfl (by omega)
                    refine kw_aload_n hC dX7_parts_141 rfl 1 rfl ?_
                    refine kw_aload_n hC dX7_parts_142 rfl 1 rfl ?_
                    refine kg_0_9 hC w7 f66 dX7_parts_143 rfl (by decide) (by decide) ?_
                    refine kw_iload hC dX7_parts_146 rfl 5 rfl ?_
                    refine kw_callV hC (d_X7_store hD (by omega) (by omega) (by omega) (by omega) hRS23 hvY (by omega) (by omega)) gX7_parts_X7_store ⟨_, rfl⟩ rfl (by decide) (by decide) rfl ⟨rfl, rfl⟩ 2 (by decide +kernel) ⟨by decide, by decide⟩ rfl rfl (Nat.le_of_ble_eq_true rfl) dX7_parts_148 rfl (kd_i (fun r25 S25 hp25 => ?_))
                    obtain ⟨-, hRS25, hgV, -⟩ := hp25
                    have hbW : Fr tX S S25 := (tC_tX hfS23).trans (fWd_tX hgV)
                    have hfS25 : Fr tC S25 S25 := Fr.rfl _ _
                    have hnS25 := hRS25.n
                    have eb0 : S25 3 16 2 = S23 3 16 2 := hgV 3 16 2 (by unfold fWd; omega)
                    have e8b : S25 1 8 1 = S23 1 8 1 := hgV 1 8 1 (by unfold fWd; omega)
                    replace hv8 : WV (S25 2 8) (S25 1 8 1) (S25 3 16 2) := hv8.fr hgV (by unfold fWd; omega) (fun j => by unfold fWd; omega) eb0
                    refine kw_pop hC dX7_parts_151 rfl rfl ?_
                    refine kw_aload_n hC dX7_parts_152 rfl 1 rfl ?_
                    refine kw_aload_n hC dX7_parts_153 rfl 1 rfl ?_
                    refine kg_0_7 hC w7 f59 dX7_parts_154 rfl (by decide) (by decide) ?_
                    refine kw_iload_n hC dX7_parts_157 rfl 4 rfl ?_
                    refine kw_callV hC (d_X7_store hD (by omega) (by omega) (by omega) (by omega) hRS25 hv8 (by omega) (by omega)) gX7_parts_X7_store ⟨_, rfl⟩ rfl (by decide) (by decide) rfl ⟨rfl, rfl⟩ 2 (by decide +kernel) ⟨by decide, by decide⟩ rfl rfl (Nat.le_of_ble_eq_true rfl) dX7_parts_158 rfl (kd_i (fun r9 Sz hp9 => ?_))
                    exact hR9.1 rfl _ _ _ _ dX7_parts_161 (by first | exact ⟨_, rfl, hp9.2.1, hbW.trans ((tC_tX hfS25).trans (fWd_tX hp9.2.2.1))⟩ | exact ⟨_, rfl, hRS25, tC_tX hfS25⟩)
                  · refine kw_bipush hC dX7_parts_138 rfl (by decide) ?_
                    exact hR9.1 rfl _ _ _ _ dX7_parts_140 (by first | exact ⟨_, rfl, hp9.2.1, hbW.trans ((tC_tX hfS23).trans (fWd_tX hp9.2.2.1))⟩ | exact ⟨_, rfl, hRS23, tC_tX hfS23⟩)
              · refine kw_bipush hC dX7_parts_99 rfl (by decide) ?_
                exact hR9.1 rfl _ _ _ _ dX7_parts_101 (by first | exact ⟨_, rfl, hp9.2.1, hbW.trans ((tC_tX hfS19).trans (fWd_tX hp9.2.2.1))⟩ | exact ⟨_, rfl, hRS19, tC_tX hfS19⟩)
            · refine kw_bipush hC dX7_parts_68 rfl (by decide) ?_
              exact hR9.1 rfl _ _ _ _ dX7_parts_70 (by first | exact ⟨_, rfl, hp9.2.1, hbW.trans ((tC_tX hfS16).trans (fWd_tX hp9.2.2.1))⟩ | exact ⟨_, rfl, hRS16, tC_tX hfS16⟩)
        · refine kw_iconst hC dX7_parts_28 rfl ?_
          exact hR9.1 rfl _ _ _ _ dX7_parts_29 (by first | exact ⟨_, rfl, hp9.2.1, hbW.trans ((tC_tX hfS).trans (fWd_tX hp9.2.2.1))⟩ | exact ⟨_, rfl, hRS, tC_tX hfS⟩)
