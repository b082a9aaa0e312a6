set_option maxHeartbeats 4000000 in
set_option maxRecDepth 100000 in
theorem d_X8_leaf {g : wG} (hD : wD g) {S : wSt} {a b c : Int} (ha : -2147483648 ≤ a ∧ a ≤ 2147483647) (hb : -2147483648 ≤ b ∧ b ≤ 2147483647) (hc : -2147483648 ≤ c ∧ c ≤ 2147483647) (hRS : RI S) (l : Launch) : Kt l yX8_leaf wsX8_leaf ({ frames := 2, cells := 0, slots := 0, locals := 45 } : Room) g S [vr g 30 0, vi a, vi b, vi c] (pI (fun r S' => RI S' ∧ Fr tL S S' ∧ ∀ y, LR S y → LR S' (aLeaf a b c y) ∧ r = rLeaf a b c y)) := by
  refine Kt.of (cc := cX8_leaf) (nL := 5) (ret := (some .int)) (own := RX8) rfl hD (by decide) rfl (Nat.le_of_ble_eq_true rfl) ⟨rfl, rfl⟩ ?_
  intro E hC hR9
  have f234 : Cond.fieldLink RX8 234 "MirrorBenchModel" "lanes" "[I" ∈ wsX8_leaf := by decide +kernel
  have f237 : Cond.fieldLink RX8 237 "MirrorBenchModel" "sizes" "[I" ∈ wsX8_leaf := by decide +kernel
  have f240 : Cond.fieldLink RX8 240 "MirrorBenchModel" "items" "[J" ∈ wsX8_leaf := by decide +kernel
  have l28 : Cond.constantLong RX8 28 (Int64.ofInt (2)) ∈ wsX8_leaf := by decide +kernel
  have w8 : ∀ w ∈ wsX80, w ∈ wsX8_leaf := by decide +kernel
  show Wk E g 5 S 0 [(0, vr g 30 0), (1, vi a), (2, vi b), (3, vi c)] []
  have hfS : Fr tL S S := Fr.rfl _ S
  have hn := hRS.n
  refine kw_iload_n hC dX8_leaf_0 rfl 1 rfl ?_
  refine kw_callS hC (d_X8_isLeaf hD (by omega)) gX8_leaf_X8_isLeaf rfl ⟨rfl, rfl⟩ 1 (by decide +kernel) ⟨by decide, by decide⟩ rfl rfl (Nat.le_of_ble_eq_true rfl) dX8_leaf_1 rfl (kd_ie ?_)
  refine kw_ifeq_b (tgt := 25) hC dX8_leaf_4 rfl (by decide) ⟨fun c4 => ?_, fun c4 => ?_⟩
  · refine kw_iconst hC dX8_leaf_25 rfl ?_
    exact hR9.1 rfl _ _ _ _ dX8_leaf_26 ⟨_, rfl, hRS, Fr.rfl _ S, fun y hy => by skip; unfold aLeaf rLeaf; (repeat' split) <;> first | omega | exact ⟨hy, by omega⟩ | exact ⟨hy, rfl⟩⟩
  · refine kw_iload_n hC dX8_leaf_7 rfl 2 rfl ?_
    refine kw_i2l hC dX8_leaf_8 rfl (by omega) ?_
    refine kw_lconst (z := 0) hC dX8_leaf_9 rfl rfl ?_
    refine kw_ldc2 (z := 2) hC dX8_leaf_10 rfl l28 ?_
    refine kw_callS hC (d_X8_in hD (by omega) (by omega) (by omega)) gX8_leaf_X8_in rfl ⟨rfl, rfl⟩ 3 (by decide +kernel) ⟨by decide, by decide⟩ rfl rfl (Nat.le_of_ble_eq_true rfl) dX8_leaf_13 rfl (kd_ie ?_)
    refine kw_ifeq_b (tgt := 25) hC dX8_leaf_16 rfl (by decide) ⟨fun c16 => ?_, fun c16 => ?_⟩
    · refine kw_iconst hC dX8_leaf_25 rfl ?_
      exact hR9.1 rfl _ _ _ _ dX8_leaf_26 ⟨_, rfl, hRS, Fr.rfl _ S, fun y hy => by skip; unfold aLeaf rLeaf; (repeat' split) <;> first | omega | exact ⟨hy, by omega⟩ | exact ⟨hy, rfl⟩⟩
    · refine kw_iload_n hC dX8_leaf_19 rfl 3 rfl ?_
      refine kw_bipush hC dX8_leaf_20 rfl (by decide) ?_
      refine kw_icmp_le (tgt := 27) hC dX8_leaf_22 rfl (by decide) (by omega) (by omega) ⟨fun c22 => ?_, fun c22 => ?_⟩
      · refine kw_iload_n hC dX8_leaf_27 rfl 3 rfl ?_
        refine kw_if_ge (tgt := 34) hC dX8_leaf_28 rfl (by decide) (by omega) ⟨fun c28 => ?_, fun c28 => ?_⟩
        · refine kw_aload_n hC dX8_leaf_34 rfl 0 rfl ?_
          refine kg_30_29 hC w8 f234 dX8_leaf_35 rfl (by decide) (by decide) ?_
          refine kw_iload_n hC dX8_leaf_38 rfl 1 rfl ?_
          refine kw_iload_n hC dX8_leaf_39 rfl 2 rfl ?_
          refine ks_69 hC dX8_leaf_40 rfl (by decide) (by decide) (by omega) (by omega) ?_
          refine kw_hv hfS (by unfold tL; omega) (fun S5 hfS5 hv5 ho5 => ?_)
          have hv9 := hv5
          have ho9 := ho5
          refine kw_aload_n hC dX8_leaf_41 rfl 0 rfl ?_
          refine kg_30_30 hC w8 f237 dX8_leaf_42 rfl (by decide) (by decide) ?_
          refine kw_iload_n hC dX8_leaf_45 rfl 1 rfl ?_
          refine kw_iload_n hC dX8_leaf_46 rfl 3 rfl ?_
          refine ks_70 hC dX8_leaf_47 rfl (by decide) (by decide) (by omega) (by omega) ?_
          refine kw_hv hfS5 (by unfold tL; omega) (fun S6 hfS6 hv6 ho6 => ?_)
          have hvA := hv6
          have hoA := ho6
          refine kw_iconst hC dX8_leaf_48 rfl ?_
          refine kw_istore (lv' := [(4, _), (0, _), (1, _), (2, _), (3, _)]) hC dX8_leaf_49 rfl (by decide) rfl ?_
          have hL51 : ∀ (n51 : Nat) (x : Int) (W51 : wSt), Fr tL S W51 → (0 ≤ x) → (x ≤ 40) → (W51 69 0 a = b) → (∀ l, l ≠ a → W51 69 0 l = S 69 0 l) → (W51 70 0 a = c) → (∀ l, l ≠ a → W51 70 0 l = S 70 0 l) → (∀ j, 0 ≤ j → j < x → W51 71 0 (40 * a + j) = 0) → (∀ j, ¬ (40 * a ≤ j ∧ j < 40 * a + x) → W51 71 0 j = S 71 0 j) → 40 - x < (n51 : Int) → Wk E g 5 W51 51 [(0, vr g 30 0), (1, vi a), (2, vi b), (3, vi c), (4, vi x)] [] := by
            intro n51
            induction n51 with
            | zero => intro x W51 hfW51 x0 x1 q69 o69 q70 o70 hz hoz hm51; exact absurd hm51 (by omega)
            | succ n51 ih51 =>
              intro x W51 hfW51 x0 x1 q69 o69 q70 o70 hz hoz hm51
              refine kw_iload hC dX8_leaf_51 rfl 4 rfl ?_
              refine kw_bipush hC dX8_leaf_53 rfl (by decide) ?_
              refine kw_icmp_ge (tgt := 77) hC dX8_leaf_55 rfl (by decide) (by omega) (by omega) ⟨fun c55 => ?_, fun c55 => ?_⟩
              · have hi8 := hRS.lf hfW51 (fun l l0 l1 => by rcases Decidable.em (l = a) with e | e; exact (by rw [e, q69]; omega); exact (by rw [o69 l e]; exact hRS.la l l0 l1)) (fun l l0 l1 => by rcases Decidable.em (l = a) with e | e; exact (by rw [e, q70]; omega); exact (by rw [o70 l e]; exact hRS.sz l l0 l1)) (fun j j0 j1 => by rcases Decidable.em (40 * a ≤ j ∧ j < 40 * a + 40) with e | e; exact (by have := hz (j - 40 * a) (by omega) (by omega); rw [show 40 * a + (j - 40 * a) = j by omega] at this; omega); exact (by rw [hoz j (by omega)]; exact hRS.it j j0 j1))
                refine kw_iload_n hC dX8_leaf_77 rfl 3 rfl ?_
                exact hR9.1 rfl _ _ _ _ dX8_leaf_78 ⟨_, rfl, hi8, hfW51, fun y hy => by skip; unfold aLeaf rLeaf; (repeat' split) <;> first | omega | exact ⟨fun l l0 l1 => by obtain ⟨y1, y2, y3⟩ := hy l l0 l1; rcases Decidable.em (l = a) with e | e; exact (by subst e; exact ⟨by show _ = (if l = l then b else _); rw [if_pos rfl]; exact q69, by show _ = (if l = l then c else _); rw [if_pos rfl]; exact q70, fun j j0 j1 => by show _ = (if l = l then (0 : Int) else _); rw [if_pos rfl]; exact hz j j0 (by omega)⟩); exact ⟨by show _ = (if l = a then b else _); rw [if_neg e, o69 l e]; exact y1, by show _ = (if l = a then c else _); rw [if_neg e, o70 l e]; exact y2, fun j j0 j1 => by show _ = (if l = a then (0 : Int) else _); rw [if_neg e, hoz _ (by omega)]; exact y3 j j0 j1⟩, by omega⟩⟩
              · refine kw_aload_n hC dX8_leaf_58 rfl 0 rfl ?_
                refine kg_30_31 hC w8 f240 dX8_leaf_59 rfl (by decide) (by decide) ?_
                refine kw_bipush hC dX8_leaf_62 rfl (by decide) ?_
                refine kw_iload_n hC dX8_leaf_64 rfl 1 rfl ?_
                refine kw_imul hC dX8_leaf_65 rfl ?_
                refine kw_iload hC dX8_leaf_66 rfl 4 rfl ?_
                refine kw_iadd hC dX8_leaf_68 rfl ?_
                refine kw_lconst (z := 0) hC dX8_leaf_69 rfl rfl ?_
                refine ks_71 hC dX8_leaf_70 rfl (by decide) (by decide) (by omega) (by omega) ?_
                refine kw_hv hfW51 (by unfold tL; omega) (fun S8 hfS8 hv8 ho8 => ?_)
                refine kw_iinc (lv' := [(4, _), (0, _), (1, _), (2, _), (3, _)]) hC dX8_leaf_71 rfl 4 rfl (by decide) rfl ?_
                refine kw_goto (tgt := 51) hC dX8_leaf_74 rfl (by decide) ?_
                refine kw_lv [1, 2, 3, 4, 0] rfl ?_
                exact ih51 (x + 1) S8 hfS8 (by omega) (by omega) ((ho8 69 0 a (by omega)).trans q69) (fun l hl => (ho8 69 0 l (by omega)).trans (o69 l hl)) ((ho8 70 0 a (by omega)).trans q70) (fun l hl => (ho8 70 0 l (by omega)).trans (o70 l hl)) (fun j j0 j1 => by rcases Decidable.em (j = x) with e | e; exact (by rw [e]; exact hv8); exact (ho8 71 0 _ (by omega)).trans (hz j j0 (by omega))) (fun j hj => (ho8 71 0 j (by omega)).trans (hoz j (by omega))) (by omega)
          refine kw_lv [1, 2, 3, 4, 0] rfl ?_
          exact hL51 41 0 S6 hfS6 (by omega) (by omega) ((hoA 69 0 a (by omega)).trans hv9) (fun l hl => (hoA 69 0 l (by omega)).trans (ho9 69 0 l (by omega))) hvA (fun l hl => (hoA 70 0 l (by omega)).trans (ho9 70 0 l (by omega))) (fun j _ _ => by omega) (fun j _ => (hoA 71 0 j (by omega)).trans (ho9 71 0 j (by omega))) (by omega)
        · refine kw_bipush hC dX8_leaf_31 rfl (by decide) ?_
          exact hR9.1 rfl _ _ _ _ dX8_leaf_33 ⟨_, rfl, hRS, Fr.rfl _ S, fun y hy => by skip; unfold aLeaf rLeaf; (repeat' split) <;> first | omega | exact ⟨hy, by omega⟩ | exact ⟨hy, rfl⟩⟩
      · refine kw_iconst hC dX8_leaf_25 rfl ?_
        exact hR9.1 rfl _ _ _ _ dX8_leaf_26 ⟨_, rfl, hRS, Fr.rfl _ S, fun y hy => by skip; unfold aLeaf rLeaf; (repeat' split) <;> first | omega | exact ⟨hy, by omega⟩ | exact ⟨hy, rfl⟩⟩

set_option maxHeartbeats 4000000 in
set_option maxRecDepth 100000 in
theorem d_X8_drop {g : wG} (hD : wD g) {S : wSt} {a : Int} (ha : -2147483648 ≤ a ∧ a ≤ 2147483647) (hRS : RI S) (l : Launch) : Kt l yX8_drop wsX8_drop ({ frames := 2, cells := 0, slots := 0, locals := 45 } : Room) g S [vr g 30 0, vi a] (pI (fun r S' => RI S' ∧ Fr tL S S' ∧ ∀ y, LR S y → LR S' (aDrop a y) ∧ r = rDrop a y)) := by
  refine Kt.of (cc := cX8_drop) (nL := 2) (ret := (some .int)) (own := RX8) rfl hD (by decide) rfl (Nat.le_of_ble_eq_true rfl) ⟨rfl, rfl⟩ ?_
  intro E hC hR9
  have f234 : Cond.fieldLink RX8 234 "MirrorBenchModel" "lanes" "[I" ∈ wsX8_drop := by decide +kernel
  have f237 : Cond.fieldLink RX8 237 "MirrorBenchModel" "sizes" "[I" ∈ wsX8_drop := by decide +kernel
  have w8 : ∀ w ∈ wsX80, w ∈ wsX8_drop := by decide +kernel
  show Wk E g 2 S 0 [(0, vr g 30 0), (1, vi a)] []
  have hfS : Fr tL S S := Fr.rfl _ S
  have hn := hRS.n
  refine kw_iload_n hC dX8_drop_0 rfl 1 rfl ?_
  refine kw_callS hC (d_X8_isLeaf hD (by omega)) gX8_drop_X8_isLeaf rfl ⟨rfl, rfl⟩ 1 (by decide +kernel) ⟨by decide, by decide⟩ rfl rfl (Nat.le_of_ble_eq_true rfl) dX8_drop_1 rfl (kd_ie ?_)
  refine kw_ifne_b (tgt := 9) hC dX8_drop_4 rfl (by decide) ⟨fun c4 => ?_, fun c4 => ?_⟩
  · have hla := hRS.la a (by omega) (by omega)
    have hsz := hRS.sz a (by omega) (by omega)
    refine kw_aload_n hC dX8_drop_9 rfl 0 rfl ?_
    refine kg_30_29 hC w8 f234 dX8_drop_10 rfl (by decide) (by decide) ?_
    refine kw_iload_n hC dX8_drop_13 rfl 1 rfl ?_
    refine ka_69 hC dX8_drop_14 rfl (by decide) (by decide) (by omega) (by omega) ?_
    refine kw_if_ge (tgt := 21) hC dX8_drop_15 rfl (by decide) (by omega) ⟨fun c15 => ?_, fun c15 => ?_⟩
    · refine kw_aload_n hC dX8_drop_21 rfl 0 rfl ?_
      refine kg_30_29 hC w8 f234 dX8_drop_22 rfl (by decide) (by decide) ?_
      refine kw_iload_n hC dX8_drop_25 rfl 1 rfl ?_
      refine kw_iconst hC dX8_drop_26 rfl ?_
      refine ks_69 hC dX8_drop_27 rfl (by decide) (by decide) (by omega) (by omega) ?_
      refine kw_hv hfS (by unfold tL; omega) (fun S3 hfS3 hv3 ho3 => ?_)
      have hv9 := hv3
      have ho9 := ho3
      have hi8 := hRS.lf hfS3 (fun l l0 l1 => by rcases Decidable.em (l = a) with e | e; exact (by rw [e, hv9]; omega); exact (by rw [ho9 69 0 l (by omega)]; exact hRS.la l l0 l1)) (fun l l0 l1 => by rw [ho9 70 0 l (by omega)]; exact hRS.sz l l0 l1) (fun j j0 j1 => by rw [ho9 71 0 j (by omega)]; exact hRS.it j j0 j1)
      refine kw_aload_n hC dX8_drop_28 rfl 0 rfl ?_
      refine kg_30_30 hC w8 f237 dX8_drop_29 rfl (by decide) (by decide) ?_
      refine kw_iload_n hC dX8_drop_32 rfl 1 rfl ?_
      refine ka_70 hC dX8_drop_33 rfl (by decide) (by decide) (by omega) (by omega) ?_
      refine kw_chi (z' := S 70 0 a) (ho9 70 0 a (by omega)) ?_
      exact hR9.1 rfl _ _ _ _ dX8_drop_34 ⟨_, rfl, hi8, hfS3, fun y hy => by obtain ⟨y1, y2, y3⟩ := hy a (by omega) (by omega); unfold aDrop rDrop; (repeat' split) <;> first | omega | exact ⟨fun l l0 l1 => by obtain ⟨y1, y2, y3⟩ := hy l l0 l1; exact ⟨by show _ = (if l = a then (-1 : Int) else _); rcases Decidable.em (l = a) with e | e; exact (by rw [if_pos e, e]; exact hv9); exact (by rw [if_neg e, ho9 69 0 l (by omega)]; exact y1), by rw [ho9 70 0 l (by omega)]; exact y2, fun j j0 j1 => by rw [ho9 71 0 _ (by omega)]; exact y3 j j0 j1⟩, by omega⟩⟩
    · refine kw_bipush hC dX8_drop_18 rfl (by decide) ?_
      exact hR9.1 rfl _ _ _ _ dX8_drop_20 ⟨_, rfl, hRS, Fr.rfl _ S, fun y hy => by obtain ⟨y1, y2, y3⟩ := hy a (by omega) (by omega); unfold aDrop rDrop; (repeat' split) <;> first | omega | exact ⟨hy, by omega⟩ | exact ⟨hy, rfl⟩⟩
  · refine kw_iconst hC dX8_drop_7 rfl ?_
    exact hR9.1 rfl _ _ _ _ dX8_drop_8 ⟨_, rfl, hRS, Fr.rfl _ S, fun y hy => by skip; unfold aDrop rDrop; (repeat' split) <;> first | omega | exact ⟨hy, by omega⟩ | exact ⟨hy, rfl⟩⟩

theorem vItem_r {a v : Int} (hv : -9223372036854775808 ≤ v ∧ v ≤ 9223372036854775807) : -9223372036854775808 ≤ vItem a v ∧ vItem a v ≤ 9223372036854775807 := by
  have h1 : -2147483648 ≤ i_b v ∧ i_b v ≤ 2147483647 := xi_r _
  have h2 := ni_r v
  unfold vItem
  (repeat' split) <;> omega

set_option maxHeartbeats 4000000 in
set_option maxRecDepth 100000 in
theorem d_X8_item {g : wG} (hD : wD g) {S : wSt} {a b c d : Int} (ha : -2147483648 ≤ a ∧ a ≤ 2147483647) (hb : -2147483648 ≤ b ∧ b ≤ 2147483647) (hc : -2147483648 ≤ c ∧ c ≤ 2147483647) (hd : -9223372036854775808 ≤ d ∧ d ≤ 9223372036854775807) (hRS : RI S) (l : Launch) : Kt l yX8_item wsX8_item ({ frames := 2, cells := 0, slots := 0, locals := 45 } : Room) g S [vr g 30 0, vi a, vi b, vi c, vl d] (pI (fun r S' => RI S' ∧ Fr tL S S' ∧ ∀ y, LR S y → LR S' (aItem a b c d y) ∧ r = rItem a b c y)) := by
  refine Kt.of (cc := cX8_item) (nL := 6) (ret := (some .int)) (own := RX8) rfl hD (by decide) rfl (Nat.le_of_ble_eq_true rfl) ⟨rfl, rfl⟩ ?_
  intro E hC hR9
  have f234 : Cond.fieldLink RX8 234 "MirrorBenchModel" "lanes" "[I" ∈ wsX8_item := by decide +kernel
  have f237 : Cond.fieldLink RX8 237 "MirrorBenchModel" "sizes" "[I" ∈ wsX8_item := by decide +kernel
  have f240 : Cond.fieldLink RX8 240 "MirrorBenchModel" "items" "[J" ∈ wsX8_item := by decide +kernel
  have l28 : Cond.constantLong RX8 28 (Int64.ofInt (2)) ∈ wsX8_item := by decide +kernel
  have w8 : ∀ w ∈ wsX80, w ∈ wsX8_item := by decide +kernel
  show Wk E g 6 S 0 [(0, vr g 30 0), (1, vi a), (2, vi b), (3, vi c), (4, vl d)] []
  have hfS : Fr tL S S := Fr.rfl _ S
  have hn := hRS.n
  refine kw_iload_n hC dX8_item_0 rfl 1 rfl ?_
  refine kw_callS hC (d_X8_isLeaf hD (by omega)) gX8_item_X8_isLeaf rfl ⟨rfl, rfl⟩ 1 (by decide +kernel) ⟨by decide, by decide⟩ rfl rfl (Nat.le_of_ble_eq_true rfl) dX8_item_1 rfl (kd_ie ?_)
  refine kw_ifeq_b (tgt := 19) hC dX8_item_4 rfl (by decide) ⟨fun c4 => ?_, fun c4 => ?_⟩
  · refine kw_iconst hC dX8_item_19 rfl ?_
    exact hR9.1 rfl _ _ _ _ dX8_item_20 ⟨_, rfl, hRS, Fr.rfl _ S, fun y hy => by skip; unfold aItem rItem; (repeat' split) <;> first | omega | exact ⟨hy, by omega⟩ | exact ⟨hy, rfl⟩⟩
  · refine kw_iload_n hC dX8_item_7 rfl 2 rfl ?_
    refine kw_i2l hC dX8_item_8 rfl (by omega) ?_
    refine kw_lconst (z := 0) hC dX8_item_9 rfl rfl ?_
    refine kw_ldc2 (z := 2) hC dX8_item_10 rfl l28 ?_
    refine kw_callS hC (d_X8_in hD (by omega) (by omega) (by omega)) gX8_item_X8_in rfl ⟨rfl, rfl⟩ 3 (by decide +kernel) ⟨by decide, by decide⟩ rfl rfl (Nat.le_of_ble_eq_true rfl) dX8_item_13 rfl (kd_ie ?_)
    refine kw_ifne_b (tgt := 21) hC dX8_item_16 rfl (by decide) ⟨fun c16 => ?_, fun c16 => ?_⟩
    · have hla := hRS.la a (by omega) (by omega)
      have hsz := hRS.sz a (by omega) (by omega)
      refine kw_aload_n hC dX8_item_21 rfl 0 rfl ?_
      refine kg_30_29 hC w8 f234 dX8_item_22 rfl (by decide) (by decide) ?_
      refine kw_iload_n hC dX8_item_25 rfl 1 rfl ?_
      refine ka_69 hC dX8_item_26 rfl (by decide) (by decide) (by omega) (by omega) ?_
      refine kw_if_ge (tgt := 33) hC dX8_item_27 rfl (by decide) (by omega) ⟨fun c27 => ?_, fun c27 => ?_⟩
      · refine kw_aload_n hC dX8_item_33 rfl 0 rfl ?_
        refine kg_30_29 hC w8 f234 dX8_item_34 rfl (by decide) (by decide) ?_
        refine kw_iload_n hC dX8_item_37 rfl 1 rfl ?_
        refine ka_69 hC dX8_item_38 rfl (by decide) (by decide) (by omega) (by omega) ?_
        refine kw_iload_n hC dX8_item_39 rfl 2 rfl ?_
        refine kw_icmp_eq (tgt := 46) hC dX8_item_40 rfl (by decide) (by omega) (by omega) ⟨fun c40 => ?_, fun c40 => ?_⟩
        · refine kw_iload_n hC dX8_item_46 rfl 3 rfl ?_
          refine kw_i2l hC dX8_item_47 rfl (by omega) ?_
          refine kw_lconst (z := 0) hC dX8_item_48 rfl rfl ?_
          refine kw_aload_n hC dX8_item_49 rfl 0 rfl ?_
          refine kg_30_30 hC w8 f237 dX8_item_50 rfl (by decide) (by decide) ?_
          refine kw_iload_n hC dX8_item_53 rfl 1 rfl ?_
          refine ka_70 hC dX8_item_54 rfl (by decide) (by decide) (by omega) (by omega) ?_
          refine kw_iconst hC dX8_item_55 rfl ?_
          refine kw_isub hC dX8_item_56 rfl ?_
          refine kw_i2l hC dX8_item_57 rfl (by omega) ?_
          refine kw_callS hC (d_X8_in hD (by omega) (by omega) (by omega)) gX8_item_X8_in rfl ⟨rfl, rfl⟩ 3 (by decide +kernel) ⟨by decide, by decide⟩ rfl rfl (Nat.le_of_ble_eq_true rfl) dX8_item_58 rfl (kd_ie ?_)
          refine kw_ifne_b (tgt := 67) hC dX8_item_61 rfl (by decide) ⟨fun c61 => ?_, fun c61 => ?_⟩
          · refine kw_aload_n hC dX8_item_67 rfl 0 rfl ?_
            refine kg_30_31 hC w8 f240 dX8_item_68 rfl (by decide) (by decide) ?_
            refine kw_bipush hC dX8_item_71 rfl (by decide) ?_
            refine kw_iload_n hC dX8_item_73 rfl 1 rfl ?_
            refine kw_imul hC dX8_item_74 rfl ?_
            refine kw_iload_n hC dX8_item_75 rfl 3 rfl ?_
            refine kw_iadd hC dX8_item_76 rfl ?_
            refine kw_iload_n hC dX8_item_77 rfl 2 rfl ?_
            refine kw_if_ne (tgt := 89) hC dX8_item_78 rfl (by decide) (by omega) ⟨fun c78 => ?_, fun c78 => ?_⟩
            · refine kw_iload_n hC dX8_item_89 rfl 2 rfl ?_
              refine kw_iconst hC dX8_item_90 rfl ?_
              refine kw_icmp_ne (tgt := 101) hC dX8_item_91 rfl (by decide) (by omega) (by omega) ⟨fun c91 => ?_, fun c91 => ?_⟩
              · refine kw_lload hC dX8_item_101 rfl 4 rfl ?_
                refine kw_chl (z' := vItem b d) (by unfold vItem; (repeat' split) <;> first | rfl | omega) ?_
                refine ks_71 hC dX8_item_103 rfl (by decide) (by decide) (by omega) (by omega) ?_
                refine kw_hv hfS (by unfold tL; omega) (fun S8 hfS8 hv8 ho8 => ?_)
                have hv9 := hv8
                have ho9 := ho8
                have hi8 := hRS.lf hfS8 (fun l l0 l1 => by rw [ho9 69 0 l (by omega)]; exact hRS.la l l0 l1) (fun l l0 l1 => by rw [ho9 70 0 l (by omega)]; exact hRS.sz l l0 l1) (fun j j0 j1 => by rcases Decidable.em (j = 40 * a + c) with e | e; exact (by rw [e, hv9]; exact vItem_r hd); exact (by rw [ho9 71 0 j (by omega)]; exact hRS.it j j0 j1))
                refine kw_iconst hC dX8_item_104 rfl ?_
                exact hR9.1 rfl _ _ _ _ dX8_item_105 ⟨_, rfl, hi8, hfS8, fun y hy => by obtain ⟨y1, y2, y3⟩ := hy a (by omega) (by omega); unfold aItem rItem; (repeat' split) <;> first | omega | exact ⟨fun l l0 l1 => by obtain ⟨y1, y2, y3⟩ := hy l l0 l1; exact ⟨by rw [ho9 69 0 l (by omega)]; exact y1, by rw [ho9 70 0 l (by omega)]; exact y2, fun j j0 j1 => by show _ = (if l = a ∧ j = c then vItem b d else _); rcases Decidable.em (l = a ∧ j = c) with e | e; exact (by rw [if_pos e, e.1, e.2]; exact hv9); exact (by rw [if_neg e, ho9 71 0 _ (by omega)]; exact y3 j j0 j1)⟩, by omega⟩⟩
              · refine kw_lload hC dX8_item_94 rfl 4 rfl ?_
                refine kw_l2i hC dX8_item_96 rfl ?_
                refine kw_nri ?_
                refine kw_i2l hC dX8_item_97 rfl (ni_r _) ?_
                refine kw_goto (tgt := 103) hC dX8_item_98 rfl (by decide) ?_
                refine kw_chl (z' := vItem b d) (by unfold vItem; (repeat' split) <;> first | rfl | omega) ?_
                refine ks_71 hC dX8_item_103 rfl (by decide) (by decide) (by omega) (by omega) ?_
                refine kw_hv hfS (by unfold tL; omega) (fun S9 hfS9 hv9 ho9 => ?_)
                have hv9 := hv9
                have ho9 := ho9
                have hi8 := hRS.lf hfS9 (fun l l0 l1 => by rw [ho9 69 0 l (by omega)]; exact hRS.la l l0 l1) (fun l l0 l1 => by rw [ho9 70 0 l (by omega)]; exact hRS.sz l l0 l1) (fun j j0 j1 => by rcases Decidable.em (j = 40 * a + c) with e | e; exact (by rw [e, hv9]; exact vItem_r hd); exact (by rw [ho9 71 0 j (by omega)]; exact hRS.it j j0 j1))
                refine kw_iconst hC dX8_item_104 rfl ?_
                exact hR9.1 rfl _ _ _ _ dX8_item_105 ⟨_, rfl, hi8, hfS9, fun y hy => by obtain ⟨y1, y2, y3⟩ := hy a (by omega) (by omega); unfold aItem rItem; (repeat' split) <;> first | omega | exact ⟨fun l l0 l1 => by obtain ⟨y1, y2, y3⟩ := hy l l0 l1; exact ⟨by rw [ho9 69 0 l (by omega)]; exact y1, by rw [ho9 70 0 l (by omega)]; exact y2, fun j j0 j1 => by show _ = (if l = a ∧ j = c then vItem b d else _); rcases Decidable.em (l = a ∧ j = c) with e | e; exact (by rw [if_pos e, e.1, e.2]; exact hv9); exact (by rw [if_neg e, ho9 71 0 _ (by omega)]; exact y3 j j0 j1)⟩, by omega⟩⟩
            · refine kw_lload hC dX8_item_81 rfl 4 rfl ?_
              refine kw_l2i hC dX8_item_83 rfl ?_
              refine kw_i2bX hC dX8_item_84 rfl ?_
              refine kw_i2l hC dX8_item_85 rfl (xi_r _) ?_
              refine kw_goto (tgt := 103) hC dX8_item_86 rfl (by decide) ?_
              refine kw_chl (z' := vItem b d) (by unfold vItem; (repeat' split) <;> first | rfl | omega) ?_
              refine ks_71 hC dX8_item_103 rfl (by decide) (by decide) (by omega) (by omega) ?_
              refine kw_hv hfS (by unfold tL; omega) (fun S10 hfS10 hv10 ho10 => ?_)
              have hv9 := hv10
              have ho9 := ho10
              have hi8 := hRS.lf hfS10 (fun l l0 l1 => by rw [ho9 69 0 l (by omega)]; exact hRS.la l l0 l1) (fun l l0 l1 => by rw [ho9 70 0 l (by omega)]; exact hRS.sz l l0 l1) (fun j j0 j1 => by rcases Decidable.em (j = 40 * a + c) with e | e; exact (by rw [e, hv9]; exact vItem_r hd); exact (by rw [ho9 71 0 j (by omega)]; exact hRS.it j j0 j1))
              refine kw_iconst hC dX8_item_104 rfl ?_
              exact hR9.1 rfl _ _ _ _ dX8_item_105 ⟨_, rfl, hi8, hfS10, fun y hy => by obtain ⟨y1, y2, y3⟩ := hy a (by omega) (by omega); unfold aItem rItem; (repeat' split) <;> first | omega | exact ⟨fun l l0 l1 => by obtain ⟨y1, y2, y3⟩ := hy l l0 l1; exact ⟨by rw [ho9 69 0 l (by omega)]; exact y1, by rw [ho9 70 0 l (by omega)]; exact y2, fun j j0 j1 => by show _ = (if l = a ∧ j = c then vItem b d else _); rcases Decidable.em (l = a ∧ j = c) with e | e; exact (by rw [if_pos e, e.1, e.2]; exact hv9); exact (by rw [if_neg e, ho9 71 0 _ (by omega)]; exact y3 j j0 j1)⟩, by omega⟩⟩
          · refine kw_bipush hC dX8_item_64 rfl (by decide) ?_
            exact hR9.1 rfl _ _ _ _ dX8_item_66 ⟨_, rfl, hRS, Fr.rfl _ S, fun y hy => by obtain ⟨y1, y2, y3⟩ := hy a (by omega) (by omega); unfold aItem rItem; (repeat' split) <;> first | omega | exact ⟨hy, by omega⟩ | exact ⟨hy, rfl⟩⟩
        · refine kw_bipush hC dX8_item_43 rfl (by decide) ?_
          exact hR9.1 rfl _ _ _ _ dX8_item_45 ⟨_, rfl, hRS, Fr.rfl _ S, fun y hy => by obtain ⟨y1, y2, y3⟩ := hy a (by omega) (by omega); unfold aItem rItem; (repeat' split) <;> first | omega | exact ⟨hy, by omega⟩ | exact ⟨hy, rfl⟩⟩
      · refine kw_bipush hC dX8_item_30 rfl (by decide) ?_
        exact hR9.1 rfl _ _ _ _ dX8_item_32 ⟨_, rfl, hRS, Fr.rfl _ S, fun y hy => by obtain ⟨y1, y2, y3⟩ := hy a (by omega) (by omega); unfold aItem rItem; (repeat' split) <;> first | omega | exact ⟨hy, by omega⟩ | exact ⟨hy, rfl⟩⟩
    · refine kw_iconst hC dX8_item_19 rfl ?_
      exact hR9.1 rfl _ _ _ _ dX8_item_20 ⟨_, rfl, hRS, Fr.rfl _ S, fun y hy => by skip; unfold aItem rItem; (repeat' split) <;> first | omega | exact ⟨hy, by omega⟩ | exact ⟨hy, rfl⟩⟩

set_option maxHeartbeats 4000000 in
set_option maxRecDepth 100000 in
theorem d_X8_isWithin {g : wG} (hD : wD g) {S : wSt} {a b c : Int} (a0 : 0 ≤ a) (a1 : a < 4) (hb : -2147483648 ≤ b ∧ b ≤ 2147483647) (hc : -2147483648 ≤ c ∧ c ≤ 2147483647) (hRS : RI S) (l : Launch) : Kt l yX8_isWithin wsX8_isWithin ({ frames := 0, cells := 0, slots := 0, locals := 0 } : Room) g S [vr g 30 0, vi a, vi b, vi c] (pI (fun r S' => r = bz (0 ≤ b ∧ b + c ≤ S 70 0 a) ∧ S' = S)) := by
  refine Kt.of (cc := cX8_isWithin) (nL := 4) (ret := (some .boolean)) (own := RX8) rfl hD (by decide) rfl (Nat.le_of_ble_eq_true rfl) ⟨rfl, rfl⟩ ?_
  intro E hC hR9
  have f237 : Cond.fieldLink RX8 237 "MirrorBenchModel" "sizes" "[I" ∈ wsX8_isWithin := by decide +kernel
  have w8 : ∀ w ∈ wsX80, w ∈ wsX8_isWithin := by decide +kernel
  show Wk E g 4 S 0 [(0, vr g 30 0), (1, vi a), (2, vi b), (3, vi c)] []
  have hsz := hRS.sz a a0 a1
  refine kw_iload_n hC dX8_isWithin_0 rfl 2 rfl ?_
  refine kw_if_lt (tgt := 24) hC dX8_isWithin_1 rfl (by decide) (by omega) ⟨fun c1 => ?_, fun c1 => ?_⟩
  · refine kw_iconst hC dX8_isWithin_24 rfl ?_
    exact hR9.2.1 rfl _ _ _ _ dX8_isWithin_25 (by omega) ⟨_, rfl, by first | exact (bz_t (by omega)).symm | exact (bz_f (by omega)).symm, rfl⟩
  · refine kw_iload_n hC dX8_isWithin_4 rfl 2 rfl ?_
    refine kw_i2l hC dX8_isWithin_5 rfl (by omega) ?_
    refine kw_iload_n hC dX8_isWithin_6 rfl 3 rfl ?_
    refine kw_i2l hC dX8_isWithin_7 rfl (by omega) ?_
    refine kw_ladd hC dX8_isWithin_8 rfl ?_
    refine kw_aload_n hC dX8_isWithin_9 rfl 0 rfl ?_
    refine kg_30_30 hC w8 f237 dX8_isWithin_10 rfl (by decide) (by decide) ?_
    refine kw_iload_n hC dX8_isWithin_13 rfl 1 rfl ?_
    refine ka_70 hC dX8_isWithin_14 rfl (by decide) (by decide) (by omega) (by omega) ?_
    refine kw_i2l hC dX8_isWithin_15 rfl (by omega) ?_
    refine kw_lcmp hC dX8_isWithin_16 rfl (by omega) (by omega) ?_
    refine kw_if_gt (tgt := 24) hC dX8_isWithin_17 rfl (by decide) (cz_r _ _) ⟨fun c17 => ?_, fun c17 => ?_⟩
    · replace c17 := (cz_gt _ _).mp c17
      refine kw_iconst hC dX8_isWithin_24 rfl ?_
      exact hR9.2.1 rfl _ _ _ _ dX8_isWithin_25 (by omega) ⟨_, rfl, by first | exact (bz_t (by omega)).symm | exact (bz_f (by omega)).symm, rfl⟩
    · replace c17 := (not_congr (cz_gt _ _)).mp c17
      refine kw_iconst hC dX8_isWithin_20 rfl ?_
      refine kw_goto (tgt := 25) hC dX8_isWithin_21 rfl (by decide) ?_
      exact hR9.2.1 rfl _ _ _ _ dX8_isWithin_25 (by omega) ⟨_, rfl, by first | exact (bz_t (by omega)).symm | exact (bz_f (by omega)).symm, rfl⟩

set_option maxHeartbeats 4000000 in
set_option maxRecDepth 100000 in
theorem d_X8_copy {g : wG} (hD : wD g) {S : wSt} {a b c d e : Int} (ha : -2147483648 ≤ a ∧ a ≤ 2147483647) (hb : -2147483648 ≤ b ∧ b ≤ 2147483647) (hc : -2147483648 ≤ c ∧ c ≤ 2147483647) (hd : -2147483648 ≤ d ∧ d ≤ 2147483647) (he : -2147483648 ≤ e ∧ e ≤ 2147483647) (hRS : RI S) (l : Launch) : Kt l yX8_copy wsX8_copy ({ frames := 2, cells := 0, slots := 0, locals := 45 } : Room) g S [vr g 30 0, vi a, vi b, vi c, vi d, vi e] (pI (fun r S' => RI S' ∧ Fr tL S S' ∧ ∀ y, LR S y → LR S' (aCopy a b c d e y) ∧ r = rCopy a b c d e y)) := by
  refine Kt.of (cc := cX8_copy) (nL := 7) (ret := (some .int)) (own := RX8) rfl hD (by decide) rfl (Nat.le_of_ble_eq_true rfl) ⟨rfl, rfl⟩ ?_
  intro E hC hR9
  have f234 : Cond.fieldLink RX8 234 "MirrorBenchModel" "lanes" "[I" ∈ wsX8_copy := by decide +kernel
  have f240 : Cond.fieldLink RX8 240 "MirrorBenchModel" "items" "[J" ∈ wsX8_copy := by decide +kernel
  have f243 : Cond.fieldLink RX8 243 "MirrorBenchModel" "moved" "[J" ∈ wsX8_copy := by decide +kernel
  have w8 : ∀ w ∈ wsX80, w ∈ wsX8_copy := by decide +kernel
  show Wk E g 7 S 0 [(0, vr g 30 0), (1, vi a), (2, vi b), (3, vi c), (4, vi d), (5, vi e)] []
  have hfS : Fr tL S S := Fr.rfl _ S
  have hn := hRS.n
  refine kw_iload_n hC dX8_copy_0 rfl 1 rfl ?_
  refine kw_callS hC (d_X8_isLeaf hD (by omega)) gX8_copy_X8_isLeaf rfl ⟨rfl, rfl⟩ 1 (by decide +kernel) ⟨by decide, by decide⟩ rfl rfl (Nat.le_of_ble_eq_true rfl) dX8_copy_1 rfl (kd_ie ?_)
  refine kw_ifeq_b (tgt := 14) hC dX8_copy_4 rfl (by decide) ⟨fun c4 => ?_, fun c4 => ?_⟩
  · refine kw_iconst hC dX8_copy_14 rfl ?_
    exact hR9.1 rfl _ _ _ _ dX8_copy_15 ⟨_, rfl, hRS, Fr.rfl _ S, fun y hy => by skip; unfold aCopy rCopy; (repeat' split) <;> first | omega | exact ⟨hy, by omega⟩ | exact ⟨hy, rfl⟩⟩
  · refine kw_iload_n hC dX8_copy_7 rfl 3 rfl ?_
    refine kw_callS hC (d_X8_isLeaf hD (by omega)) gX8_copy_X8_isLeaf rfl ⟨rfl, rfl⟩ 1 (by decide +kernel) ⟨by decide, by decide⟩ rfl rfl (Nat.le_of_ble_eq_true rfl) dX8_copy_8 rfl (kd_ie ?_)
    refine kw_ifne_b (tgt := 16) hC dX8_copy_11 rfl (by decide) ⟨fun c11 => ?_, fun c11 => ?_⟩
    · have hla := hRS.la a (by omega) (by omega)
      have hsz := hRS.sz a (by omega) (by omega)
      have hlc := hRS.la c (by omega) (by omega)
      have hsc := hRS.sz c (by omega) (by omega)
      refine kw_aload_n hC dX8_copy_16 rfl 0 rfl ?_
      refine kg_30_29 hC w8 f234 dX8_copy_17 rfl (by decide) (by decide) ?_
      refine kw_iload_n hC dX8_copy_20 rfl 1 rfl ?_
      refine ka_69 hC dX8_copy_21 rfl (by decide) (by decide) (by omega) (by omega) ?_
      refine kw_if_lt (tgt := 34) hC dX8_copy_22 rfl (by decide) (by omega) ⟨fun c22 => ?_, fun c22 => ?_⟩
      · refine kw_bipush hC dX8_copy_34 rfl (by decide) ?_
        exact hR9.1 rfl _ _ _ _ dX8_copy_36 ⟨_, rfl, hRS, Fr.rfl _ S, fun y hy => by obtain ⟨y1, y2, y3⟩ := hy a (by omega) (by omega); obtain ⟨z1, z2, z3⟩ := hy c (by omega) (by omega); unfold aCopy rCopy; (repeat' split) <;> first | omega | exact ⟨hy, by omega⟩ | exact ⟨hy, rfl⟩⟩
      · refine kw_aload_n hC dX8_copy_25 rfl 0 rfl ?_
        refine kg_30_29 hC w8 f234 dX8_copy_26 rfl (by decide) (by decide) ?_
        refine kw_iload_n hC dX8_copy_29 rfl 3 rfl ?_
        refine ka_69 hC dX8_copy_30 rfl (by decide) (by decide) (by omega) (by omega) ?_
        refine kw_if_ge (tgt := 37) hC dX8_copy_31 rfl (by decide) (by omega) ⟨fun c31 => ?_, fun c31 => ?_⟩
        · refine kw_aload_n hC dX8_copy_37 rfl 0 rfl ?_
          refine kg_30_29 hC w8 f234 dX8_copy_38 rfl (by decide) (by decide) ?_
          refine kw_iload_n hC dX8_copy_41 rfl 1 rfl ?_
          refine ka_69 hC dX8_copy_42 rfl (by decide) (by decide) (by omega) (by omega) ?_
          refine kw_aload_n hC dX8_copy_43 rfl 0 rfl ?_
          refine kg_30_29 hC w8 f234 dX8_copy_44 rfl (by decide) (by decide) ?_
          refine kw_iload_n hC dX8_copy_47 rfl 3 rfl ?_
          refine ka_69 hC dX8_copy_48 rfl (by decide) (by decide) (by omega) (by omega) ?_
          refine kw_icmp_eq (tgt := 55) hC dX8_copy_49 rfl (by decide) (by omega) (by omega) ⟨fun c49 => ?_, fun c49 => ?_⟩
          · refine kw_iload hC dX8_copy_55 rfl 5 rfl ?_
            refine kw_if_lt (tgt := 83) hC dX8_copy_57 rfl (by decide) (by omega) ⟨fun c57 => ?_, fun c57 => ?_⟩
            · refine kw_bipush hC dX8_copy_83 rfl (by decide) ?_
              exact hR9.1 rfl _ _ _ _ dX8_copy_85 ⟨_, rfl, hRS, Fr.rfl _ S, fun y hy => by obtain ⟨y1, y2, y3⟩ := hy a (by omega) (by omega); obtain ⟨z1, z2, z3⟩ := hy c (by omega) (by omega); unfold aCopy rCopy; (repeat' split) <;> first | omega | exact ⟨hy, by omega⟩ | exact ⟨hy, rfl⟩⟩
            · refine kw_aload_n hC dX8_copy_60 rfl 0 rfl ?_
              refine kw_iload_n hC dX8_copy_61 rfl 1 rfl ?_
              refine kw_iload_n hC dX8_copy_62 rfl 2 rfl ?_
              refine kw_iload hC dX8_copy_63 rfl 5 rfl ?_
              refine kw_callV hC (d_X8_isWithin hD (by omega) (by omega) (by omega) (by omega) hRS) gX8_copy_X8_isWithin ⟨_, rfl⟩ rfl (by decide) (by decide) rfl ⟨rfl, rfl⟩ 3 (by decide +kernel) ⟨by decide, by decide⟩ rfl rfl (Nat.le_of_ble_eq_true rfl) dX8_copy_65 rfl (kd_ie ?_)
              refine kw_ifeq_b (tgt := 83) hC dX8_copy_68 rfl (by decide) ⟨fun c68 => ?_, fun c68 => ?_⟩
              · refine kw_bipush hC dX8_copy_83 rfl (by decide) ?_
                exact hR9.1 rfl _ _ _ _ dX8_copy_85 ⟨_, rfl, hRS, Fr.rfl _ S, fun y hy => by obtain ⟨y1, y2, y3⟩ := hy a (by omega) (by omega); obtain ⟨z1, z2, z3⟩ := hy c (by omega) (by omega); unfold aCopy rCopy; (repeat' split) <;> first | omega | exact ⟨hy, by omega⟩ | exact ⟨hy, rfl⟩⟩
              · refine kw_aload_n hC dX8_copy_71 rfl 0 rfl ?_
                refine kw_iload_n hC dX8_copy_72 rfl 3 rfl ?_
                refine kw_iload hC dX8_copy_73 rfl 4 rfl ?_
                refine kw_iload hC dX8_copy_75 rfl 5 rfl ?_
                refine kw_callV hC (d_X8_isWithin hD (by omega) (by omega) (by omega) (by omega) hRS) gX8_copy_X8_isWithin ⟨_, rfl⟩ rfl (by decide) (by decide) rfl ⟨rfl, rfl⟩ 3 (by decide +kernel) ⟨by decide, by decide⟩ rfl rfl (Nat.le_of_ble_eq_true rfl) dX8_copy_77 rfl (kd_ie ?_)
                refine kw_ifne_b (tgt := 86) hC dX8_copy_80 rfl (by decide) ⟨fun c80 => ?_, fun c80 => ?_⟩
                · refine kw_iconst hC dX8_copy_86 rfl ?_
                  refine kw_istore (lv' := [(6, _), (0, _), (1, _), (2, _), (3, _), (4, _), (5, _)]) hC dX8_copy_87 rfl (by decide) rfl ?_
                  have hL89 : ∀ (n89 : Nat) (x : Int) (W89 : wSt), Fr tL S W89 → (0 ≤ x) → (x ≤ e) → (∀ l, W89 69 0 l = S 69 0 l) → (∀ l, W89 70 0 l = S 70 0 l) → (∀ j, W89 71 0 j = S 71 0 j) → (∀ j, 0 ≤ j → j < x → W89 72 0 j = S 71 0 (40 * a + b + j)) → e - x < (n89 : Int) → Wk E g 7 W89 89 [(0, vr g 30 0), (1, vi a), (2, vi b), (3, vi c), (4, vi d), (5, vi e), (6, vi x)] [] := by
                    intro n89
                    induction n89 with
                    | zero => intro x W89 hfW89 x0 x1 q69 q70 q71 h1 hm89; exact absurd hm89 (by omega)
                    | succ n89 ih89 =>
                      intro x W89 hfW89 x0 x1 q69 q70 q71 h1 hm89
                      refine kw_iload hC dX8_copy_89 rfl 6 rfl ?_
                      refine kw_iload hC dX8_copy_91 rfl 5 rfl ?_
                      refine kw_icmp_ge (tgt := 123) hC dX8_copy_93 rfl (by decide) (by omega) (by omega) ⟨fun c93 => ?_, fun c93 => ?_⟩
                      · refine kw_iconst hC dX8_copy_123 rfl ?_
                        refine kw_istore (lv' := [(6, _), (0, _), (1, _), (2, _), (3, _), (4, _), (5, _)]) hC dX8_copy_124 rfl (by decide) rfl ?_
                        have hL126 : ∀ (n126 : Nat) (x : Int) (W126 : wSt), Fr tL S W126 → (0 ≤ x) → (x ≤ e) → (∀ l, W126 69 0 l = S 69 0 l) → (∀ l, W126 70 0 l = S 70 0 l) → (∀ j, 0 ≤ j → j < e → W126 72 0 j = S 71 0 (40 * a + b + j)) → (∀ j, 0 ≤ j → j < x → W126 71 0 (40 * c + d + j) = S 71 0 (40 * a + b + j)) → (∀ j, ¬ (40 * c + d ≤ j ∧ j < 40 * c + d + x) → W126 71 0 j = S 71 0 j) → e - x < (n126 : Int) → Wk E g 7 W126 126 [(0, vr g 30 0), (1, vi a), (2, vi b), (3, vi c), (4, vi d), (5, vi e), (6, vi x)] [] := by
                          intro n126
                          induction n126 with
                          | zero => intro x W126 hfW126 x0 x1 q69 q70 h1 h2 h3 hm126; exact absurd hm126 (by omega)
                          | succ n126 ih126 =>
                            intro x W126 hfW126 x0 x1 q69 q70 h1 h2 h3 hm126
                            refine kw_iload hC dX8_copy_126 rfl 6 rfl ?_
                            refine kw_iload hC dX8_copy_128 rfl 5 rfl ?_
                            refine kw_icmp_ge (tgt := 161) hC dX8_copy_130 rfl (by decide) (by omega) (by omega) ⟨fun c130 => ?_, fun c130 => ?_⟩
                            · have hi8 := hRS.lf hfW126 (fun l l0 l1 => by rw [q69]; exact hRS.la l l0 l1) (fun l l0 l1 => by rw [q70]; exact hRS.sz l l0 l1) (fun j j0 j1 => by rcases Decidable.em (40 * c + d ≤ j ∧ j < 40 * c + d + e) with g9 | g9; exact (by have := h2 (j - (40 * c + d)) (by omega) (by omega); rw [show 40 * c + d + (j - (40 * c + d)) = j by omega] at this; rw [this]; exact hRS.it _ (by omega) (by omega)); exact (by rw [h3 j (by omega)]; exact hRS.it j j0 j1))
                              refine kw_iload hC dX8_copy_161 rfl 5 rfl ?_
                              exact hR9.1 rfl _ _ _ _ dX8_copy_163 ⟨_, rfl, hi8, hfW126, fun y hy => by obtain ⟨y1, y2, y3⟩ := hy a (by omega) (by omega); obtain ⟨z1, z2, z3⟩ := hy c (by omega) (by omega); unfold aCopy rCopy; (repeat' split) <;> first | omega | exact ⟨fun l l0 l1 => by obtain ⟨u1, u2, u3⟩ := hy l l0 l1; exact ⟨by rw [q69]; exact u1, by rw [q70]; exact u2, fun j j0 j1 => by show _ = (if l = c ∧ d ≤ j ∧ j < d + e then y.2.2 a (b + (j - d)) else _); rcases Decidable.em (l = c ∧ d ≤ j ∧ j < d + e) with g9 | g9; exact (by rw [if_pos g9, g9.1]; have := h2 (j - d) (by omega) (by omega); rw [show 40 * c + d + (j - d) = 40 * c + j by omega] at this; rw [this, ← y3 (b + (j - d)) (by omega) (by omega), Int.add_assoc]); exact (by rw [if_neg g9, h3 _ (by omega)]; exact u3 j j0 j1)⟩, by omega⟩⟩
                            · refine kw_aload_n hC dX8_copy_133 rfl 0 rfl ?_
                              refine kg_30_31 hC w8 f240 dX8_copy_134 rfl (by decide) (by decide) ?_
                              refine kw_bipush hC dX8_copy_137 rfl (by decide) ?_
                              refine kw_iload_n hC dX8_copy_139 rfl 3 rfl ?_
                              refine kw_imul hC dX8_copy_140 rfl ?_
                              refine kw_iload hC dX8_copy_141 rfl 4 rfl ?_
                              refine kw_iadd hC dX8_copy_143 rfl ?_
                              refine kw_iload hC dX8_copy_144 rfl 6 rfl ?_
                              refine kw_iadd hC dX8_copy_146 rfl ?_
                              refine kw_aload_n hC dX8_copy_147 rfl 0 rfl ?_
                              refine kg_30_32 hC w8 f243 dX8_copy_148 rfl (by decide) (by decide) ?_
                              refine kw_iload hC dX8_copy_151 rfl 6 rfl ?_
                              refine ka_72 hC dX8_copy_153 rfl (by decide) (by decide) (by omega) (by omega) ?_
                              refine ks_71 hC dX8_copy_154 rfl (by decide) (by decide) (by omega) (by omega) ?_
                              refine kw_hv hfW126 (by unfold tL; omega) (fun S11 hfS11 hv11 ho11 => ?_)
                              refine kw_iinc (lv' := [(6, _), (0, _), (1, _), (2, _), (3, _), (4, _), (5, _)]) hC dX8_copy_155 rfl 6 rfl (by decide) rfl ?_
                              refine kw_goto (tgt := 126) hC dX8_copy_158 rfl (by decide) ?_
                              refine kw_lv [1, 2, 3, 4, 5, 6, 0] rfl ?_
                              exact ih126 (x + 1) S11 hfS11 (by omega) (by omega) (fun l => (ho11 69 0 l (by omega)).trans (q69 l)) (fun l => (ho11 70 0 l (by omega)).trans (q70 l)) (fun j j0 j1 => (ho11 72 0 j (by omega)).trans (h1 j j0 j1)) (fun j j0 j1 => by rcases Decidable.em (j = x) with g9 | g9; exact (by rw [g9, hv11]; exact h1 x x0 (by omega)); exact (ho11 71 0 _ (by omega)).trans (h2 j j0 (by omega))) (fun j hj => (ho11 71 0 j (by omega)).trans (h3 j (by omega))) (by omega)
                        refine kw_lv [1, 2, 3, 4, 5, 6, 0] rfl ?_
                        exact hL126 41 0 W89 hfW89 (by omega) (by omega) q69 q70 (fun j j0 j1 => h1 j j0 (by omega)) (fun j _ _ => by omega) (fun j _ => q71 j) (by omega)
                      · refine kw_aload_n hC dX8_copy_96 rfl 0 rfl ?_
                        refine kg_30_32 hC w8 f243 dX8_copy_97 rfl (by decide) (by decide) ?_
                        refine kw_iload hC dX8_copy_100 rfl 6 rfl ?_
                        refine kw_aload_n hC dX8_copy_102 rfl 0 rfl ?_
                        refine kg_30_31 hC w8 f240 dX8_copy_103 rfl (by decide) (by decide) ?_
                        refine kw_bipush hC dX8_copy_106 rfl (by decide) ?_
                        refine kw_iload_n hC dX8_copy_108 rfl 1 rfl ?_
                        refine kw_imul hC dX8_copy_109 rfl ?_
                        refine kw_iload_n hC dX8_copy_110 rfl 2 rfl ?_
                        refine kw_iadd hC dX8_copy_111 rfl ?_
                        refine kw_iload hC dX8_copy_112 rfl 6 rfl ?_
                        refine kw_iadd hC dX8_copy_114 rfl ?_
                        refine ka_71 hC dX8_copy_115 rfl (by decide) (by decide) (by omega) (by omega) ?_
                        refine ks_72 hC dX8_copy_116 rfl (by decide) (by decide) (by omega) (by omega) ?_
                        refine kw_hv hfW89 (by unfold tL; omega) (fun S12 hfS12 hv12 ho12 => ?_)
                        refine kw_iinc (lv' := [(6, _), (0, _), (1, _), (2, _), (3, _), (4, _), (5, _)]) hC dX8_copy_117 rfl 6 rfl (by decide) rfl ?_
                        refine kw_goto (tgt := 89) hC dX8_copy_120 rfl (by decide) ?_
                        refine kw_lv [1, 2, 3, 4, 5, 6, 0] rfl ?_
                        exact ih89 (x + 1) S12 hfS12 (by omega) (by omega) (fun l => (ho12 69 0 l (by omega)).trans (q69 l)) (fun l => (ho12 70 0 l (by omega)).trans (q70 l)) (fun l => (ho12 71 0 l (by omega)).trans (q71 l)) (ext_p (fun j z => z = S 71 0 (40 * a + b + j)) h1 (fun j hj => ho12 72 0 j (by omega)) (by rw [hv12]; exact q71 _)) (by omega)
                  refine kw_lv [1, 2, 3, 4, 5, 6, 0] rfl ?_
                  exact hL89 41 0 S hfS (by omega) (by omega) (fun _ => rfl) (fun _ => rfl) (fun _ => rfl) (fun j _ _ => by omega) (by omega)
                · refine kw_bipush hC dX8_copy_83 rfl (by decide) ?_
                  exact hR9.1 rfl _ _ _ _ dX8_copy_85 ⟨_, rfl, hRS, Fr.rfl _ S, fun y hy => by obtain ⟨y1, y2, y3⟩ := hy a (by omega) (by omega); obtain ⟨z1, z2, z3⟩ := hy c (by omega) (by omega); unfold aCopy rCopy; (repeat' split) <;> first | omega | exact ⟨hy, by omega⟩ | exact ⟨hy, rfl⟩⟩
          · refine kw_bipush hC dX8_copy_52 rfl (by decide) ?_
            exact hR9.1 rfl _ _ _ _ dX8_copy_54 ⟨_, rfl, hRS, Fr.rfl _ S, fun y hy => by obtain ⟨y1, y2, y3⟩ := hy a (by omega) (by omega); obtain ⟨z1, z2, z3⟩ := hy c (by omega) (by omega); unfold aCopy rCopy; (repeat' split) <;> first | omega | exact ⟨hy, by omega⟩ | exact ⟨hy, rfl⟩⟩
        · refine kw_bipush hC dX8_copy_34 rfl (by decide) ?_
          exact hR9.1 rfl _ _ _ _ dX8_copy_36 ⟨_, rfl, hRS, Fr.rfl _ S, fun y hy => by obtain ⟨y1, y2, y3⟩ := hy a (by omega) (by omega); obtain ⟨z1, z2, z3⟩ := hy c (by omega) (by omega); unfold aCopy rCopy; (repeat' split) <;> first | omega | exact ⟨hy, by omega⟩ | exact ⟨hy, rfl⟩⟩
    · refine kw_iconst hC dX8_copy_14 rfl ?_
      exact hR9.1 rfl _ _ _ _ dX8_copy_15 ⟨_, rfl, hRS, Fr.rfl _ S, fun y hy => by skip; unfold aCopy rCopy; (repeat' split) <;> first | omega | exact ⟨hy, by omega⟩ | exact ⟨hy, rfl⟩⟩

theorem ni_i {z : Int} (h : -2147483648 ≤ z ∧ z ≤ 2147483647) : vi z = vi z := Eq.refl _

set_option maxHeartbeats 4000000 in
set_option maxRecDepth 100000 in
theorem d_X8_word {g : wG} (hD : wD g) {S : wSt} {a b c d e : Int} (ha : -2147483648 ≤ a ∧ a ≤ 2147483647) (hb : -2147483648 ≤ b ∧ b ≤ 2147483647) (hc : -2147483648 ≤ c ∧ c ≤ 2147483647) (hd : -2147483648 ≤ d ∧ d ≤ 2147483647) (he : -2147483648 ≤ e ∧ e ≤ 2147483647) (hRS : RI S) (l : Launch) : Kt l yX8_word wsX8_word ({ frames := 2, cells := 0, slots := 0, locals := 47 } : Room) g S [vr g 30 0, vi a, vi b, vi c, vi d, vi e] (pI (fun r S' => RI S' ∧ Fr tW S S' ∧ ∀ x y, AR S x → LR S y → r = rWord a b c d e x.1.1 y)) := by
  refine Kt.of (cc := cX8_word) (nL := 7) (ret := (some .int)) (own := RX8) rfl hD (by decide) rfl (Nat.le_of_ble_eq_true rfl) ⟨rfl, rfl⟩ ?_
  intro E hC hR9
  have f43 : Cond.fieldLink RX8 43 "MirrorBenchModel" "lengths" "[I" ∈ wsX8_word := by decide +kernel
  have f52 : Cond.fieldLink RX8 52 "MirrorBenchModel" "words" "[I" ∈ wsX8_word := by decide +kernel
  have f234 : Cond.fieldLink RX8 234 "MirrorBenchModel" "lanes" "[I" ∈ wsX8_word := by decide +kernel
  have f240 : Cond.fieldLink RX8 240 "MirrorBenchModel" "items" "[J" ∈ wsX8_word := by decide +kernel
  have l28 : Cond.constantLong RX8 28 (Int64.ofInt (2)) ∈ wsX8_word := by decide +kernel
  have w8 : ∀ w ∈ wsX80, w ∈ wsX8_word := by decide +kernel
  show Wk E g 7 S 0 [(0, vr g 30 0), (1, vi a), (2, vi b), (3, vi c), (4, vi d), (5, vi e)] []
  have hfS : Fr fV S S := Fr.rfl _ S
  have hn := hRS.n
  refine kw_iload_n hC dX8_word_0 rfl 1 rfl ?_
  refine kw_callS hC (d_X8_isSlot hD (by omega)) gX8_word_X8_isSlot rfl ⟨rfl, rfl⟩ 1 (by decide +kernel) ⟨by decide, by decide⟩ rfl rfl (Nat.le_of_ble_eq_true rfl) dX8_word_1 rfl (kd_ie ?_)
  refine kw_ifeq_b (tgt := 26) hC dX8_word_4 rfl (by decide) ⟨fun c4 => ?_, fun c4 => ?_⟩
  · refine kw_iconst hC dX8_word_26 rfl ?_
    exact hR9.1 rfl _ _ _ _ dX8_word_27 ⟨_, rfl, hRS, Fr.rfl _ S, (fun x y hx hy => by have e0 := hx.1.1; skip; unfold rWord; (repeat' split) <;> first | omega | rfl)⟩
  · refine kw_iload_n hC dX8_word_7 rfl 2 rfl ?_
    refine kw_callS hC (d_X8_isLeaf hD (by omega)) gX8_word_X8_isLeaf rfl ⟨rfl, rfl⟩ 1 (by decide +kernel) ⟨by decide, by decide⟩ rfl rfl (Nat.le_of_ble_eq_true rfl) dX8_word_8 rfl (kd_ie ?_)
    refine kw_ifeq_b (tgt := 26) hC dX8_word_11 rfl (by decide) ⟨fun c11 => ?_, fun c11 => ?_⟩
    · refine kw_iconst hC dX8_word_26 rfl ?_
      exact hR9.1 rfl _ _ _ _ dX8_word_27 ⟨_, rfl, hRS, Fr.rfl _ S, (fun x y hx hy => by have e0 := hx.1.1; skip; unfold rWord; (repeat' split) <;> first | omega | rfl)⟩
    · refine kw_iload_n hC dX8_word_14 rfl 3 rfl ?_
      refine kw_i2l hC dX8_word_15 rfl (by omega) ?_
      refine kw_lconst (z := 0) hC dX8_word_16 rfl rfl ?_
      refine kw_ldc2 (z := 2) hC dX8_word_17 rfl l28 ?_
      refine kw_callS hC (d_X8_in hD (by omega) (by omega) (by omega)) gX8_word_X8_in rfl ⟨rfl, rfl⟩ 3 (by decide +kernel) ⟨by decide, by decide⟩ rfl rfl (Nat.le_of_ble_eq_true rfl) dX8_word_20 rfl (kd_ie ?_)
      refine kw_ifne_b (tgt := 28) hC dX8_word_23 rfl (by decide) ⟨fun c23 => ?_, fun c23 => ?_⟩
      · have hla := hRS.la b (by omega) (by omega)
        have hsz := hRS.sz b (by omega) (by omega)
        refine kw_aload_n hC dX8_word_28 rfl 0 rfl ?_
        refine kg_30_29 hC w8 f234 dX8_word_29 rfl (by decide) (by decide) ?_
        refine kw_iload_n hC dX8_word_32 rfl 2 rfl ?_
        refine ka_69 hC dX8_word_33 rfl (by decide) (by decide) (by omega) (by omega) ?_
        refine kw_if_ge (tgt := 40) hC dX8_word_34 rfl (by decide) (by omega) ⟨fun c34 => ?_, fun c34 => ?_⟩
        · refine kw_aload_n hC dX8_word_40 rfl 0 rfl ?_
          refine kg_30_29 hC w8 f234 dX8_word_41 rfl (by decide) (by decide) ?_
          refine kw_iload_n hC dX8_word_44 rfl 2 rfl ?_
          refine ka_69 hC dX8_word_45 rfl (by decide) (by decide) (by omega) (by omega) ?_
          refine kw_iload_n hC dX8_word_46 rfl 3 rfl ?_
          refine kw_icmp_eq (tgt := 53) hC dX8_word_47 rfl (by decide) (by omega) (by omega) ⟨fun c47 => ?_, fun c47 => ?_⟩
          · refine kw_iload hC dX8_word_53 rfl 5 rfl ?_
            refine kw_if_ge (tgt := 61) hC dX8_word_55 rfl (by decide) (by omega) ⟨fun c55 => ?_, fun c55 => ?_⟩
            · refine kw_aload_n hC dX8_word_61 rfl 0 rfl ?_
              refine kw_iload_n hC dX8_word_62 rfl 2 rfl ?_
              refine kw_iload hC dX8_word_63 rfl 4 rfl ?_
              refine kw_iload hC dX8_word_65 rfl 5 rfl ?_
              refine kw_callV hC (d_X8_isWithin hD (by omega) (by omega) (by omega) (by omega) hRS) gX8_word_X8_isWithin ⟨_, rfl⟩ rfl (by decide) (by decide) rfl ⟨rfl, rfl⟩ 3 (by decide +kernel) ⟨by decide, by decide⟩ rfl rfl (Nat.le_of_ble_eq_true rfl) dX8_word_67 rfl (kd_ie ?_)
              refine kw_ifne_b (tgt := 76) hC dX8_word_70 rfl (by decide) ⟨fun c70 => ?_, fun c70 => ?_⟩
              · refine kw_iconst hC dX8_word_76 rfl ?_
                refine kw_istore (lv' := [(6, _), (0, _), (1, _), (2, _), (3, _), (4, _), (5, _)]) hC dX8_word_77 rfl (by decide) rfl ?_
                have hL79 : ∀ (n79 : Nat) (z : Int), (0 ≤ z) → (z ≤ e) → (∀ j, 0 ≤ j → j < z → 0 ≤ S 71 0 (40 * b + d + j) ∧ S 71 0 (40 * b + d + j) ≤ S 30 0 0 - 1) → e - z < (n79 : Int) → Wk E g 7 S 79 [(0, vr g 30 0), (1, vi a), (2, vi b), (3, vi c), (4, vi d), (5, vi e), (6, vi z)] [] := by
                  intro n79
                  induction n79 with
                  | zero => intro z x0 x1 hall hm79; exact absurd hm79 (by omega)
                  | succ n79 ih79 =>
                    intro z x0 x1 hall hm79
                    refine kw_iload hC dX8_word_79 rfl 6 rfl ?_
                    refine kw_iload hC dX8_word_81 rfl 5 rfl ?_
                    refine kw_icmp_ge (tgt := 116) hC dX8_word_83 rfl (by decide) (by omega) (by omega) ⟨fun c83 => ?_, fun c83 => ?_⟩
                    · refine kw_aload_n hC dX8_word_116 rfl 0 rfl ?_
                      refine kg_30_6 hC w8 f43 dX8_word_117 rfl (by decide) (by decide) ?_
                      refine kw_iload_n hC dX8_word_120 rfl 1 rfl ?_
                      refine kw_iload hC dX8_word_121 rfl 5 rfl ?_
                      refine ks_46 hC dX8_word_123 rfl (by decide) (by decide) (by omega) (by omega) ?_
                      refine kw_hv hfS (by unfold fV; omega) (fun S9 hfS9 hv9 ho9 => ?_)
                      have hv9 := hv9
                      have ho9 := ho9
                      refine kw_iconst hC dX8_word_124 rfl ?_
                      refine kw_istore (lv' := [(6, _), (0, _), (1, _), (2, _), (3, _), (4, _), (5, _)]) hC dX8_word_125 rfl (by decide) rfl ?_
                      have hL127 : ∀ (n127 : Nat) (w : Int) (W127 : wSt), Fr fV S W127 → (0 ≤ w) → (w ≤ e) → (W127 46 0 a = e) → (∀ s, s ≠ a → W127 46 0 s = S 46 0 s) → (∀ j, 0 ≤ j → j < w → W127 45 0 (100 * a + j) = S 71 0 (40 * b + d + j)) → (∀ j, ¬ (100 * a ≤ j ∧ j < 100 * a + w) → W127 45 0 j = S 45 0 j) → e - w < (n127 : Int) → Wk E g 7 W127 127 [(0, vr g 30 0), (1, vi a), (2, vi b), (3, vi c), (4, vi d), (5, vi e), (6, vi w)] [] := by
                        intro n127
                        induction n127 with
                        | zero => intro w W127 hfW127 w0 w1 q46 h46 h3 h4 hm127; exact absurd hm127 (by omega)
                        | succ n127 ih127 =>
                          intro w W127 hfW127 w0 w1 q46 h46 h3 h4 hm127
                          replace hall : ∀ j, 0 ≤ j → j < e → 0 ≤ S 71 0 (40 * b + d + j) ∧ S 71 0 (40 * b + d + j) ≤ S 30 0 0 - 1 := fun j j0 j1 => hall j j0 (by omega)
                          refine kw_iload hC dX8_word_127 rfl 6 rfl ?_
                          refine kw_iload hC dX8_word_129 rfl 5 rfl ?_
                          refine kw_icmp_ge (tgt := 168) hC dX8_word_131 rfl (by decide) (by omega) (by omega) ⟨fun c131 => ?_, fun c131 => ?_⟩
                          · refine kw_iload hC dX8_word_168 rfl 5 rfl ?_
                            have hw9 := hRS.wd hfW127 ⟨fun s s0 s1 => by rcases Decidable.em (s = a) with g9 | g9; exact (by rw [g9, q46]; omega); exact (by rw [h46 s g9]; exact hRS.ln s s0 s1), fun s k s0 s1 k0 k1 => by rcases Decidable.em (s = a) with g9 | g9; exact (by rw [g9] at k1 ⊢; rw [q46] at k1; rw [h3 k k0 (by omega)]; have := hall k k0 k1; omega); exact (by rw [h46 s g9] at k1; have := hRS.ln s s0 s1; rw [h4 _ (by omega)]; exact hRS.lt s k s0 s1 k0 k1)⟩
                            exact hR9.1 rfl _ _ _ _ dX8_word_170 ⟨_, rfl, hw9, fV_tW hfW127, (fun x y hx hy => by have e0 := hx.1.1; obtain ⟨y1, y2, y3⟩ := hy b (by omega) (by omega); have hbz : bz (∀ j, 0 ≤ j → j < e → 0 ≤ y.2.2 b (d + j) ∧ y.2.2 b (d + j) < x.1.1) = 1 := bz_t (fun j j0 j1 => by have q1 := hall j j0 j1; have q2 := y3 (d + j) (by omega) (by omega); rw [← Int.add_assoc] at q2; omega); unfold rWord; (repeat' split) <;> first | omega | (rw [hbz]; omega))⟩
                          · refine kw_aload_n hC dX8_word_134 rfl 0 rfl ?_
                            refine kg_30_5 hC w8 f52 dX8_word_135 rfl (by decide) (by decide) ?_
                            refine kw_bipush hC dX8_word_138 rfl (by decide) ?_
                            refine kw_iload_n hC dX8_word_140 rfl 1 rfl ?_
                            refine kw_imul hC dX8_word_141 rfl ?_
                            refine kw_iload hC dX8_word_142 rfl 6 rfl ?_
                            refine kw_iadd hC dX8_word_144 rfl ?_
                            refine kw_aload_n hC dX8_word_145 rfl 0 rfl ?_
                            refine kg_30_31 hC w8 f240 dX8_word_146 rfl (by decide) (by decide) ?_
                            refine kw_bipush hC dX8_word_149 rfl (by decide) ?_
                            refine kw_iload_n hC dX8_word_151 rfl 2 rfl ?_
                            refine kw_imul hC dX8_word_152 rfl ?_
                            refine kw_iload hC dX8_word_153 rfl 4 rfl ?_
                            refine kw_iadd hC dX8_word_155 rfl ?_
                            refine kw_iload hC dX8_word_156 rfl 6 rfl ?_
                            refine kw_iadd hC dX8_word_158 rfl ?_
                            refine ka_71 hC dX8_word_159 rfl (by decide) (by decide) (by omega) (by omega) ?_
                            refine kw_l2i hC dX8_word_160 rfl ?_
                            refine ks_45 hC dX8_word_161 rfl (by decide) (by decide) (by omega) (by omega) ?_
                            refine kw_hv hfW127 (by unfold fV; omega) (fun S11 hfS11 hv11 ho11 => ?_)
                            refine kw_iinc (lv' := [(6, _), (0, _), (1, _), (2, _), (3, _), (4, _), (5, _)]) hC dX8_word_162 rfl 6 rfl (by decide) rfl ?_
                            refine kw_goto (tgt := 127) hC dX8_word_165 rfl (by decide) ?_
                            refine kw_lv [1, 2, 3, 4, 5, 6, 0] rfl ?_
                            exact ih127 (w + 1) S11 hfS11 (by omega) (by omega) ((ho11 46 0 a (by omega)).trans q46) (fun s hs => (ho11 46 0 s (by omega)).trans (h46 s hs)) (fun j j0 j1 => by rcases Decidable.em (j = w) with g9 | g9; exact (by rw [g9, hv11]; exact hfW127 71 0 _ (by unfold fV; omega)); exact (ho11 45 0 _ (by omega)).trans (h3 j j0 (by omega))) (fun j hj => (ho11 45 0 j (by omega)).trans (h4 j (by omega))) (by omega)
                      refine kw_lv [1, 2, 3, 4, 5, 6, 0] rfl ?_
                      exact hL127 41 0 S9 hfS9 (by omega) (by omega) hv9 (fun s hs => ho9 46 0 s (by omega)) (fun j _ _ => by omega) (fun j _ => ho9 45 0 j (by omega)) (by omega)
                    · refine kw_aload_n hC dX8_word_86 rfl 0 rfl ?_
                      refine kw_aload_n hC dX8_word_87 rfl 0 rfl ?_
                      refine kg_30_31 hC w8 f240 dX8_word_88 rfl (by decide) (by decide) ?_
                      refine kw_bipush hC dX8_word_91 rfl (by decide) ?_
                      refine kw_iload_n hC dX8_word_93 rfl 2 rfl ?_
                      refine kw_imul hC dX8_word_94 rfl ?_
                      refine kw_iload hC dX8_word_95 rfl 4 rfl ?_
                      refine kw_iadd hC dX8_word_97 rfl ?_
                      refine kw_iload hC dX8_word_98 rfl 6 rfl ?_
                      refine kw_iadd hC dX8_word_100 rfl ?_
                      refine ka_71 hC dX8_word_101 rfl (by decide) (by decide) (by omega) (by omega) ?_
                      refine kw_callV hC (d_X8_isMirror hD (hRS.it _ (by omega) (by omega)) (by omega) (by omega)) gX8_word_X8_isMirror ⟨_, rfl⟩ rfl (by decide) (by decide) rfl ⟨rfl, rfl⟩ 1 (by decide +kernel) ⟨by decide, by decide⟩ rfl rfl (Nat.le_of_ble_eq_true rfl) dX8_word_102 rfl (kd_ie ?_)
                      refine kw_ifne_b (tgt := 110) hC dX8_word_105 rfl (by decide) ⟨fun c105 => ?_, fun c105 => ?_⟩
                      · refine kw_iinc (lv' := [(6, _), (0, _), (1, _), (2, _), (3, _), (4, _), (5, _)]) hC dX8_word_110 rfl 6 rfl (by decide) rfl ?_
                        refine kw_goto (tgt := 79) hC dX8_word_113 rfl (by decide) ?_
                        refine kw_lv [1, 2, 3, 4, 5, 6, 0] rfl ?_
                        exact ih79 (z + 1) (by omega) (by omega) (ext_p (fun j q => 0 ≤ q ∧ q ≤ S 30 0 0 - 1) (f := fun j => S 71 0 (40 * b + d + j)) (f' := fun j => S 71 0 (40 * b + d + j)) hall (fun _ _ => rfl) c105) (by omega)
                      · refine kw_iconst hC dX8_word_108 rfl ?_
                        exact hR9.1 rfl _ _ _ _ dX8_word_109 ⟨_, rfl, hRS, Fr.rfl _ S, (fun x y hx hy => by have e0 := hx.1.1; obtain ⟨y1, y2, y3⟩ := hy b (by omega) (by omega); have hbz : bz (∀ j, 0 ≤ j → j < e → 0 ≤ y.2.2 b (d + j) ∧ y.2.2 b (d + j) < x.1.1) = 0 := bz_f (fun q => by have q1 := q z (by omega) (by omega); have q2 := y3 (d + z) (by omega) (by omega); rw [← Int.add_assoc] at q2; omega); unfold rWord; (repeat' split) <;> first | omega | (rw [hbz]; omega))⟩
                refine kw_lv [1, 2, 3, 4, 5, 6, 0] rfl ?_
                exact hL79 41 0 (by omega) (by omega) (fun j _ _ => by omega) (by omega)
              · refine kw_bipush hC dX8_word_73 rfl (by decide) ?_
                exact hR9.1 rfl _ _ _ _ dX8_word_75 ⟨_, rfl, hRS, Fr.rfl _ S, (fun x y hx hy => by have e0 := hx.1.1; obtain ⟨y1, y2, y3⟩ := hy b (by omega) (by omega); unfold rWord; (repeat' split) <;> first | omega | rfl)⟩
            · refine kw_bipush hC dX8_word_58 rfl (by decide) ?_
              exact hR9.1 rfl _ _ _ _ dX8_word_60 ⟨_, rfl, hRS, Fr.rfl _ S, (fun x y hx hy => by have e0 := hx.1.1; obtain ⟨y1, y2, y3⟩ := hy b (by omega) (by omega); unfold rWord; (repeat' split) <;> first | omega | rfl)⟩
          · refine kw_bipush hC dX8_word_50 rfl (by decide) ?_
            exact hR9.1 rfl _ _ _ _ dX8_word_52 ⟨_, rfl, hRS, Fr.rfl _ S, (fun x y hx hy => by have e0 := hx.1.1; obtain ⟨y1, y2, y3⟩ := hy b (by omega) (by omega); unfold rWord; (repeat' split) <;> first | omega | rfl)⟩
        · refine kw_bipush hC dX8_word_37 rfl (by decide) ?_
          exact hR9.1 rfl _ _ _ _ dX8_word_39 ⟨_, rfl, hRS, Fr.rfl _ S, (fun x y hx hy => by have e0 := hx.1.1; obtain ⟨y1, y2, y3⟩ := hy b (by omega) (by omega); unfold rWord; (repeat' split) <;> first | omega | rfl)⟩
      · refine kw_iconst hC dX8_word_26 rfl ?_
        exact hR9.1 rfl _ _ _ _ dX8_word_27 ⟨_, rfl, hRS, Fr.rfl _ S, (fun x y hx hy => by have e0 := hx.1.1; skip; unfold rWord; (repeat' split) <;> first | omega | rfl)⟩

set_option maxHeartbeats 4000000 in
set_option maxRecDepth 100000 in
theorem d_X8_parts {g : wG} (hD : wD g) {S : wSt} {a b c d : Int} (ha : -2147483648 ≤ a ∧ a ≤ 2147483647) (hb : -2147483648 ≤ b ∧ b ≤ 2147483647) (hc : -2147483648 ≤ c ∧ c ≤ 2147483647) (hd : -2147483648 ≤ d ∧ d ≤ 2147483647) (hRS : RI S) (l : Launch) : Kt l yX8_parts wsX8_parts ({ frames := 5, cells := 0, slots := 0, locals := 114 } : Room) g S [vr g 30 0, vi a, vi b, vi c, vi d] (pI (fun r S' => RI S' ∧ Fr tW S S')) := by
  refine Kt.of (cc := cX8_parts) (nL := 10) (ret := (some .int)) (own := RX8) rfl hD (by decide) rfl (Nat.le_of_ble_eq_true rfl) ⟨rfl, rfl⟩ ?_
  intro E hC hR9
  have f11 : Cond.fieldLink RX8 11 "MirrorBenchModel" "mirrors" "I" ∈ wsX8_parts := by decide +kernel
  have f14 : Cond.fieldLink RX8 14 "MirrorBenchModel" "kinds" "[I" ∈ wsX8_parts := by decide +kernel
  have f57 : Cond.fieldLink RX8 57 "MirrorBenchModel" "wMany" "I" ∈ wsX8_parts := by decide +kernel
  have f60 : Cond.fieldLink RX8 60 "MirrorBenchModel" "w" "[I" ∈ wsX8_parts := by decide +kernel
  have f81 : Cond.fieldLink RX8 81 "MirrorBenchModel" "isGreat" "Z" ∈ wsX8_parts := by decide +kernel
  have f92 : Cond.fieldLink RX8 92 "MirrorBenchModel" "rMany" "I" ∈ wsX8_parts := by decide +kernel
  have f95 : Cond.fieldLink RX8 95 "MirrorBenchModel" "r" "[I" ∈ wsX8_parts := by decide +kernel
  have f126 : Cond.fieldLink RX8 126 "MirrorBenchModel" "vMany" "I" ∈ wsX8_parts := by decide +kernel
  have f129 : Cond.fieldLink RX8 129 "MirrorBenchModel" "v" "[I" ∈ wsX8_parts := by decide +kernel
  have f223 : Cond.fieldLink RX8 223 "MirrorBenchModel" "part" "[I" ∈ wsX8_parts := by decide +kernel
  have w8 : ∀ w ∈ wsX80, w ∈ wsX8_parts := by decide +kernel
  show Wk E g 10 S 0 [(0, vr g 30 0), (1, vi a), (2, vi b), (3, vi c), (4, vi d)] []
  have hfS : Fr tR S S := Fr.rfl _ S
  have hRS := hRS.fr hfS
  have hnS := hRS.n
  have enS : S 30 0 0 = S 30 0 0 := hfS 30 0 0 (by unfold tR; omega)
  refine kw_iload_n hC dX8_parts_0 rfl 1 rfl ?_
  refine kw_callS hC (d_X8_isSlot hD (by omega)) gX8_parts_X8_isSlot rfl ⟨rfl, rfl⟩ 1 (by decide +kernel) ⟨by decide, by decide⟩ rfl rfl (Nat.le_of_ble_eq_true rfl) dX8_parts_1 rfl (kd_ie ?_)
  refine kw_ifeq_b (tgt := 28) hC dX8_parts_4 rfl (by decide) ⟨fun c4 => ?_, fun c4 => ?_⟩
  · refine kw_iconst hC dX8_parts_28 rfl ?_
    exact hR9.1 rfl _ _ _ _ dX8_parts_29 (by first | exact ⟨_, rfl, hp9.2.1, hbW.trans ((tR_tW hfS).trans (fV_tW hp9.2.2.1))⟩ | exact ⟨_, rfl, hRS, tR_tW hfS⟩)
  · refine kw_iload_n hC dX8_parts_7 rfl 3 rfl ?_
    refine kw_callS hC (d_X8_isSlot hD (by omega)) gX8_parts_X8_isSlot rfl ⟨rfl, rfl⟩ 1 (by decide +kernel) ⟨by decide, by decide⟩ rfl rfl (Nat.le_of_ble_eq_true rfl) dX8_parts_8 rfl (kd_ie ?_)
    refine kw_ifeq_b (tgt := 28) hC dX8_parts_11 rfl (by decide) ⟨fun c11 => ?_, fun c11 => ?_⟩
    · refine kw_iconst hC dX8_parts_28 rfl ?_
      exact hR9.1 rfl _ _ _ _ dX8_parts_29 (by first | exact ⟨_, rfl, hp9.2.1, hbW.trans ((tR_tW hfS).trans (fV_tW hp9.2.2.1))⟩ | exact ⟨_, rfl, hRS, tR_tW hfS⟩)
    · refine kw_iload hC dX8_parts_14 rfl 4 rfl ?_
      refine kw_callS hC (d_X8_isSlot hD (by omega)) gX8_parts_X8_isSlot rfl ⟨rfl, rfl⟩ 1 (by decide +kernel) ⟨by decide, by decide⟩ rfl rfl (Nat.le_of_ble_eq_true rfl) dX8_parts_16 rfl (kd_ie ?_)
      refine kw_ifeq_b (tgt := 28) hC dX8_parts_19 rfl (by decide) ⟨fun c19 => ?_, fun c19 => ?_⟩
      · refine kw_iconst hC dX8_parts_28 rfl ?_
        exact hR9.1 rfl _ _ _ _ dX8_parts_29 (by first | exact ⟨_, rfl, hp9.2.1, hbW.trans ((tR_tW hfS).trans (fV_tW hp9.2.2.1))⟩ | exact ⟨_, rfl, hRS, tR_tW hfS⟩)
      · refine kw_iload_n hC dX8_parts_22 rfl 3 rfl ?_
        refine kw_iload hC dX8_parts_23 rfl 4 rfl ?_
        refine kw_icmp_ne (tgt := 30) hC dX8_parts_25 rfl (by decide) (by omega) (by omega) ⟨fun c25 => ?_, fun c25 => ?_⟩
        · refine kw_iload_n hC dX8_parts_30 rfl 2 rfl ?_
          refine kw_istore (lv' := [(5, _), (0, _), (1, _), (2, _), (3, _), (4, _)]) hC dX8_parts_31 rfl (by decide) rfl ?_
          refine kw_iload_n hC dX8_parts_33 rfl 3 rfl ?_
          refine kw_iconst hC dX8_parts_34 rfl ?_
          have hJ82 : ∀ (z : Int), Wk E g 10 S 82 [(0, vr g 30 0), (1, vi a), (2, vi b), (3, vi c), (4, vi d), (5, vi z)] [] := by
            intro z 
            refine kw_aload_n hC dX8_parts_82 rfl 0 rfl ?_
            refine kw_iload_n hC dX8_parts_83 rfl 1 rfl ?_
            refine kw_callV hC (d_X8_load hD (by omega) (by omega) hRS) gX8_parts_X8_load ⟨_, rfl⟩ rfl (by decide) (by decide) rfl ⟨rfl, rfl⟩ 1 (by decide +kernel) ⟨by decide, by decide⟩ rfl rfl (Nat.le_of_ble_eq_true rfl) dX8_parts_84 rfl (kd_v (fun S5 hp5 => ?_))
            obtain ⟨hg5, hp5⟩ := hp5
            have hfS5 : Fr tR S S5 := hfS.trans (hg5.mono (fun k i j h => by unfold fL at h; unfold tR; omega))
            have hRS5 := hRS.fr hfS5
            have hnS5 := hRS5.n
            have enS5 : S5 30 0 0 = S 30 0 0 := hfS5 30 0 0 (by unfold tR; omega)
            obtain ⟨q14, qW⟩ := hp5
            have hwv : WV (S5 53 0) (S5 30 0 14) (S5 30 0 0) := ldWV hRS (by omega) (by omega) q14 qW (by omega)
            have hl5 := hRS.ln a (by omega) (by omega)
            refine kw_aload_n hC dX8_parts_87 rfl 0 rfl ?_
            refine kw_callV hC (d_X8_shortOf hD hRS5 hwv (by omega) (by omega)) gX8_parts_X8_shortOf ⟨_, rfl⟩ rfl (by decide) (by decide) rfl ⟨rfl, rfl⟩ 0 (by decide +kernel) ⟨by decide, by decide⟩ rfl rfl (Nat.le_of_ble_eq_true rfl) dX8_parts_88 rfl (kd_i (fun r6 S6 hp6 => ?_))
            obtain ⟨hg6, hp6⟩ := hp6
            have hfS6 : Fr tR S S6 := hfS5.trans (hg6.mono (fun k i j h => by unfold fS at h; unfold tR; omega))
            have hRS6 := hRS.fr hfS6
            have hnS6 := hRS6.n
            have enS6 : S6 30 0 0 = S 30 0 0 := hfS6 30 0 0 (by unfold tR; omega)
            obtain ⟨hb6, ⟨r0, r1⟩, hrv, hgw⟩ := hp6
            replace hrv : WV (S6 47 0) (S6 30 0 8) (S6 30 0 0) := hrv.eq (fun _ _ _ => rfl) rfl (by omega)
            refine kw_if_ne (tgt := 97) hC dX8_parts_91 rfl (by decide) (by omega) ⟨fun c91 => ?_, fun c91 => ?_⟩
            · refine kw_aload_n hC dX8_parts_97 rfl 0 rfl ?_
              refine kw_iconst hC dX8_parts_98 rfl ?_
              refine kp_30_12 hC w8 f126 dX8_parts_99 rfl (by decide) (by decide) ?_
              refine kw_hv hfS6 (by unfold tR; omega) (fun S8 hfS8 hv8 ho8 => ?_)
              have hRS8 := hRS.fr hfS8
              have hnS8 := hRS8.n
              have enS8 : S8 30 0 0 = S 30 0 0 := hfS8 30 0 0 (by unfold tR; omega)
              have e8_8 : S8 30 0 8 = S6 30 0 8 := ho8 30 0 8 (by omega)
              replace hrv : WV (S8 47 0) (S8 30 0 8) (S8 30 0 0) := hrv.eq (fun j _ _ => ho8 47 0 j (by omega)) e8_8 (ho8 30 0 0 (by omega))
              have e168 : S8 30 0 16 = S6 30 0 16 := ho8 30 0 16 (by omega)
              have x12 := hv8
              refine kw_iconst hC dX8_parts_102 rfl ?_
              refine kw_istore (lv' := [(6, _), (0, _), (1, _), (2, _), (3, _), (4, _), (5, _)]) hC dX8_parts_103 rfl (by decide) rfl ?_
              have hL105 : ∀ (n105 : Nat) (s : Int) (W105 : wSt), Fr tR S W105 → (0 ≤ s) → (s ≤ W105 30 0 0) → (s ≤ 6) → (WV (W105 47 0) (W105 30 0 8) (W105 30 0 0)) → (0 ≤ W105 30 0 8) → (WV (W105 51 0) (W105 30 0 12) (W105 30 0 0)) → (0 ≤ W105 30 0 12) → (W105 30 0 12 + W105 30 0 8 ≤ 100) → (W105 30 0 16 = 0 ∨ W105 30 0 16 = 1) → 7 * W105 30 0 8 + 6 - s < (n105 : Int) → Wk E g 10 W105 105 [(0, vr g 30 0), (1, vi a), (2, vi b), (3, vi c), (4, vi d), (5, vi z), (6, vi s)] [] := by
                intro n105
                induction n105 with
                | zero => intro s W105 hfW105 s0 s1 s6 hrv r0 hvv v0 hs hgw hm105; exact absurd hm105 (by omega)
                | succ n105 ih105 =>
                  intro s W105 hfW105 s0 s1 s6 hrv r0 hvv v0 hs hgw hm105
                  have hRW105 := hRS.fr hfW105
                  have hnW105 := hRW105.n
                  have enW105 : W105 30 0 0 = S 30 0 0 := hfW105 30 0 0 (by unfold tR; omega)
                  refine kw_iload hC dX8_parts_105 rfl 6 rfl ?_
                  refine kw_aload_n hC dX8_parts_107 rfl 0 rfl ?_
                  refine kg_30_0 hC w8 f11 dX8_parts_108 rfl (by decide) (by decide) ?_
                  refine kw_icmp_ge (tgt := 191) hC dX8_parts_111 rfl (by decide) (by omega) (by omega) ⟨fun c111 => ?_, fun c111 => ?_⟩
                  · refine kw_iconst hC dX8_parts_191 rfl ?_
                    refine kw_istore (lv' := [(7, _), (0, _), (1, _), (2, _), (3, _), (4, _), (5, _), (6, _)]) hC dX8_parts_192 rfl (by decide) rfl ?_
                    have hL194 : ∀ (n194 : Nat) (x : Int) (W194 : wSt), Fr tR S W194 → (0 ≤ x) → (x ≤ W194 30 0 12) → (WV (W194 53 0) x (W194 30 0 0)) → (WV (W194 47 0) (W194 30 0 8) (W194 30 0 0)) → (0 ≤ W194 30 0 8) → (WV (W194 51 0) (W194 30 0 12) (W194 30 0 0)) → (0 ≤ W194 30 0 12) → (W194 30 0 12 + W194 30 0 8 ≤ 100) → W194 30 0 12 - x < (n194 : Int) → Wk E g 10 W194 194 [(0, vr g 30 0), (1, vi a), (2, vi b), (3, vi c), (4, vi d), (5, vi z), (6, vi s), (7, vi x)] [] := by
                      intro n194
                      induction n194 with
                      | zero => intro x W194 hfW194 x0 x1 hx hrv r0 hvv v0 hs hm194; exact absurd hm194 (by omega)
                      | succ n194 ih194 =>
                        intro x W194 hfW194 x0 x1 hx hrv r0 hvv v0 hs hm194
                        have hRW194 := hRS.fr hfW194
                        have hnW194 := hRW194.n
                        have enW194 : W194 30 0 0 = S 30 0 0 := hfW194 30 0 0 (by unfold tR; omega)
                        refine kw_iload hC dX8_parts_194 rfl 7 rfl ?_
                        refine kw_aload_n hC dX8_parts_196 rfl 0 rfl ?_
                        refine kg_30_12 hC w8 f126 dX8_parts_197 rfl (by decide) (by decide) ?_
                        refine kw_icmp_ge (tgt := 223) hC dX8_parts_200 rfl (by decide) (by omega) (by omega) ⟨fun c200 => ?_, fun c200 => ?_⟩
                        · refine kw_aload_n hC dX8_parts_223 rfl 0 rfl ?_
                          refine kw_aload_n hC dX8_parts_224 rfl 0 rfl ?_
                          refine kg_30_12 hC w8 f126 dX8_parts_225 rfl (by decide) (by decide) ?_
                          refine kp_30_14 hC w8 f57 dX8_parts_228 rfl (by decide) (by decide) ?_
                          refine kw_hv hfW194 (by unfold tR; omega) (fun S11 hfS11 hv11 ho11 => ?_)
                          have hRS11 := hRS.fr hfS11
                          have hnS11 := hRS11.n
                          have enS11 : S11 30 0 0 = S 30 0 0 := hfS11 30 0 0 (by unfold tR; omega)
                          have e12_11 : S11 30 0 12 = W194 30 0 12 := ho11 30 0 12 (by omega)
                          replace hvv : WV (S11 51 0) (S11 30 0 12) (S11 30 0 0) := hvv.eq (fun j _ _ => ho11 51 0 j (by omega)) e12_11 (ho11 30 0 0 (by omega))
                          have e8_11 : S11 30 0 8 = W194 30 0 8 := ho11 30 0 8 (by omega)
                          replace hrv : WV (S11 47 0) (S11 30 0 8) (S11 30 0 0) := hrv.eq (fun j _ _ => ho11 47 0 j (by omega)) e8_11 (ho11 30 0 0 (by omega))
                          have hwv : WV (S11 53 0) (S11 30 0 14) (S11 30 0 0) := hx.eq (fun j _ _ => ho11 53 0 j (by omega)) (by have := hv11; omega) (ho11 30 0 0 (by omega))
                          have x14 := hv11
                          refine kw_iconst hC dX8_parts_231 rfl ?_
                          refine kw_istore (lv' := [(7, _), (0, _), (1, _), (2, _), (3, _), (4, _), (5, _), (6, _)]) hC dX8_parts_232 rfl (by decide) rfl ?_
                          have hL234 : ∀ (n234 : Nat) (x : Int) (W234 : wSt), Fr tR S W234 → (0 ≤ x) → (x ≤ W234 30 0 8) → (WV (W234 51 0) x (W234 30 0 0)) → (W234 30 0 8 ≤ 100) → (WV (W234 47 0) (W234 30 0 8) (W234 30 0 0)) → (0 ≤ W234 30 0 8) → (WV (W234 53 0) (W234 30 0 14) (W234 30 0 0)) → (0 ≤ W234 30 0 14) → (W234 30 0 14 ≤ 100) → W234 30 0 8 - x < (n234 : Int) → Wk E g 10 W234 234 [(0, vr g 30 0), (1, vi a), (2, vi b), (3, vi c), (4, vi d), (5, vi z), (6, vi s), (7, vi x)] [] := by
                            intro n234
                            induction n234 with
                            | zero => intro x W234 hfW234 x0 x1 hx r2 hrv r0 hwv w0 w1 hm234; exact absurd hm234 (by omega)
                            | succ n234 ih234 =>
                              intro x W234 hfW234 x0 x1 hx r2 hrv r0 hwv w0 w1 hm234
                              have hRW234 := hRS.fr hfW234
                              have hnW234 := hRW234.n
                              have enW234 : W234 30 0 0 = S 30 0 0 := hfW234 30 0 0 (by unfold tR; omega)
                              refine kw_iload hC dX8_parts_234 rfl 7 rfl ?_
                              refine kw_aload_n hC dX8_parts_236 rfl 0 rfl ?_
                              refine kg_30_8 hC w8 f92 dX8_parts_237 rfl (by decide) (by decide) ?_
                              refine kw_icmp_ge (tgt := 263) hC dX8_parts_240 rfl (by decide) (by omega) (by omega) ⟨fun c240 => ?_, fun c240 => ?_⟩
                              · refine kw_aload_n hC dX8_parts_263 rfl 0 rfl ?_
                                refine kw_aload_n hC dX8_parts_264 rfl 0 rfl ?_
                                refine kg_30_8 hC w8 f92 dX8_parts_265 rfl (by decide) (by decide) ?_
                                refine kp_30_12 hC w8 f126 dX8_parts_268 rfl (by decide) (by decide) ?_
                                refine kw_hv hfW234 (by unfold tR; omega) (fun S13 hfS13 hv13 ho13 => ?_)
                                have hRS13 := hRS.fr hfS13
                                have hnS13 := hRS13.n
                                have enS13 : S13 30 0 0 = S 30 0 0 := hfS13 30 0 0 (by unfold tR; omega)
                                have e14_13 : S13 30 0 14 = W234 30 0 14 := ho13 30 0 14 (by omega)
                                replace hwv : WV (S13 53 0) (S13 30 0 14) (S13 30 0 0) := hwv.eq (fun j _ _ => ho13 53 0 j (by omega)) e14_13 (ho13 30 0 0 (by omega))
                                have e8_13 : S13 30 0 8 = W234 30 0 8 := ho13 30 0 8 (by omega)
                                replace hrv : WV (S13 47 0) (S13 30 0 8) (S13 30 0 0) := hrv.eq (fun j _ _ => ho13 47 0 j (by omega)) e8_13 (ho13 30 0 0 (by omega))
                                have hvv : WV (S13 51 0) (S13 30 0 12) (S13 30 0 0) := hx.eq (fun j _ _ => ho13 51 0 j (by omega)) (by have := hv13; omega) (ho13 30 0 0 (by omega))
                                have x12 := hv13
                                refine kw_aload_n hC dX8_parts_271 rfl 0 rfl ?_
                                refine kw_callV hC (d_X8_formOfW hD hRS13 hwv (by omega) (by omega)) gX8_parts_X8_formOfW ⟨_, rfl⟩ rfl (by decide) (by decide) rfl ⟨rfl, rfl⟩ 0 (by decide +kernel) ⟨by decide, by decide⟩ rfl rfl (Nat.le_of_ble_eq_true rfl) dX8_parts_272 rfl (kd_i (fun r14 S14 hp14 => ?_))
                                obtain ⟨hg14, hp14⟩ := hp14
                                have hfS14 : Fr tR S S14 := hfS13.trans (hg14.mono (fun k i j h => by unfold fW at h; unfold tR; omega))
                                have hRS14 := hRS.fr hfS14
                                have hnS14 := hRS14.n
                                have enS14 : S14 30 0 0 = S 30 0 0 := hfS14 30 0 0 (by unfold tR; omega)
                                obtain ⟨hb14, ⟨w0, w1⟩, hwv, hgw⟩ := hp14
                                replace hwv : WV (S14 53 0) (S14 30 0 14) (S14 30 0 0) := hwv.eq (fun _ _ _ => rfl) rfl (by omega)
                                have e12_14 : S14 30 0 12 = S13 30 0 12 := hg14 30 0 12 (by unfold fW; omega)
                                replace hvv : WV (S14 51 0) (S14 30 0 12) (S14 30 0 0) := hvv.eq (fun j _ _ => hg14 51 0 j (by unfold fW; omega)) e12_14 (hg14 30 0 0 (by unfold fW; omega))
                                refine kw_if_ne (tgt := 281) hC dX8_parts_275 rfl (by decide) (by omega) ⟨fun c275 => ?_, fun c275 => ?_⟩
                                · refine kw_aload_n hC dX8_parts_281 rfl 0 rfl ?_
                                  refine kg_30_14 hC w8 f57 dX8_parts_282 rfl (by decide) (by decide) ?_
                                  obtain ⟨LEN, hLEN⟩ : ∃ z, z = S14 30 0 14 := ⟨_, rfl⟩
                                  rw [← hLEN]
                                  refine kw_istore (lv' := [(7, _), (0, _), (1, _), (2, _), (3, _), (4, _), (5, _), (6, _)]) hC dX8_parts_285 rfl (by decide) rfl ?_
                                  refine kw_iconst hC dX8_parts_287 rfl ?_
                                  refine kw_istore (lv' := [(8, _), (7, _), (0, _), (1, _), (2, _), (3, _), (4, _), (5, _), (6, _)]) hC dX8_parts_288 rfl (by decide) rfl ?_
                                  have hL290 : ∀ (n290 : Nat) (x : Int) (W290 : wSt), Fr tR S W290 → (0 ≤ x) → (x ≤ W290 30 0 14) → (WV (W290 68 0) x (W290 30 0 0)) → (LEN = W290 30 0 14) → (W290 30 0 12 ≤ 100) → (WV (W290 51 0) (W290 30 0 12) (W290 30 0 0)) → (0 ≤ W290 30 0 12) → (WV (W290 53 0) (W290 30 0 14) (W290 30 0 0)) → (0 ≤ W290 30 0 14) → (W290 30 0 14 ≤ 100) → W290 30 0 14 - x < (n290 : Int) → Wk E g 10 W290 290 [(0, vr g 30 0), (1, vi a), (2, vi b), (3, vi c), (4, vi d), (5, vi z), (6, vi s), (7, vi LEN), (8, vi x)] [] := by
                                    intro n290
                                    induction n290 with
                                    | zero => intro x W290 hfW290 x0 x1 hx hLEN v2 hvv v0 hwv w0 w1 hm290; exact absurd hm290 (by omega)
                                    | succ n290 ih290 =>
                                      intro x W290 hfW290 x0 x1 hx hLEN v2 hvv v0 hwv w0 w1 hm290
                                      have hRW290 := hRS.fr hfW290
                                      have hnW290 := hRW290.n
                                      have enW290 : W290 30 0 0 = S 30 0 0 := hfW290 30 0 0 (by unfold tR; omega)
                                      refine kw_iload hC dX8_parts_290 rfl 8 rfl ?_
                                      refine kw_aload_n hC dX8_parts_292 rfl 0 rfl ?_
                                      refine kg_30_14 hC w8 f57 dX8_parts_293 rfl (by decide) (by decide) ?_
                                      refine kw_icmp_ge (tgt := 319) hC dX8_parts_296 rfl (by decide) (by omega) (by omega) ⟨fun c296 => ?_, fun c296 => ?_⟩
                                      · refine kw_aload_n hC dX8_parts_319 rfl 0 rfl ?_
                                        refine kw_aload_n hC dX8_parts_320 rfl 0 rfl ?_
                                        refine kg_30_12 hC w8 f126 dX8_parts_321 rfl (by decide) (by decide) ?_
                                        have hpt : WV (W290 68 0) LEN (W290 30 0 0) := hx.eq (fun _ _ _ => rfl) (by omega) rfl
                                        refine kp_30_14 hC w8 f57 dX8_parts_324 rfl (by decide) (by decide) ?_
                                        refine kw_hv hfW290 (by unfold tR; omega) (fun S17 hfS17 hv17 ho17 => ?_)
                                        have hRS17 := hRS.fr hfS17
                                        have hnS17 := hRS17.n
                                        have enS17 : S17 30 0 0 = S 30 0 0 := hfS17 30 0 0 (by unfold tR; omega)
                                        have e12_17 : S17 30 0 12 = W290 30 0 12 := ho17 30 0 12 (by omega)
                                        replace hvv : WV (S17 51 0) (S17 30 0 12) (S17 30 0 0) := hvv.eq (fun j _ _ => ho17 51 0 j (by omega)) e12_17 (ho17 30 0 0 (by omega))
                                        replace hpt : WV (S17 68 0) LEN (S17 30 0 0) := hpt.eq (fun j _ _ => ho17 68 0 j (by omega)) rfl (ho17 30 0 0 (by omega))
                                        have x14 := hv17
                                        refine kw_iconst hC dX8_parts_327 rfl ?_
                                        refine kw_istore (lv' := [(8, _), (0, _), (1, _), (2, _), (3, _), (4, _), (5, _), (6, _), (7, _)]) hC dX8_parts_328 rfl (by decide) rfl ?_
                                        have hL330 : ∀ (n330 : Nat) (x : Int) (W330 : wSt), Fr tR S W330 → (0 ≤ x) → (x ≤ W330 30 0 12) → (WV (W330 53 0) x (W330 30 0 0)) → (WV (W330 68 0) LEN (W330 30 0 0)) → (W330 30 0 14 = W330 30 0 12) → (W330 30 0 12 ≤ 100) → (WV (W330 51 0) (W330 30 0 12) (W330 30 0 0)) → (0 ≤ W330 30 0 12) → W330 30 0 12 - x < (n330 : Int) → Wk E g 10 W330 330 [(0, vr g 30 0), (1, vi a), (2, vi b), (3, vi c), (4, vi d), (5, vi z), (6, vi s), (7, vi LEN), (8, vi x)] [] := by
                                          intro n330
                                          induction n330 with
                                          | zero => intro x W330 hfW330 x0 x1 hx hpt q14 v2 hvv v0 hm330; exact absurd hm330 (by omega)
                                          | succ n330 ih330 =>
                                            intro x W330 hfW330 x0 x1 hx hpt q14 v2 hvv v0 hm330
                                            have hRW330 := hRS.fr hfW330
                                            have hnW330 := hRW330.n
                                            have enW330 : W330 30 0 0 = S 30 0 0 := hfW330 30 0 0 (by unfold tR; omega)
                                            refine kw_iload hC dX8_parts_330 rfl 8 rfl ?_
                                            refine kw_aload_n hC dX8_parts_332 rfl 0 rfl ?_
                                            refine kg_30_12 hC w8 f126 dX8_parts_333 rfl (by decide) (by decide) ?_
                                            refine kw_icmp_ge (tgt := 359) hC dX8_parts_336 rfl (by decide) (by omega) (by omega) ⟨fun c336 => ?_, fun c336 => ?_⟩
                                            · have hwv : WV (W330 53 0) (W330 30 0 14) (W330 30 0 0) := hx.eq (fun _ _ _ => rfl) (by omega) rfl
                                              refine kw_aload_n hC dX8_parts_359 rfl 0 rfl ?_
                                              refine kw_callV hC (d_X8_formOfW hD hRW330 hwv (by omega) (by omega)) gX8_parts_X8_formOfW ⟨_, rfl⟩ rfl (by decide) (by decide) rfl ⟨rfl, rfl⟩ 0 (by decide +kernel) ⟨by decide, by decide⟩ rfl rfl (Nat.le_of_ble_eq_true rfl) dX8_parts_360 rfl (kd_i (fun r19 S19 hp19 => ?_))
                                              obtain ⟨hg19, hp19⟩ := hp19
                                              have hfS19 : Fr tR S S19 := hfW330.trans (hg19.mono (fun k i j h => by unfold fW at h; unfold tR; omega))
                                              have hRS19 := hRS.fr hfS19
                                              have hnS19 := hRS19.n
                                              have enS19 : S19 30 0 0 = S 30 0 0 := hfS19 30 0 0 (by unfold tR; omega)
                                              obtain ⟨hb19, ⟨w0, w1⟩, hwv, hgw⟩ := hp19
                                              replace hwv : WV (S19 53 0) (S19 30 0 14) (S19 30 0 0) := hwv.eq (fun _ _ _ => rfl) rfl (by omega)
                                              replace hpt : WV (S19 68 0) LEN (S19 30 0 0) := hpt.eq (fun j _ _ => hg19 68 0 j (by unfold fW; omega)) rfl (hg19 30 0 0 (by unfold fW; omega))
                                              refine kw_if_ne (tgt := 369) hC dX8_parts_363 rfl (by decide) (by omega) ⟨fun c363 => ?_, fun c363 => ?_⟩
                                              · refine kw_aload_n hC dX8_parts_369 rfl 0 rfl ?_
                                                refine kw_iload hC dX8_parts_370 rfl 4 rfl ?_
                                                refine kw_callV hC (d_X8_store hD (by omega) (by omega) hRS19 hwv (by omega) (by omega)) gX8_parts_X8_store ⟨_, rfl⟩ rfl (by decide) (by decide) rfl ⟨rfl, rfl⟩ 1 (by decide +kernel) ⟨by decide, by decide⟩ rfl rfl (Nat.le_of_ble_eq_true rfl) dX8_parts_372 rfl (kd_i (fun r21 S21 hp21 => ?_))
                                                obtain ⟨-, hRS21, hgV, -⟩ := hp21
                                                have hbW : Fr tW S S21 := (tR_tW hfS19).trans (fV_tW hgV)
                                                have hfS21 : Fr tR S21 S21 := Fr.rfl _ _
                                                have hnS21 := hRS21.n
                                                have eb0 : S21 30 0 0 = S19 30 0 0 := hgV 30 0 0 (by unfold fV; omega)
                                                replace hpt : WV (S21 68 0) LEN (S21 30 0 0) := hpt.eq (fun j _ _ => hgV 68 0 j (by unfold fV; omega)) rfl eb0
                                                refine kw_istore (lv' := [(8, _), (0, _), (1, _), (2, _), (3, _), (4, _), (5, _), (6, _), (7, _)]) hC dX8_parts_375 rfl (by decide) rfl ?_
                                                refine kw_aload_n hC dX8_parts_377 rfl 1 rfl ?_
                                                refine kw_iload hC dX8_parts_378 rfl 8 rfl ?_
                                                refine kp_30_14 hC w8 f57 dX8_parts_380 rfl (by decide) (by decide) ?_
                                                refine kw_hv hfS21 (by unfold tR; omega) (fun S22 hfS22 hv22 ho22 => ?_)
                                                have hRS22 := hRS21.fr hfS22
                                                have hnS22 := hRS22.n
                                                have enS22 : S22 30 0 0 = S21 30 0 0 := hfS22 30 0 0 (by unfold tR; omega)
                                                replace hpt : WV (S22 68 0) LEN (S22 30 0 0) := hpt.eq (fun j _ _ => ho22 68 0 j (by omega)) rfl (ho22 30 0 0 (by omega))
                                                have x14 := hv22
                                                refine kw_iconst hC dX8_parts_383 rfl ?_
                                                refine kw_istore (lv' := [(9, _), (8, _), (0, _), (1, _), (2, _), (3, _), (4, _), (5, _), (6, _), (7, _)]) hC dX8_parts_384 rfl (by decide) rfl ?_
                                                have hL386 : ∀ (n386 : Nat) (x : Int) (W386 : wSt), Fr tR S21 W386 → (0 ≤ x) → (x ≤ LEN) → (WV (W386 53 0) x (W386 30 0 0)) → (WV (W386 68 0) LEN (W386 30 0 0)) → (W386 30 0 14 = LEN) → LEN - x < (n386 : Int) → Wk E g 10 W386 386 [(0, vr g 30 0), (3, vi c), (7, vi LEN), (9, vi x)] [] := by
                                                  intro n386
                                                  induction n386 with
                                                  | zero => intro x W386 hfW386 x0 x1 hx hpt q14 hm386; exact absurd hm386 (by omega)
                                                  | succ n386 ih386 =>
                                                    intro x W386 hfW386 x0 x1 hx hpt q14 hm386
                                                    have hRW386 := hRS21.fr hfW386
                                                    have hnW386 := hRW386.n
                                                    have enW386 : W386 30 0 0 = S21 30 0 0 := hfW386 30 0 0 (by unfold tR; omega)
                                                    refine kw_iload hC dX8_parts_386 rfl 3 rfl ?_
                                                    refine kw_iload hC dX8_parts_388 rfl 2 rfl ?_
                                                    refine kw_icmp_ge (tgt := 413) hC dX8_parts_390 rfl (by decide) (by omega) (by omega) ⟨fun c390 => ?_, fun c390 => ?_⟩
                                                    · have hwv : WV (W386 53 0) (W386 30 0 14) (W386 30 0 0) := hx.eq (fun _ _ _ => rfl) (by omega) rfl
                                                      refine kw_aload_n hC dX8_parts_413 rfl 0 rfl ?_
                                                      refine kw_iload_n hC dX8_parts_414 rfl 1 rfl ?_
                                                      refine kw_callV hC (d_X8_store hD (by omega) (by omega) hRW386 hwv (by omega) (by omega)) gX8_parts_X8_store ⟨_, rfl⟩ rfl (by decide) (by decide) rfl ⟨rfl, rfl⟩ 1 (by decide +kernel) ⟨by decide, by decide⟩ rfl rfl (Nat.le_of_ble_eq_true rfl) dX8_parts_415 rfl (kd_i (fun r9 Sz hp9 => ?_))
                                                      exact hR9.1 rfl _ _ _ _ dX8_parts_418 (by first | exact ⟨_, rfl, hp9.2.1, hbW.trans ((tR_tW hfW386).trans (fV_tW hp9.2.2.1))⟩ | exact ⟨_, rfl, hRW386, tR_tW hfW386⟩)
                                                    · refine kw_aload_n hC dX8_parts_393 rfl 0 rfl ?_
                                                      refine kg_30_13 hC w8 f60 dX8_parts_394 rfl (by decide) (by decide) ?_
                                                      refine kw_iload hC dX8_parts_397 rfl 3 rfl ?_
                                                      refine kw_aload_n hC dX8_parts_399 rfl 0 rfl ?_
                                                      refine kg_30_28 hC w8 f223 dX8_parts_400 rfl (by decide) (by decide) ?_
                                                      refine kw_iload hC dX8_parts_403 rfl 3 rfl ?_
                                                      refine ka_68 hC dX8_parts_405 rfl (by decide) (by decide) (by omega) (by omega) ?_
                                                      have hvx := hpt x (by omega) (by omega)
                                                      refine ks_53 hC dX8_parts_406 rfl (by decide) (by decide) (by omega) (by omega) ?_
                                                      refine kw_hv hfW386 (by unfold tR; omega) (fun S24 hfS24 hv24 ho24 => ?_)
                                                      have hRS24 := hRS21.fr hfS24
                                                      have hnS24 := hRS24.n
                                                      have enS24 : S24 30 0 0 = S21 30 0 0 := hfS24 30 0 0 (by unfold tR; omega)
                                                      replace hpt : WV (S24 68 0) LEN (S24 30 0 0) := hpt.eq (fun j _ _ => ho24 68 0 j (by omega)) rfl (ho24 30 0 0 (by omega))
                                                      have hx9 : WV (S24 53 0) (x + 1) (S24 30 0 0) := (hx.add (fun j hj => ho24 53 0 j (by omega)) (by rw [hv24]; exact hvx)).eq (fun _ _ _ => rfl) rfl (ho24 30 0 0 (by omega))
                                                      have x14 := ho24 30 0 14 (by omega)
                                                      refine kw_iinc (lv' := [(9, _), (0, _), (3, _), (7, _)]) hC dX8_parts_407 rfl 3 rfl (by decide) rfl ?_
                                                      refine kw_goto (tgt := 386) hC dX8_parts_410 rfl (by decide) ?_
                                                      refine kw_lv [1, 2, 3, 0] rfl ?_
                                                      exact ih386 (x + 1) S24 hfS24 (by omega) (by omega) hx9 hpt (by omega) (by omega)
                                                refine kw_lv [2, 5, 9, 0] rfl ?_
                                                exact hL386 101 0 S22 hfS22 (by omega) (by omega) (fun j _ _ => by omega) hpt (by omega) (by omega)
                                              · refine kw_bipush hC dX8_parts_366 rfl (by decide) ?_
                                                exact hR9.1 rfl _ _ _ _ dX8_parts_368 (by first | exact ⟨_, rfl, hp9.2.1, hbW.trans ((tR_tW hfS19).trans (fV_tW hp9.2.2.1))⟩ | exact ⟨_, rfl, hRS19, tR_tW hfS19⟩)
                                            · refine kw_aload_n hC dX8_parts_339 rfl 0 rfl ?_
                                              refine kg_30_13 hC w8 f60 dX8_parts_340 rfl (by decide) (by decide) ?_
                                              refine kw_iload hC dX8_parts_343 rfl 8 rfl ?_
                                              refine kw_aload_n hC dX8_parts_345 rfl 0 rfl ?_
                                              refine kg_30_11 hC w8 f129 dX8_parts_346 rfl (by decide) (by decide) ?_
                                              refine kw_iload hC dX8_parts_349 rfl 8 rfl ?_
                                              refine ka_51 hC dX8_parts_351 rfl (by decide) (by decide) (by omega) (by omega) ?_
                                              have hvx := hvv x (by omega) (by omega)
                                              refine ks_53 hC dX8_parts_352 rfl (by decide) (by decide) (by omega) (by omega) ?_
                                              refine kw_hv hfW330 (by unfold tR; omega) (fun S25 hfS25 hv25 ho25 => ?_)
                                              have hRS25 := hRS.fr hfS25
                                              have hnS25 := hRS25.n
                                              have enS25 : S25 30 0 0 = S 30 0 0 := hfS25 30 0 0 (by unfold tR; omega)
                                              have e12_25 : S25 30 0 12 = W330 30 0 12 := ho25 30 0 12 (by omega)
                                              replace hvv : WV (S25 51 0) (S25 30 0 12) (S25 30 0 0) := hvv.eq (fun j _ _ => ho25 51 0 j (by omega)) e12_25 (ho25 30 0 0 (by omega))
                                              have e14_25 : S25 30 0 14 = W330 30 0 14 := ho25 30 0 14 (by omega)
                                              replace hpt : WV (S25 68 0) LEN (S25 30 0 0) := hpt.eq (fun j _ _ => ho25 68 0 j (by omega)) rfl (ho25 30 0 0 (by omega))
                                              have hx9 : WV (S25 53 0) (x + 1) (S25 30 0 0) := (hx.add (fun j hj => ho25 53 0 j (by omega)) (by rw [hv25]; exact hvx)).eq (fun _ _ _ => rfl) rfl (ho25 30 0 0 (by omega))
                                              refine kw_iinc (lv' := [(8, _), (0, _), (1, _), (2, _), (3, _), (4, _), (5, _), (6, _), (7, _)]) hC dX8_parts_353 rfl 8 rfl (by decide) rfl ?_
                                              refine kw_goto (tgt := 330) hC dX8_parts_356 rfl (by decide) ?_
                                              refine kw_lv [1, 2, 3, 4, 5, 6, 7, 8, 0] rfl ?_
                                              exact ih330 (x + 1) S25 hfS25 (by omega) (by omega) hx9 hpt (by omega) (by omega) hvv (by omega) (by omega)
                                        refine kw_lv [1, 2, 3, 4, 5, 6, 7, 8, 0] rfl ?_
                                        exact hL330 101 0 S17 hfS17 (by omega) (by omega) (fun j _ _ => by omega) hpt (by omega) (by omega) hvv (by omega) (by omega)
                                      · refine kw_aload_n hC dX8_parts_299 rfl 0 rfl ?_
                                        refine kg_30_28 hC w8 f223 dX8_parts_300 rfl (by decide) (by decide) ?_
                                        refine kw_iload hC dX8_parts_303 rfl 8 rfl ?_
                                        refine kw_aload_n hC dX8_parts_305 rfl 0 rfl ?_
                                        refine kg_30_13 hC w8 f60 dX8_parts_306 rfl (by decide) (by decide) ?_
                                        refine kw_iload hC dX8_parts_309 rfl 8 rfl ?_
                                        refine ka_53 hC dX8_parts_311 rfl (by decide) (by decide) (by omega) (by omega) ?_
                                        have hvx := hwv x (by omega) (by omega)
                                        refine ks_68 hC dX8_parts_312 rfl (by decide) (by decide) (by omega) (by omega) ?_
                                        refine kw_hv hfW290 (by unfold tR; omega) (fun S26 hfS26 hv26 ho26 => ?_)
                                        have hRS26 := hRS.fr hfS26
                                        have hnS26 := hRS26.n
                                        have enS26 : S26 30 0 0 = S 30 0 0 := hfS26 30 0 0 (by unfold tR; omega)
                                        have e14_26 : S26 30 0 14 = W290 30 0 14 := ho26 30 0 14 (by omega)
                                        replace hwv : WV (S26 53 0) (S26 30 0 14) (S26 30 0 0) := hwv.eq (fun j _ _ => ho26 53 0 j (by omega)) e14_26 (ho26 30 0 0 (by omega))
                                        have e12_26 : S26 30 0 12 = W290 30 0 12 := ho26 30 0 12 (by omega)
                                        replace hvv : WV (S26 51 0) (S26 30 0 12) (S26 30 0 0) := hvv.eq (fun j _ _ => ho26 51 0 j (by omega)) e12_26 (ho26 30 0 0 (by omega))
                                        have hx9 : WV (S26 68 0) (x + 1) (S26 30 0 0) := (hx.add (fun j hj => ho26 68 0 j (by omega)) (by rw [hv26]; exact hvx)).eq (fun _ _ _ => rfl) rfl (ho26 30 0 0 (by omega))
                                        refine kw_iinc (lv' := [(8, _), (0, _), (1, _), (2, _), (3, _), (4, _), (5, _), (6, _), (7, _)]) hC dX8_parts_313 rfl 8 rfl (by decide) rfl ?_
                                        refine kw_goto (tgt := 290) hC dX8_parts_316 rfl (by decide) ?_
                                        refine kw_lv [1, 2, 3, 4, 5, 6, 7, 8, 0] rfl ?_
                                        exact ih290 (x + 1) S26 hfS26 (by omega) (by omega) hx9 (by omega) (by omega) hvv (by omega) hwv (by omega) (by omega) (by omega)
                                  refine kw_lv [2, 3, 4, 5, 6, 7, 8, 1, 0] rfl ?_
                                  exact hL290 101 0 S14 hfS14 (by omega) (by omega) (fun j _ _ => by omega) (by omega) (by omega) hvv (by omega) hwv (by omega) (by omega) (by omega)
                                · refine kw_bipush hC dX8_parts_278 rfl (by decide) ?_
                                  exact hR9.1 rfl _ _ _ _ dX8_parts_280 (by first | exact ⟨_, rfl, hp9.2.1, hbW.trans ((tR_tW hfS14).trans (fV_tW hp9.2.2.1))⟩ | exact ⟨_, rfl, hRS14, tR_tW hfS14⟩)
                              · refine kw_aload_n hC dX8_parts_243 rfl 0 rfl ?_
                                refine kg_30_11 hC w8 f129 dX8_parts_244 rfl (by decide) (by decide) ?_
                                refine kw_iload hC dX8_parts_247 rfl 7 rfl ?_
                                refine kw_aload_n hC dX8_parts_249 rfl 0 rfl ?_
                                refine kg_30_7 hC w8 f95 dX8_parts_250 rfl (by decide) (by decide) ?_
                                refine kw_iload hC dX8_parts_253 rfl 7 rfl ?_
                                refine ka_47 hC dX8_parts_255 rfl (by decide) (by decide) (by omega) (by omega) ?_
                                have hvx := hrv x (by omega) (by omega)
                                refine ks_51 hC dX8_parts_256 rfl (by decide) (by decide) (by omega) (by omega) ?_
                                refine kw_hv hfW234 (by unfold tR; omega) (fun S27 hfS27 hv27 ho27 => ?_)
                                have hRS27 := hRS.fr hfS27
                                have hnS27 := hRS27.n
                                have enS27 : S27 30 0 0 = S 30 0 0 := hfS27 30 0 0 (by unfold tR; omega)
                                have e14_27 : S27 30 0 14 = W234 30 0 14 := ho27 30 0 14 (by omega)
                                replace hwv : WV (S27 53 0) (S27 30 0 14) (S27 30 0 0) := hwv.eq (fun j _ _ => ho27 53 0 j (by omega)) e14_27 (ho27 30 0 0 (by omega))
                                have e8_27 : S27 30 0 8 = W234 30 0 8 := ho27 30 0 8 (by omega)
                                replace hrv : WV (S27 47 0) (S27 30 0 8) (S27 30 0 0) := hrv.eq (fun j _ _ => ho27 47 0 j (by omega)) e8_27 (ho27 30 0 0 (by omega))
                                have hx9 : WV (S27 51 0) (x + 1) (S27 30 0 0) := (hx.add (fun j hj => ho27 51 0 j (by omega)) (by rw [hv27]; exact hvx)).eq (fun _ _ _ => rfl) rfl (ho27 30 0 0 (by omega))
                                refine kw_iinc (lv' := [(7, _), (0, _), (1, _), (2, _), (3, _), (4, _), (5, _), (6, _)]) hC dX8_parts_257 rfl 7 rfl (by decide) rfl ?_
                                refine kw_goto (tgt := 234) hC dX8_parts_260 rfl (by decide) ?_
                                refine kw_lv [1, 2, 3, 4, 5, 6, 7, 0] rfl ?_
                                exact ih234 (x + 1) S27 hfS27 (by omega) (by omega) hx9 (by omega) hrv (by omega) hwv (by omega) (by omega) (by omega)
                          refine kw_lv [1, 2, 3, 4, 5, 6, 7, 0] rfl ?_
                          exact hL234 101 0 S11 hfS11 (by omega) (by omega) (fun j _ _ => by omega) (by omega) hrv (by omega) hwv (by omega) (by omega) (by omega)
                        · refine kw_aload_n hC dX8_parts_203 rfl 0 rfl ?_
                          refine kg_30_13 hC w8 f60 dX8_parts_204 rfl (by decide) (by decide) ?_
                          refine kw_iload hC dX8_parts_207 rfl 7 rfl ?_
                          refine kw_aload_n hC dX8_parts_209 rfl 0 rfl ?_
                          refine kg_30_11 hC w8 f129 dX8_parts_210 rfl (by decide) (by decide) ?_
                          refine kw_iload hC dX8_parts_213 rfl 7 rfl ?_
                          refine ka_51 hC dX8_parts_215 rfl (by decide) (by decide) (by omega) (by omega) ?_
                          have hvx := hvv x (by omega) (by omega)
                          refine ks_53 hC dX8_parts_216 rfl (by decide) (by decide) (by omega) (by omega) ?_
                          refine kw_hv hfW194 (by unfold tR; omega) (fun S28 hfS28 hv28 ho28 => ?_)
                          have hRS28 := hRS.fr hfS28
                          have hnS28 := hRS28.n
                          have enS28 : S28 30 0 0 = S 30 0 0 := hfS28 30 0 0 (by unfold tR; omega)
                          have e12_28 : S28 30 0 12 = W194 30 0 12 := ho28 30 0 12 (by omega)
                          replace hvv : WV (S28 51 0) (S28 30 0 12) (S28 30 0 0) := hvv.eq (fun j _ _ => ho28 51 0 j (by omega)) e12_28 (ho28 30 0 0 (by omega))
                          have e8_28 : S28 30 0 8 = W194 30 0 8 := ho28 30 0 8 (by omega)
                          replace hrv : WV (S28 47 0) (S28 30 0 8) (S28 30 0 0) := hrv.eq (fun j _ _ => ho28 47 0 j (by omega)) e8_28 (ho28 30 0 0 (by omega))
                          have hx9 : WV (S28 53 0) (x + 1) (S28 30 0 0) := (hx.add (fun j hj => ho28 53 0 j (by omega)) (by rw [hv28]; exact hvx)).eq (fun _ _ _ => rfl) rfl (ho28 30 0 0 (by omega))
                          refine kw_iinc (lv' := [(7, _), (0, _), (1, _), (2, _), (3, _), (4, _), (5, _), (6, _)]) hC dX8_parts_217 rfl 7 rfl (by decide) rfl ?_
                          refine kw_goto (tgt := 194) hC dX8_parts_220 rfl (by decide) ?_
                          refine kw_lv [1, 2, 3, 4, 5, 6, 7, 0] rfl ?_
                          exact ih194 (x + 1) S28 hfS28 (by omega) (by omega) hx9 hrv (by omega) hvv (by omega) (by omega) (by omega)
                    refine kw_lv [1, 2, 3, 4, 5, 6, 7, 0] rfl ?_
                    exact hL194 101 0 W105 hfW105 (by omega) (by omega) (fun j _ _ => by omega) hrv (by omega) hvv (by omega) (by omega) (by omega)
                  · refine kw_iload hC dX8_parts_114 rfl 5 rfl ?_
                    refine kw_iload hC dX8_parts_116 rfl 6 rfl ?_
                    refine kw_ishrX hC dX8_parts_118 rfl ?_
                    refine kw_iconst hC dX8_parts_119 rfl ?_
                    refine kw_iandX hC dX8_parts_120 rfl ?_
                    refine kw_iconst hC dX8_parts_121 rfl ?_
                    refine kw_icmp_ne (tgt := 134) hC dX8_parts_122 rfl (by decide) (xi_r _) (by omega) ⟨fun c122 => ?_, fun c122 => ?_⟩
                    · refine kw_iconst hC dX8_parts_134 rfl ?_
                      refine kw_istore (lv' := [(7, _), (0, _), (1, _), (2, _), (3, _), (4, _), (5, _), (6, _)]) hC dX8_parts_135 rfl (by decide) rfl ?_
                      refine kw_aload_n hC dX8_parts_137 rfl 1 rfl ?_
                      refine kg_30_16 hC w8 f81 dX8_parts_138 rfl (by decide) (by decide) ?_
                      refine kw_if_eq (tgt := 147) hC dX8_parts_141 rfl (by decide) (by omega) ⟨fun c141 => ?_, fun c141 => ?_⟩
                      · refine kw_iload hC dX8_parts_147 rfl 0 rfl ?_
                        refine kw_if_lt (tgt := 185) hC dX8_parts_149 rfl (by decide) (by omega) ⟨fun c149 => ?_, fun c149 => ?_⟩
                        · refine kw_iinc (lv' := [(6, _), (7, _), (0, _), (1, _), (2, _), (3, _), (4, _), (5, _)]) hC dX8_parts_185 rfl 7 rfl (by decide) rfl ?_
                          refine kw_goto (tgt := 105) hC dX8_parts_188 rfl (by decide) ?_
                          refine kw_lv [2, 3, 4, 5, 6, 7, 0] rfl ?_
                          exact ih105 _ W105 hfW105 (by omega) (by omega) (by omega) hrv (by omega) hvv (by omega) (by omega) (by omega) (by omega)
                        · refine kw_aload_n hC dX8_parts_152 rfl 1 rfl ?_
                          refine kw_iload hC dX8_parts_153 rfl 0 rfl ?_
                          refine kw_callV hC (d_X8_goesFromR hD (by omega) (by omega) (by omega)) gX8_parts_X8_goesFromR ⟨_, rfl⟩ rfl (by decide) (by decide) rfl ⟨rfl, rfl⟩ 1 (by decide +kernel) ⟨by decide, by decide⟩ rfl rfl (Nat.le_of_ble_eq_true rfl) dX8_parts_155 rfl (kd_v (fun S32 hp32 => ?_))
                          obtain ⟨hg32, hp32⟩ := hp32
                          have hfS32 : Fr tR S S32 := hfW105.trans (hg32.mono (fun k i j h => by unfold fG at h; unfold tR; omega))
                          have hRS32 := hRS.fr hfS32
                          have hnS32 := hRS32.n
                          have enS32 : S32 30 0 0 = S 30 0 0 := hfS32 30 0 0 (by unfold tR; omega)
                          obtain ⟨q8, qr1, qr2⟩ := hp32
                          replace hrv : WV (S32 47 0) (S32 30 0 8) (S32 30 0 0) := (q8 ▸ WV.del hrv qr1 qr2 (by omega)).eq (fun _ _ _ => rfl) rfl (hg32 30 0 0 (by unfold fG; omega))
                          have e12_32 : S32 30 0 12 = W105 30 0 12 := hg32 30 0 12 (by unfold fG; omega)
                          replace hvv : WV (S32 51 0) (S32 30 0 12) (S32 30 0 0) := hvv.eq (fun j _ _ => hg32 51 0 j (by unfold fG; omega)) e12_32 (hg32 30 0 0 (by unfold fG; omega))
                          have e1632 : S32 30 0 16 = W105 30 0 16 := hg32 30 0 16 (by unfold fG; omega)
                          refine kw_aload_n hC dX8_parts_158 rfl 1 rfl ?_
                          refine kg_30_11 hC w8 f129 dX8_parts_159 rfl (by decide) (by decide) ?_
                          refine kw_aload_n hC dX8_parts_162 rfl 1 rfl ?_
                          refine kg_30_12 hC w8 f126 dX8_parts_163 rfl (by decide) (by decide) ?_
                          refine kw_iload hC dX8_parts_166 rfl 7 rfl ?_
                          refine ks_51 hC dX8_parts_168 rfl (by decide) (by decide) (by omega) (by omega) ?_
                          refine kw_hv hfS32 (by unfold tR; omega) (fun S33 hfS33 hv33 ho33 => ?_)
                          have hRS33 := hRS.fr hfS33
                          have hnS33 := hRS33.n
                          have enS33 : S33 30 0 0 = S 30 0 0 := hfS33 30 0 0 (by unfold tR; omega)
                          have e8_33 : S33 30 0 8 = S32 30 0 8 := ho33 30 0 8 (by omega)
                          replace hrv : WV (S33 47 0) (S33 30 0 8) (S33 30 0 0) := hrv.eq (fun j _ _ => ho33 47 0 j (by omega)) e8_33 (ho33 30 0 0 (by omega))
                          have e12_33 : S33 30 0 12 = S32 30 0 12 := ho33 30 0 12 (by omega)
                          have e1633 : S33 30 0 16 = S32 30 0 16 := ho33 30 0 16 (by omega)
                          have hv8 : WV (S33 51 0) (S32 30 0 12 + 1) (S33 30 0 0) := (hvv.add (fun j hj => ho33 51 0 j (by omega)) (by rw [hv33]; omega)).eq (fun _ _ _ => rfl) rfl (ho33 30 0 0 (by omega))
                          refine kw_aload_n hC dX8_parts_169 rfl 1 rfl ?_
                          refine kw_dup hC dX8_parts_170 rfl rfl ?_
                          refine kg_30_12 hC w8 f126 dX8_parts_171 rfl (by decide) (by decide) ?_
                          refine kw_iconst hC dX8_parts_174 rfl ?_
                          refine kw_iadd hC dX8_parts_175 rfl ?_
                          refine kp_30_12 hC w8 f126 dX8_parts_176 rfl (by decide) (by decide) ?_
                          refine kw_hv hfS33 (by unfold tR; omega) (fun S34 hfS34 hv34 ho34 => ?_)
                          have hRS34 := hRS.fr hfS34
                          have hnS34 := hRS34.n
                          have enS34 : S34 30 0 0 = S 30 0 0 := hfS34 30 0 0 (by unfold tR; omega)
                          have e8_34 : S34 30 0 8 = S33 30 0 8 := ho34 30 0 8 (by omega)
                          replace hrv : WV (S34 47 0) (S34 30 0 8) (S34 30 0 0) := hrv.eq (fun j _ _ => ho34 47 0 j (by omega)) e8_34 (ho34 30 0 0 (by omega))
                          have e1634 : S34 30 0 16 = S33 30 0 16 := ho34 30 0 16 (by omega)
                          have x12 := hv34
                          have hvv : WV (S34 51 0) (S34 30 0 12) (S34 30 0 0) := hv8.eq (fun j _ _ => ho34 51 0 j (by omega)) (by omega) (ho34 30 0 0 (by omega))
                          refine kw_iconst hC dX8_parts_179 rfl ?_
                          refine kw_istore (lv' := [(6, _), (7, _), (0, _), (1, _), (2, _), (3, _), (4, _), (5, _)]) hC dX8_parts_180 rfl (by decide) rfl ?_
                          refine kw_goto (tgt := 188) hC dX8_parts_182 rfl (by decide) ?_
                          refine kw_goto (tgt := 105) hC dX8_parts_188 rfl (by decide) ?_
                          refine kw_lv [2, 3, 4, 5, 6, 7, 0] rfl ?_
                          exact ih105 _ S34 hfS34 (by omega) (by omega) (by omega) hrv (by omega) hvv (by omega) (by omega) (by omega) (by omega)
                      · refine kw_bipush hC dX8_parts_144 rfl (by decide) ?_
                        exact hR9.1 rfl _ _ _ _ dX8_parts_146 (by first | exact ⟨_, rfl, hp9.2.1, hbW.trans ((tR_tW hfW105).trans (fV_tW hp9.2.2.1))⟩ | exact ⟨_, rfl, hRW105, tR_tW hfW105⟩)
                    · refine kw_aload_n hC dX8_parts_125 rfl 0 rfl ?_
                      refine kw_iload hC dX8_parts_126 rfl 6 rfl ?_
                      refine kw_callV hC (d_X8_ahead hD (by omega) hRW105 hrv (by omega) (by omega) hgw) gX8_parts_X8_ahead ⟨_, rfl⟩ rfl (by decide) (by decide) rfl ⟨rfl, rfl⟩ 1 (by decide +kernel) ⟨by decide, by decide⟩ rfl rfl (Nat.le_of_ble_eq_true rfl) dX8_parts_128 rfl (kd_i (fun r35 S35 hp35 => ?_))
                      obtain ⟨hg35, hp35⟩ := hp35
                      have hfS35 : Fr tR S S35 := hfW105.trans (hg35.mono (fun k i j h => by unfold fT at h; unfold tR; omega))
                      have hRS35 := hRS.fr hfS35
                      have hnS35 := hRS35.n
                      have enS35 : S35 30 0 0 = S 30 0 0 := hfS35 30 0 0 (by unfold tR; omega)
                      obtain ⟨⟨k035, k135⟩, hgw⟩ := hp35
                      have e8_35 : S35 30 0 8 = W105 30 0 8 := hg35 30 0 8 (by unfold fT; omega)
                      replace hrv : WV (S35 47 0) (S35 30 0 8) (S35 30 0 0) := hrv.eq (fun j _ _ => hg35 47 0 j (by unfold fT; omega)) e8_35 (hg35 30 0 0 (by unfold fT; omega))
                      have e12_35 : S35 30 0 12 = W105 30 0 12 := hg35 30 0 12 (by unfold fT; omega)
                      replace hvv : WV (S35 51 0) (S35 30 0 12) (S35 30 0 0) := hvv.eq (fun j _ _ => hg35 51 0 j (by unfold fT; omega)) e12_35 (hg35 30 0 0 (by unfold fT; omega))
                      refine kw_goto (tgt := 135) hC dX8_parts_131 rfl (by decide) ?_
                      refine kw_istore (lv' := [(7, _), (0, _), (1, _), (2, _), (3, _), (4, _), (5, _), (6, _)]) hC dX8_parts_135 rfl (by decide) rfl ?_
                      refine kw_aload_n hC dX8_parts_137 rfl 1 rfl ?_
                      refine kg_30_16 hC w8 f81 dX8_parts_138 rfl (by decide) (by decide) ?_
                      refine kw_if_eq (tgt := 147) hC dX8_parts_141 rfl (by decide) (by omega) ⟨fun c141 => ?_, fun c141 => ?_⟩
                      · refine kw_iload hC dX8_parts_147 rfl 0 rfl ?_
                        refine kw_if_lt (tgt := 185) hC dX8_parts_149 rfl (by decide) (by omega) ⟨fun c149 => ?_, fun c149 => ?_⟩
                        · refine kw_iinc (lv' := [(6, _), (7, _), (0, _), (1, _), (2, _), (3, _), (4, _), (5, _)]) hC dX8_parts_185 rfl 7 rfl (by decide) rfl ?_
                          refine kw_goto (tgt := 105) hC dX8_parts_188 rfl (by decide) ?_
                          refine kw_lv [2, 3, 4, 5, 6, 7, 0] rfl ?_
                          exact ih105 _ S35 hfS35 (by omega) (by omega) (by omega) hrv (by omega) hvv (by omega) (by omega) (by omega) (by omega)
                        · refine kw_aload_n hC dX8_parts_152 rfl 1 rfl ?_
                          refine kw_iload hC dX8_parts_153 rfl 0 rfl ?_
                          refine kw_callV hC (d_X8_goesFromR hD (by omega) (by omega) (by omega)) gX8_parts_X8_goesFromR ⟨_, rfl⟩ rfl (by decide) (by decide) rfl ⟨rfl, rfl⟩ 1 (by decide +kernel) ⟨by decide, by decide⟩ rfl rfl (Nat.le_of_ble_eq_true rfl) dX8_parts_155 rfl (kd_v (fun S38 hp38 => ?_))
                          obtain ⟨hg38, hp38⟩ := hp38
                          have hfS38 : Fr tR S S38 := hfS35.trans (hg38.mono (fun k i j h => by unfold fG at h; unfold tR; omega))
                          have hRS38 := hRS.fr hfS38
                          have hnS38 := hRS38.n
                          have enS38 : S38 30 0 0 = S 30 0 0 := hfS38 30 0 0 (by unfold tR; omega)
                          obtain ⟨q8, qr1, qr2⟩ := hp38
                          replace hrv : WV (S38 47 0) (S38 30 0 8) (S38 30 0 0) := (q8 ▸ WV.del hrv qr1 qr2 (by omega)).eq (fun _ _ _ => rfl) rfl (hg38 30 0 0 (by unfold fG; omega))
                          have e12_38 : S38 30 0 12 = S35 30 0 12 := hg38 30 0 12 (by unfold fG; omega)
                          replace hvv : WV (S38 51 0) (S38 30 0 12) (S38 30 0 0) := hvv.eq (fun j _ _ => hg38 51 0 j (by unfold fG; omega)) e12_38 (hg38 30 0 0 (by unfold fG; omega))
                          have e1638 : S38 30 0 16 = S35 30 0 16 := hg38 30 0 16 (by unfold fG; omega)
                          refine kw_aload_n hC dX8_parts_158 rfl 1 rfl ?_
                          refine kg_30_11 hC w8 f129 dX8_parts_159 rfl (by decide) (by decide) ?_
                          refine kw_aload_n hC dX8_parts_162 rfl 1 rfl ?_
                          refine kg_30_12 hC w8 f126 dX8_parts_163 rfl (by decide) (by decide) ?_
                          refine kw_iload hC dX8_parts_166 rfl 7 rfl ?_
                          refine ks_51 hC dX8_parts_168 rfl (by decide) (by decide) (by omega) (by omega) ?_
                          refine kw_hv hfS38 (by unfold tR; omega) (fun S39 hfS39 hv39 ho39 => ?_)
                          have hRS39 := hRS.fr hfS39
                          have hnS39 := hRS39.n
                          have enS39 : S39 30 0 0 = S 30 0 0 := hfS39 30 0 0 (by unfold tR; omega)
                          have e8_39 : S39 30 0 8 = S38 30 0 8 := ho39 30 0 8 (by omega)
                          replace hrv : WV (S39 47 0) (S39 30 0 8) (S39 30 0 0) := hrv.eq (fun j _ _ => ho39 47 0 j (by omega)) e8_39 (ho39 30 0 0 (by omega))
                          have e12_39 : S39 30 0 12 = S38 30 0 12 := ho39 30 0 12 (by omega)
                          have e1639 : S39 30 0 16 = S38 30 0 16 := ho39 30 0 16 (by omega)
                          have hv8 : WV (S39 51 0) (S38 30 0 12 + 1) (S39 30 0 0) := (hvv.add (fun j hj => ho39 51 0 j (by omega)) (by rw [hv39]; omega)).eq (fun _ _ _ => rfl) rfl (ho39 30 0 0 (by omega))
                          refine kw_aload_n hC dX8_parts_169 rfl 1 rfl ?_
                          refine kw_dup hC dX8_parts_170 rfl rfl ?_
                          refine kg_30_12 hC w8 f126 dX8_parts_171 rfl (by decide) (by decide) ?_
                          refine kw_iconst hC dX8_parts_174 rfl ?_
                          refine kw_iadd hC dX8_parts_175 rfl ?_
                          refine kp_30_12 hC w8 f126 dX8_parts_176 rfl (by decide) (by decide) ?_
                          refine kw_hv hfS39 (by unfold tR; omega) (fun S40 hfS40 hv40 ho40 => ?_)
                          have hRS40 := hRS.fr hfS40
                          have hnS40 := hRS40.n
                          have enS40 : S40 30 0 0 = S 30 0 0 := hfS40 30 0 0 (by unfold tR; omega)
                          have e8_40 : S40 30 0 8 = S39 30 0 8 := ho40 30 0 8 (by omega)
                          replace hrv : WV (S40 47 0) (S40 30 0 8) (S40 30 0 0) := hrv.eq (fun j _ _ => ho40 47 0 j (by omega)) e8_40 (ho40 30 0 0 (by omega))
                          have e1640 : S40 30 0 16 = S39 30 0 16 := ho40 30 0 16 (by omega)
                          have x12 := hv40
                          have hvv : WV (S40 51 0) (S40 30 0 12) (S40 30 0 0) := hv8.eq (fun j _ _ => ho40 51 0 j (by omega)) (by omega) (ho40 30 0 0 (by omega))
                          refine kw_iconst hC dX8_parts_179 rfl ?_
                          refine kw_istore (lv' := [(6, _), (7, _), (0, _), (1, _), (2, _), (3, _), (4, _), (5, _)]) hC dX8_parts_180 rfl (by decide) rfl ?_
                          refine kw_goto (tgt := 188) hC dX8_parts_182 rfl (by decide) ?_
                          refine kw_goto (tgt := 105) hC dX8_parts_188 rfl (by decide) ?_
                          refine kw_lv [2, 3, 4, 5, 6, 7, 0] rfl ?_
                          exact ih105 _ S40 hfS40 (by omega) (by omega) (by omega) hrv (by omega) hvv (by omega) (by omega) (by omega) (by omega)
                      · refine kw_bipush hC dX8_parts_144 rfl (by decide) ?_
                        exact hR9.1 rfl _ _ _ _ dX8_parts_146 (by first | exact ⟨_, rfl, hp9.2.1, hbW.trans ((tR_tW hfS35).trans (fV_tW hp9.2.2.1))⟩ | exact ⟨_, rfl, hRS35, tR_tW hfS35⟩)
              refine kw_lv [1, 2, 3, 4, 5, 6, 0] rfl ?_
              exact hL105 707 0 S8 hfS8 (by omega) (by omega) (by omega) hrv (by omega) (fun j _ _ => by omega) (by omega) (by omega) (by omega) (by omega)
            · refine kw_bipush hC dX8_parts_94 rfl (by decide) ?_
              exact hR9.1 rfl _ _ _ _ dX8_parts_96 (by first | exact ⟨_, rfl, hp9.2.1, hbW.trans ((tR_tW hfS6).trans (fV_tW hp9.2.2.1))⟩ | exact ⟨_, rfl, hRS6, tR_tW hfS6⟩)
          refine kw_icmp_ne (tgt := 82) hC dX8_parts_35 rfl (by decide) (by omega) (by omega) ⟨fun c35 => ?_, fun c35 => ?_⟩
          · refine kw_lv [1, 2, 3, 4, 5, 0] rfl ?_
            exact hJ82 _ 
          · refine kw_iconst hC dX8_parts_38 rfl ?_
            refine kw_istore (lv' := [(5, _), (0, _), (1, _), (2, _), (3, _), (4, _)]) hC dX8_parts_39 rfl (by decide) rfl ?_
            refine kw_iconst hC dX8_parts_41 rfl ?_
            refine kw_istore (lv' := [(6, _), (5, _), (0, _), (1, _), (2, _), (3, _), (4, _)]) hC dX8_parts_42 rfl (by decide) rfl ?_
            have hL44 : ∀ (n44 : Nat) (i : Int) (z : Int), (0 ≤ i) → (i ≤ S 30 0 0) → S 30 0 0 - i < (n44 : Int) → Wk E g 10 S 44 [(0, vr g 30 0), (1, vi a), (2, vi b), (3, vi c), (4, vi d), (5, vi z), (6, vi i)] [] := by
              intro n44
              induction n44 with
              | zero => intro i z i0 i1 hm44; exact absurd hm44 (by omega)
              | succ n44 ih44 =>
                intro i z i0 i1 hm44
                refine kw_iload hC dX8_parts_44 rfl 6 rfl ?_
                refine kw_aload_n hC dX8_parts_46 rfl 0 rfl ?_
                refine kg_30_0 hC w8 f11 dX8_parts_47 rfl (by decide) (by decide) ?_
                refine kw_icmp_ge (tgt := 82) hC dX8_parts_50 rfl (by decide) (by omega) (by omega) ⟨fun c50 => ?_, fun c50 => ?_⟩
                · refine kw_lv [0, 1, 2, 3, 4, 5] rfl ?_
                  exact hJ82 _ 
                · refine kw_iload hC dX8_parts_53 rfl 5 rfl ?_
                  refine kw_aload_n hC dX8_parts_55 rfl 0 rfl ?_
                  refine kg_30_1 hC w8 f14 dX8_parts_56 rfl (by decide) (by decide) ?_
                  refine kw_iload hC dX8_parts_59 rfl 6 rfl ?_
                  refine ka_41 hC dX8_parts_61 rfl (by decide) (by decide) (by omega) (by omega) ?_
                  have hkd := hRS.kd i (by omega) (by omega)
                  refine kw_if_ne (tgt := 72) hC dX8_parts_62 rfl (by decide) (by omega) ⟨fun c62 => ?_, fun c62 => ?_⟩
                  · refine kw_iconst hC dX8_parts_72 rfl ?_
                    refine kw_iorX hC dX8_parts_73 rfl ?_
                    refine kw_istore (lv' := [(5, _), (0, _), (1, _), (2, _), (3, _), (4, _), (6, _)]) hC dX8_parts_74 rfl (by decide) rfl ?_
                    refine kw_iinc (lv' := [(6, _), (5, _), (0, _), (1, _), (2, _), (3, _), (4, _)]) hC dX8_parts_76 rfl 6 rfl (by decide) rfl ?_
                    refine kw_goto (tgt := 44) hC dX8_parts_79 rfl (by decide) ?_
                    refine kw_lv [2, 3, 4, 5, 6, 1, 0] rfl ?_
                    exact ih44 (i + 1) _ (by omega) (by omega) (by omega)
                  · refine kw_iconst hC dX8_parts_65 rfl ?_
                    refine kw_iload hC dX8_parts_66 rfl 6 rfl ?_
                    refine kw_ishlX hC dX8_parts_68 rfl ?_
                    refine kw_goto (tgt := 73) hC dX8_parts_69 rfl (by decide) ?_
                    refine kw_iorX hC dX8_parts_73 rfl ?_
                    refine kw_istore (lv' := [(5, _), (0, _), (1, _), (2, _), (3, _), (4, _), (6, _)]) hC dX8_parts_74 rfl (by decide) rfl ?_
                    refine kw_iinc (lv' := [(6, _), (5, _), (0, _), (1, _), (2, _), (3, _), (4, _)]) hC dX8_parts_76 rfl 6 rfl (by decide) rfl ?_
                    refine kw_goto (tgt := 44) hC dX8_parts_79 rfl (by decide) ?_
                    refine kw_lv [2, 3, 4, 5, 6, 1, 0] rfl ?_
                    exact ih44 (i + 1) _ (by omega) (by omega) (by omega)
            refine kw_lv [2, 3, 4, 5, 6, 1, 0] rfl ?_
            exact hL44 7 0 _ (by omega) (by omega) (by omega)
        · refine kw_iconst hC dX8_parts_28 rfl ?_
          exact hR9.1 rfl _ _ _ _ dX8_parts_29 (by first | exact ⟨_, rfl, hp9.2.1, hbW.trans ((tR_tW hfS).trans (fV_tW hp9.2.2.1))⟩ | exact ⟨_, rfl, hRS, tR_tW hfS⟩)
