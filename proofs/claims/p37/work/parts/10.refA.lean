def fO (k : Nat) (i j : Int) : Prop := k = 55

def fT (k : Nat) (i j : Int) : Prop := k = 55 ∨ (k = 30 ∧ j = 16)

set_option maxHeartbeats 4000000 in
set_option maxRecDepth 100000 in
theorem d_X8_in {g : wG} (hD : wD g) {S : wSt} {a b c : Int} (ha : -9223372036854775808 ≤ a ∧ a ≤ 9223372036854775807) (hb : -9223372036854775808 ≤ b ∧ b ≤ 9223372036854775807) (hc : -9223372036854775808 ≤ c ∧ c ≤ 9223372036854775807) (l : Launch) : Kt l yX8_in wsX8_in ({ frames := 0, cells := 0, slots := 0, locals := 0 } : Room) g S [vl a, vl b, vl c] (pI (fun r S' => r = bz (b ≤ a ∧ a ≤ c) ∧ S' = S)) := by
  refine Kt.of (cc := cX8_in) (nL := 6) (ret := (some .boolean)) (own := RX8) rfl hD (by decide) rfl (Nat.le_of_ble_eq_true rfl) ⟨rfl, rfl⟩ ?_
  intro E hC hR9
  show Wk E g 6 S 0 [(0, vl a), (2, vl b), (4, vl c)] []
  refine kw_lload_n hC dX8_in_0 rfl 0 rfl ?_
  refine kw_lload_n hC dX8_in_1 rfl 1 rfl ?_
  refine kw_lcmp hC dX8_in_2 rfl (by omega) (by omega) ?_
  refine kw_if_lt (tgt := 17) hC dX8_in_3 rfl (by decide) (cz_r _ _) ⟨fun c3 => ?_, fun c3 => ?_⟩
  · replace c3 := (cz_lt _ _).mp c3
    refine kw_iconst hC dX8_in_17 rfl ?_
    exact hR9.2.1 rfl _ _ _ _ dX8_in_18 (by omega) ⟨_, rfl, by first | exact (bz_t (by omega)).symm | exact (bz_f (by omega)).symm, rfl⟩
  · replace c3 := (not_congr (cz_lt _ _)).mp c3
    refine kw_lload_n hC dX8_in_6 rfl 0 rfl ?_
    refine kw_lload hC dX8_in_7 rfl 2 rfl ?_
    refine kw_lcmp hC dX8_in_9 rfl (by omega) (by omega) ?_
    refine kw_if_gt (tgt := 17) hC dX8_in_10 rfl (by decide) (cz_r _ _) ⟨fun c10 => ?_, fun c10 => ?_⟩
    · replace c10 := (cz_gt _ _).mp c10
      refine kw_iconst hC dX8_in_17 rfl ?_
      exact hR9.2.1 rfl _ _ _ _ dX8_in_18 (by omega) ⟨_, rfl, by first | exact (bz_t (by omega)).symm | exact (bz_f (by omega)).symm, rfl⟩
    · replace c10 := (not_congr (cz_gt _ _)).mp c10
      refine kw_iconst hC dX8_in_13 rfl ?_
      refine kw_goto (tgt := 18) hC dX8_in_14 rfl (by decide) ?_
      exact hR9.2.1 rfl _ _ _ _ dX8_in_18 (by omega) ⟨_, rfl, by first | exact (bz_t (by omega)).symm | exact (bz_f (by omega)).symm, rfl⟩

set_option maxHeartbeats 4000000 in
set_option maxRecDepth 100000 in
theorem d_X8_isMirror {g : wG} (hD : wD g) {S : wSt} {a : Int} (ha : -9223372036854775808 ≤ a ∧ a ≤ 9223372036854775807) (m0 : 0 ≤ S 30 0 0) (m1 : S 30 0 0 ≤ 6) (l : Launch) : Kt l yX8_isMirror wsX8_isMirror ({ frames := 1, cells := 0, slots := 0, locals := 25 } : Room) g S [vr g 30 0, vl a] (pI (fun r S' => r = bz (0 ≤ a ∧ a ≤ S 30 0 0 - 1) ∧ S' = S)) := by
  refine Kt.of (cc := cX8_isMirror) (nL := 3) (ret := (some .boolean)) (own := RX8) rfl hD (by decide) rfl (Nat.le_of_ble_eq_true rfl) ⟨rfl, rfl⟩ ?_
  intro E hC hR9
  have f11 : Cond.fieldLink RX8 11 "MirrorBenchModel" "mirrors" "I" ∈ wsX8_isMirror := by decide +kernel
  have w8 : ∀ w ∈ wsX80, w ∈ wsX8_isMirror := by decide +kernel
  show Wk E g 3 S 0 [(0, vr g 30 0), (1, vl a)] []
  refine kw_lload_n hC dX8_isMirror_0 rfl 1 rfl ?_
  refine kw_lconst (z := 0) hC dX8_isMirror_1 rfl rfl ?_
  refine kw_aload_n hC dX8_isMirror_2 rfl 0 rfl ?_
  refine kg_30_0 hC w8 f11 dX8_isMirror_3 rfl (by decide) (by decide) ?_
  refine kw_i2l hC dX8_isMirror_6 rfl (by omega) ?_
  refine kw_lconst (z := 1) hC dX8_isMirror_7 rfl rfl ?_
  refine kw_lsub hC dX8_isMirror_8 rfl ?_
  refine kw_callS hC (d_X8_in hD (by omega) (by omega) (by omega)) gX8_isMirror_X8_in rfl ⟨rfl, rfl⟩ 3 (by decide +kernel) ⟨by decide, by decide⟩ rfl rfl (Nat.le_of_ble_eq_true rfl) dX8_isMirror_9 rfl (kd_ie ?_)
  exact hR9.2.1 rfl _ _ _ _ dX8_isMirror_12 (bz_r _) ⟨_, rfl, rfl, rfl⟩

set_option maxHeartbeats 4000000 in
set_option maxRecDepth 100000 in
theorem d_X8_isSlot {g : wG} (hD : wD g) {S : wSt} {a : Int} (ha : -2147483648 ≤ a ∧ a ≤ 2147483647) (l : Launch) : Kt l yX8_isSlot wsX8_isSlot ({ frames := 1, cells := 0, slots := 0, locals := 25 } : Room) g S [vi a] (pI (fun r S' => r = bz (0 ≤ a ∧ a ≤ 7) ∧ S' = S)) := by
  refine Kt.of (cc := cX8_isSlot) (nL := 1) (ret := (some .boolean)) (own := RX8) rfl hD (by decide) rfl (Nat.le_of_ble_eq_true rfl) ⟨rfl, rfl⟩ ?_
  intro E hC hR9
  have l46 : Cond.constantLong RX8 46 (Int64.ofInt (7)) ∈ wsX8_isSlot := by decide +kernel
  show Wk E g 1 S 0 [(0, vi a)] []
  refine kw_iload_n hC dX8_isSlot_0 rfl 0 rfl ?_
  refine kw_i2l hC dX8_isSlot_1 rfl (by omega) ?_
  refine kw_lconst (z := 0) hC dX8_isSlot_2 rfl rfl ?_
  refine kw_ldc2 (z := 7) hC dX8_isSlot_3 rfl l46 ?_
  refine kw_callS hC (d_X8_in hD (by omega) (by omega) (by omega)) gX8_isSlot_X8_in rfl ⟨rfl, rfl⟩ 3 (by decide +kernel) ⟨by decide, by decide⟩ rfl rfl (Nat.le_of_ble_eq_true rfl) dX8_isSlot_6 rfl (kd_ie ?_)
  exact hR9.2.1 rfl _ _ _ _ dX8_isSlot_9 (bz_r _) ⟨_, rfl, rfl, rfl⟩

set_option maxHeartbeats 4000000 in
set_option maxRecDepth 100000 in
theorem d_X8_isLeaf {g : wG} (hD : wD g) {S : wSt} {a : Int} (ha : -2147483648 ≤ a ∧ a ≤ 2147483647) (l : Launch) : Kt l yX8_isLeaf wsX8_isLeaf ({ frames := 1, cells := 0, slots := 0, locals := 25 } : Room) g S [vi a] (pI (fun r S' => r = bz (0 ≤ a ∧ a ≤ 3) ∧ S' = S)) := by
  refine Kt.of (cc := cX8_isLeaf) (nL := 1) (ret := (some .boolean)) (own := RX8) rfl hD (by decide) rfl (Nat.le_of_ble_eq_true rfl) ⟨rfl, rfl⟩ ?_
  intro E hC hR9
  have l246 : Cond.constantLong RX8 246 (Int64.ofInt (3)) ∈ wsX8_isLeaf := by decide +kernel
  show Wk E g 1 S 0 [(0, vi a)] []
  refine kw_iload_n hC dX8_isLeaf_0 rfl 0 rfl ?_
  refine kw_i2l hC dX8_isLeaf_1 rfl (by omega) ?_
  refine kw_lconst (z := 0) hC dX8_isLeaf_2 rfl rfl ?_
  refine kw_ldc2 (z := 3) hC dX8_isLeaf_3 rfl l246 ?_
  refine kw_callS hC (d_X8_in hD (by omega) (by omega) (by omega)) gX8_isLeaf_X8_in rfl ⟨rfl, rfl⟩ 3 (by decide +kernel) ⟨by decide, by decide⟩ rfl rfl (Nat.le_of_ble_eq_true rfl) dX8_isLeaf_6 rfl (kd_ie ?_)
  exact hR9.2.1 rfl _ _ _ _ dX8_isLeaf_9 (bz_r _) ⟨_, rfl, rfl, rfl⟩

set_option maxHeartbeats 4000000 in
set_option maxRecDepth 100000 in
theorem d_X8_own {g : wG} (hD : wD g) {S : wSt} {a : Int} (ha : -2147483648 ≤ a ∧ a ≤ 2147483647) (l : Launch) : Kt l yX8_own wsX8_own ({ frames := 0, cells := 0, slots := 0, locals := 0 } : Room) g S [vr g 30 0, vi a] (pV (fun S' => Fr fO S S' ∧ ∀ j, 0 ≤ j → j < 6 → S' 55 0 j = if j = a then 1 else 0)) := by
  refine Kt.of (cc := cX8_own) (nL := 3) (ret := none) (own := RX8) rfl hD (by decide) rfl (Nat.le_of_ble_eq_true rfl) ⟨rfl, rfl⟩ ?_
  intro E hC hR9
  have f77 : Cond.fieldLink RX8 77 "MirrorBenchModel" "root" "[J" ∈ wsX8_own := by decide +kernel
  have w8 : ∀ w ∈ wsX80, w ∈ wsX8_own := by decide +kernel
  show Wk E g 3 S 0 [(0, vr g 30 0), (1, vi a)] []
  have hfS : Fr fO S S := Fr.rfl _ S
  refine kw_iconst hC dX8_own_0 rfl ?_
  refine kw_istore_n (lv' := [(2, _), (0, _), (1, _)]) hC dX8_own_1 rfl (by decide) rfl ?_
  have hL2 : ∀ (n2 : Nat) (x : Int) (W2 : wSt), Fr fO S W2 → (0 ≤ x) → (x ≤ 6) → (∀ j, 0 ≤ j → j < x → W2 55 0 j = if j = a then 1 else 0) → 6 - x < (n2 : Int) → Wk E g 3 W2 2 [(0, vr g 30 0), (1, vi a), (2, vi x)] [] := by
    intro n2
    induction n2 with
    | zero => intro x W2 hfW2 hx0 hx1 h3 hm2; exact absurd hm2 (by omega)
    | succ n2 ih2 =>
      intro x W2 hfW2 hx0 hx1 h3 hm2
      refine kw_iload_n hC dX8_own_2 rfl 2 rfl ?_
      refine kw_bipush hC dX8_own_3 rfl (by decide) ?_
      refine kw_icmp_ge (tgt := 30) hC dX8_own_5 rfl (by decide) (by omega) (by omega) ⟨fun c5 => ?_, fun c5 => ?_⟩
      · exact hR9.2.2.2 rfl _ _ _ dX8_own_30 ⟨rfl, hfW2, fun j j0 j1 => h3 j j0 (by omega)⟩
      · refine kw_aload_n hC dX8_own_8 rfl 0 rfl ?_
        refine kg_30_15 hC w8 f77 dX8_own_9 rfl (by decide) (by decide) ?_
        refine kw_iload_n hC dX8_own_12 rfl 2 rfl ?_
        refine kw_iload_n hC dX8_own_13 rfl 2 rfl ?_
        refine kw_iload_n hC dX8_own_14 rfl 1 rfl ?_
        refine kw_icmp_ne (tgt := 22) hC dX8_own_15 rfl (by decide) (by omega) (by omega) ⟨fun c15 => ?_, fun c15 => ?_⟩
        · refine kw_lconst (z := 0) hC dX8_own_22 rfl rfl ?_
          refine ks_55 hC dX8_own_23 rfl (by decide) (by decide) (by omega) (by omega) ?_
          refine kw_hv hfW2 (by unfold fO; omega) (fun S3 hfS3 hv3 ho3 => ?_)
          refine kw_iinc (lv' := [(2, _), (0, _), (1, _)]) hC dX8_own_24 rfl 2 rfl (by decide) rfl ?_
          refine kw_goto (tgt := 2) hC dX8_own_27 rfl (by decide) ?_
          refine kw_lv [1, 2, 0] rfl ?_
          exact ih2 (x + 1) S3 hfS3 (by omega) (by omega) (ext_p (fun j z => z = if j = a then 1 else 0) h3 (fun j hj => ho3 55 0 j (by omega)) (by rw [hv3]; split <;> omega)) (by omega)
        · refine kw_lconst (z := 1) hC dX8_own_18 rfl rfl ?_
          refine kw_goto (tgt := 23) hC dX8_own_19 rfl (by decide) ?_
          refine ks_55 hC dX8_own_23 rfl (by decide) (by decide) (by omega) (by omega) ?_
          refine kw_hv hfW2 (by unfold fO; omega) (fun S4 hfS4 hv4 ho4 => ?_)
          refine kw_iinc (lv' := [(2, _), (0, _), (1, _)]) hC dX8_own_24 rfl 2 rfl (by decide) rfl ?_
          refine kw_goto (tgt := 2) hC dX8_own_27 rfl (by decide) ?_
          refine kw_lv [1, 2, 0] rfl ?_
          exact ih2 (x + 1) S4 hfS4 (by omega) (by omega) (ext_p (fun j z => z = if j = a then 1 else 0) h3 (fun j hj => ho4 55 0 j (by omega)) (by rw [hv4]; split <;> omega)) (by omega)
  refine kw_lv [1, 2, 0] rfl ?_
  exact hL2 7 0 S hfS (by omega) (by omega) (fun j _ _ => by omega) (by omega)

set_option maxHeartbeats 4000000 in
set_option maxRecDepth 100000 in
theorem d_X8_isOwn {g : wG} (hD : wD g) {S : wSt} {a : Int} (ha : -2147483648 ≤ a ∧ a ≤ 2147483647) (m0 : 0 ≤ S 30 0 0) (m1 : S 30 0 0 ≤ 6) (l : Launch) : Kt l yX8_isOwn wsX8_isOwn ({ frames := 0, cells := 0, slots := 0, locals := 0 } : Room) g S [vr g 30 0, vi a] (pI (fun r S' => r = bz (∀ j, 0 ≤ j → j < S 30 0 0 → nl (S 55 0 j) = if j = a then 1 else 0) ∧ S' = S)) := by
  refine Kt.of (cc := cX8_isOwn) (nL := 4) (ret := (some .boolean)) (own := RX8) rfl hD (by decide) rfl (Nat.le_of_ble_eq_true rfl) ⟨rfl, rfl⟩ ?_
  intro E hC hR9
  have f11 : Cond.fieldLink RX8 11 "MirrorBenchModel" "mirrors" "I" ∈ wsX8_isOwn := by decide +kernel
  have f77 : Cond.fieldLink RX8 77 "MirrorBenchModel" "root" "[J" ∈ wsX8_isOwn := by decide +kernel
  have w8 : ∀ w ∈ wsX80, w ∈ wsX8_isOwn := by decide +kernel
  show Wk E g 4 S 0 [(0, vr g 30 0), (1, vi a)] []
  refine kw_iconst hC dX8_isOwn_0 rfl ?_
  refine kw_chi (z' := bz (∀ j, 0 ≤ j → j < 0 → nl (S 55 0 j) = if j = a then 1 else 0)) (bz_t (fun j _ _ => by omega)).symm ?_
  refine kw_istore_n (lv' := [(2, _), (0, _), (1, _)]) hC dX8_isOwn_1 rfl (by decide) rfl ?_
  refine kw_iconst hC dX8_isOwn_2 rfl ?_
  refine kw_istore_n (lv' := [(3, _), (2, _), (0, _), (1, _)]) hC dX8_isOwn_3 rfl (by decide) rfl ?_
  have hL4 : ∀ (n4 : Nat) (x : Int), (0 ≤ x) → (x ≤ S 30 0 0) → S 30 0 0 - x < (n4 : Int) → Wk E g 4 S 4 [(0, vr g 30 0), (1, vi a), (2, vi (bz (∀ j, 0 ≤ j → j < x → nl (S 55 0 j) = if j = a then 1 else 0))), (3, vi x)] [] := by
    intro n4
    induction n4 with
    | zero => intro x hx0 hx1 hm4; exact absurd hm4 (by omega)
    | succ n4 ih4 =>
      intro x hx0 hx1 hm4
      refine kw_iload_n hC dX8_isOwn_4 rfl 3 rfl ?_
      refine kw_aload_n hC dX8_isOwn_5 rfl 0 rfl ?_
      refine kg_30_0 hC w8 f11 dX8_isOwn_6 rfl (by decide) (by decide) ?_
      refine kw_icmp_ge (tgt := 48) hC dX8_isOwn_9 rfl (by decide) (by omega) (by omega) ⟨fun c9 => ?_, fun c9 => ?_⟩
      · refine kw_iload_n hC dX8_isOwn_48 rfl 2 rfl ?_
        exact hR9.2.1 rfl _ _ _ _ dX8_isOwn_49 (bz_r _) ⟨_, rfl, by rw [show x = S 30 0 0 by omega], rfl⟩
      · refine kw_iload_n hC dX8_isOwn_12 rfl 2 rfl ?_
        refine kw_ifeq_b (tgt := 40) hC dX8_isOwn_13 rfl (by decide) ⟨fun c13 => ?_, fun c13 => ?_⟩
        · refine kw_iconst hC dX8_isOwn_40 rfl ?_
          refine kw_chi (z' := bz (∀ j, 0 ≤ j → j < x + 1 → nl (S 55 0 j) = if j = a then 1 else 0)) (by first | exact (bz_f (fun q => c13 (fun j j0 j1 => q j j0 (by omega)))).symm | exact (bz_f (fun q => c33 (by rw [q x (by omega) (by omega)]; first | rw [if_pos (by omega)] | rw [if_neg (by omega)]))).symm | exact (bz_t (ext_p (fun j z => z = if j = a then 1 else 0) (f := fun j => nl (S 55 0 j)) c13 (fun _ _ => rfl) (by show nl (S 55 0 x) = _; split <;> omega))).symm) ?_
          refine kw_istore_n (lv' := [(2, _), (0, _), (1, _), (3, _)]) hC dX8_isOwn_41 rfl (by decide) rfl ?_
          refine kw_iinc (lv' := [(3, _), (2, _), (0, _), (1, _)]) hC dX8_isOwn_42 rfl 3 rfl (by decide) rfl ?_
          refine kw_goto (tgt := 4) hC dX8_isOwn_45 rfl (by decide) ?_
          refine kw_lv [2, 3, 1, 0] rfl ?_
          exact ih4 (x + 1) (by omega) (by omega) (by omega)
        · refine kw_aload_n hC dX8_isOwn_16 rfl 0 rfl ?_
          refine kg_30_15 hC w8 f77 dX8_isOwn_17 rfl (by decide) (by decide) ?_
          refine kw_iload_n hC dX8_isOwn_20 rfl 3 rfl ?_
          refine ka_55 hC dX8_isOwn_21 rfl (by decide) (by decide) (by omega) (by omega) ?_
          refine kw_nrl ?_
          refine kw_iload_n hC dX8_isOwn_22 rfl 3 rfl ?_
          refine kw_iload_n hC dX8_isOwn_23 rfl 1 rfl ?_
          refine kw_icmp_ne (tgt := 31) hC dX8_isOwn_24 rfl (by decide) (by omega) (by omega) ⟨fun c24 => ?_, fun c24 => ?_⟩
          · refine kw_lconst (z := 0) hC dX8_isOwn_31 rfl rfl ?_
            refine kw_lcmp hC dX8_isOwn_32 rfl (nl_r _) (by omega) ?_
            refine kw_if_ne (tgt := 40) hC dX8_isOwn_33 rfl (by decide) (cz_r _ _) ⟨fun c33 => ?_, fun c33 => ?_⟩
            · replace c33 := (cz_ne _ _).mp c33
              refine kw_iconst hC dX8_isOwn_40 rfl ?_
              refine kw_chi (z' := bz (∀ j, 0 ≤ j → j < x + 1 → nl (S 55 0 j) = if j = a then 1 else 0)) (by first | exact (bz_f (fun q => c13 (fun j j0 j1 => q j j0 (by omega)))).symm | exact (bz_f (fun q => c33 (by rw [q x (by omega) (by omega)]; first | rw [if_pos (by omega)] | rw [if_neg (by omega)]))).symm | exact (bz_t (ext_p (fun j z => z = if j = a then 1 else 0) (f := fun j => nl (S 55 0 j)) c13 (fun _ _ => rfl) (by show nl (S 55 0 x) = _; split <;> omega))).symm) ?_
              refine kw_istore_n (lv' := [(2, _), (0, _), (1, _), (3, _)]) hC dX8_isOwn_41 rfl (by decide) rfl ?_
              refine kw_iinc (lv' := [(3, _), (2, _), (0, _), (1, _)]) hC dX8_isOwn_42 rfl 3 rfl (by decide) rfl ?_
              refine kw_goto (tgt := 4) hC dX8_isOwn_45 rfl (by decide) ?_
              refine kw_lv [2, 3, 1, 0] rfl ?_
              exact ih4 (x + 1) (by omega) (by omega) (by omega)
            · replace c33 := (not_congr (cz_ne _ _)).mp c33
              refine kw_iconst hC dX8_isOwn_36 rfl ?_
              refine kw_goto (tgt := 41) hC dX8_isOwn_37 rfl (by decide) ?_
              refine kw_chi (z' := bz (∀ j, 0 ≤ j → j < x + 1 → nl (S 55 0 j) = if j = a then 1 else 0)) (by first | exact (bz_f (fun q => c13 (fun j j0 j1 => q j j0 (by omega)))).symm | exact (bz_f (fun q => c33 (by rw [q x (by omega) (by omega)]; first | rw [if_pos (by omega)] | rw [if_neg (by omega)]))).symm | exact (bz_t (ext_p (fun j z => z = if j = a then 1 else 0) (f := fun j => nl (S 55 0 j)) c13 (fun _ _ => rfl) (by show nl (S 55 0 x) = _; split <;> omega))).symm) ?_
              refine kw_istore_n (lv' := [(2, _), (0, _), (1, _), (3, _)]) hC dX8_isOwn_41 rfl (by decide) rfl ?_
              refine kw_iinc (lv' := [(3, _), (2, _), (0, _), (1, _)]) hC dX8_isOwn_42 rfl 3 rfl (by decide) rfl ?_
              refine kw_goto (tgt := 4) hC dX8_isOwn_45 rfl (by decide) ?_
              refine kw_lv [2, 3, 1, 0] rfl ?_
              exact ih4 (x + 1) (by omega) (by omega) (by omega)
          · refine kw_lconst (z := 1) hC dX8_isOwn_27 rfl rfl ?_
            refine kw_goto (tgt := 32) hC dX8_isOwn_28 rfl (by decide) ?_
            refine kw_lcmp hC dX8_isOwn_32 rfl (nl_r _) (by omega) ?_
            refine kw_if_ne (tgt := 40) hC dX8_isOwn_33 rfl (by decide) (cz_r _ _) ⟨fun c33 => ?_, fun c33 => ?_⟩
            · replace c33 := (cz_ne _ _).mp c33
              refine kw_iconst hC dX8_isOwn_40 rfl ?_
              refine kw_chi (z' := bz (∀ j, 0 ≤ j → j < x + 1 → nl (S 55 0 j) = if j = a then 1 else 0)) (by first | exact (bz_f (fun q => c13 (fun j j0 j1 => q j j0 (by omega)))).symm | exact (bz_f (fun q => c33 (by rw [q x (by omega) (by omega)]; first | rw [if_pos (by omega)] | rw [if_neg (by omega)]))).symm | exact (bz_t (ext_p (fun j z => z = if j = a then 1 else 0) (f := fun j => nl (S 55 0 j)) c13 (fun _ _ => rfl) (by show nl (S 55 0 x) = _; split <;> omega))).symm) ?_
              refine kw_istore_n (lv' := [(2, _), (0, _), (1, _), (3, _)]) hC dX8_isOwn_41 rfl (by decide) rfl ?_
              refine kw_iinc (lv' := [(3, _), (2, _), (0, _), (1, _)]) hC dX8_isOwn_42 rfl 3 rfl (by decide) rfl ?_
              refine kw_goto (tgt := 4) hC dX8_isOwn_45 rfl (by decide) ?_
              refine kw_lv [2, 3, 1, 0] rfl ?_
              exact ih4 (x + 1) (by omega) (by omega) (by omega)
            · replace c33 := (not_congr (cz_ne _ _)).mp c33
              refine kw_iconst hC dX8_isOwn_36 rfl ?_
              refine kw_goto (tgt := 41) hC dX8_isOwn_37 rfl (by decide) ?_
              refine kw_chi (z' := bz (∀ j, 0 ≤ j → j < x + 1 → nl (S 55 0 j) = if j = a then 1 else 0)) (by first | exact (bz_f (fun q => c13 (fun j j0 j1 => q j j0 (by omega)))).symm | exact (bz_f (fun q => c33 (by rw [q x (by omega) (by omega)]; first | rw [if_pos (by omega)] | rw [if_neg (by omega)]))).symm | exact (bz_t (ext_p (fun j z => z = if j = a then 1 else 0) (f := fun j => nl (S 55 0 j)) c13 (fun _ _ => rfl) (by show nl (S 55 0 x) = _; split <;> omega))).symm) ?_
              refine kw_istore_n (lv' := [(2, _), (0, _), (1, _), (3, _)]) hC dX8_isOwn_41 rfl (by decide) rfl ?_
              refine kw_iinc (lv' := [(3, _), (2, _), (0, _), (1, _)]) hC dX8_isOwn_42 rfl 3 rfl (by decide) rfl ?_
              refine kw_goto (tgt := 4) hC dX8_isOwn_45 rfl (by decide) ?_
              refine kw_lv [2, 3, 1, 0] rfl ?_
              exact ih4 (x + 1) (by omega) (by omega) (by omega)
  refine kw_lv [2, 3, 1, 0] rfl ?_
  exact hL4 7 0 (by omega) (by omega) (by omega)

set_option maxHeartbeats 4000000 in
set_option maxRecDepth 100000 in
theorem d_X8_turn {g : wG} (hD : wD g) {S : wSt} {a : Int} (a0 : 0 ≤ a) (a1 : a < 6) (hRS : RI S) (l : Launch) : Kt l yX8_turn wsX8_turn ({ frames := 1, cells := 0, slots := 0, locals := 25 } : Room) g S [vr g 30 0, vi a] (pV (fun S' => Fr fT S S' ∧ (S' 55 0 a = tvp S a (S 30 0 0) ∧ (∀ j, j ≠ a → S' 55 0 j = S 55 0 j) ∧ (S' 30 0 16 = 0 ∨ S' 30 0 16 = 1) ∧ S' 30 0 16 = bz (ni (S 30 0 16) ≠ 0 ∨ ¬ (-1000000000000 ≤ nl (tvp S a (S 30 0 0)) ∧ nl (tvp S a (S 30 0 0)) ≤ 1000000000000))))) := by
  refine Kt.of (cc := cX8_turn) (nL := 5) (ret := none) (own := RX8) rfl hD (by decide) rfl (Nat.le_of_ble_eq_true rfl) ⟨rfl, rfl⟩ ?_
  intro E hC hR9
  have f11 : Cond.fieldLink RX8 11 "MirrorBenchModel" "mirrors" "I" ∈ wsX8_turn := by decide +kernel
  have f17 : Cond.fieldLink RX8 17 "MirrorBenchModel" "meets" "[I" ∈ wsX8_turn := by decide +kernel
  have f77 : Cond.fieldLink RX8 77 "MirrorBenchModel" "root" "[J" ∈ wsX8_turn := by decide +kernel
  have f81 : Cond.fieldLink RX8 81 "MirrorBenchModel" "isGreat" "Z" ∈ wsX8_turn := by decide +kernel
  have l85 : Cond.constantLong RX8 85 (Int64.ofInt (-1000000000000)) ∈ wsX8_turn := by decide +kernel
  have l87 : Cond.constantLong RX8 87 (Int64.ofInt (1000000000000)) ∈ wsX8_turn := by decide +kernel
  have w8 : ∀ w ∈ wsX80, w ∈ wsX8_turn := by decide +kernel
  show Wk E g 5 S 0 [(0, vr g 30 0), (1, vi a)] []
  have hfS : Fr fT S S := Fr.rfl _ S
  have hn := hRS.n
  refine kw_lconst (z := 0) hC dX8_turn_0 rfl rfl ?_
  refine kw_aload_n hC dX8_turn_1 rfl 0 rfl ?_
  refine kg_30_15 hC w8 f77 dX8_turn_2 rfl (by decide) (by decide) ?_
  refine kw_iload_n hC dX8_turn_5 rfl 1 rfl ?_
  refine ka_55 hC dX8_turn_6 rfl (by decide) (by decide) (by omega) (by omega) ?_
  refine kw_lsub hC dX8_turn_7 rfl ?_
  refine kw_chl (z' := tvp S a 0) (tvp_0 S a).symm ?_
  refine kw_lstore_n (lv' := [(2, _), (0, _), (1, _)]) hC dX8_turn_8 rfl (by decide) rfl ?_
  refine kw_iconst hC dX8_turn_9 rfl ?_
  refine kw_istore (lv' := [(4, _), (2, _), (0, _), (1, _)]) hC dX8_turn_10 rfl (by decide) rfl ?_
  have hL12 : ∀ (n12 : Nat) (x : Int), (0 ≤ x) → (x ≤ S 30 0 0) → S 30 0 0 - x < (n12 : Int) → Wk E g 5 S 12 [(0, vr g 30 0), (1, vi a), (2, vl (tvp S a x)), (4, vi x)] [] := by
    intro n12
    induction n12 with
    | zero => intro x hx0 hx1 hm12; exact absurd hm12 (by omega)
    | succ n12 ih12 =>
      intro x hx0 hx1 hm12
      refine kw_iload hC dX8_turn_12 rfl 3 rfl ?_
      refine kw_aload_n hC dX8_turn_14 rfl 0 rfl ?_
      refine kg_30_0 hC w8 f11 dX8_turn_15 rfl (by decide) (by decide) ?_
      refine kw_icmp_ge (tgt := 61) hC dX8_turn_18 rfl (by decide) (by omega) (by omega) ⟨fun c18 => ?_, fun c18 => ?_⟩
      · refine kw_aload_n hC dX8_turn_61 rfl 0 rfl ?_
        refine kg_30_15 hC w8 f77 dX8_turn_62 rfl (by decide) (by decide) ?_
        refine kw_iload_n hC dX8_turn_65 rfl 1 rfl ?_
        refine kw_lload_n hC dX8_turn_66 rfl 2 rfl ?_
        obtain rfl : x = S 30 0 0 := by omega
        refine ks_55 hC dX8_turn_67 rfl (by decide) (by decide) (by omega) (by omega) ?_
        refine kw_hv hfS (by unfold fT; omega) (fun S2 hfS2 hv2 ho2 => ?_)
        have hg2 : ni (S2 30 0 16) = ni (S 30 0 16) := by rw [ho2 30 0 16 (by omega)]
        have hvR := hv2
        have hoR : ∀ j, j ≠ a → S2 55 0 j = S 55 0 j := fun j hj => ho2 55 0 j (by omega)
        refine kw_aload_n hC dX8_turn_68 rfl 0 rfl ?_
        refine kw_aload_n hC dX8_turn_69 rfl 0 rfl ?_
        refine kg_30_16 hC w8 f81 dX8_turn_70 rfl (by decide) (by decide) ?_
        refine kw_nri ?_
        refine kw_if_ne (tgt := 89) hC dX8_turn_73 rfl (by decide) (ni_r _) ⟨fun c73 => ?_, fun c73 => ?_⟩
        · refine kw_iconst hC dX8_turn_89 rfl ?_
          refine kw_goto (tgt := 94) hC dX8_turn_90 rfl (by decide) ?_
          refine kp_30_16 hC w8 f81 dX8_turn_94 rfl (by decide) (by decide) (by omega) ?_
          refine kw_hv hfS2 (by unfold fT; omega) (fun S4 hfS4 hv4 ho4 => ?_)
          exact hR9.2.2.2 rfl _ _ _ dX8_turn_97 ⟨rfl, hfS4, by rw [ho4 55 0 a (by omega)]; exact hvR, fun j hj => by rw [ho4 55 0 j (by omega)]; exact hoR j hj, by omega, by rw [hv4]; first | exact (bz_t (Or.inl (by omega))).symm | exact (bz_t (Or.inr (by assumption))).symm | exact (bz_f (fun q => q.elim (by omega) (fun z => z (by assumption)))).symm⟩
        · refine kw_lload_n hC dX8_turn_76 rfl 2 rfl ?_
          refine kw_nrl ?_
          refine kw_ldc2 (z := -1000000000000) hC dX8_turn_77 rfl l85 ?_
          refine kw_ldc2 (z := 1000000000000) hC dX8_turn_80 rfl l87 ?_
          refine kw_callS hC (d_X8_in hD (nl_r _) (by omega) (by omega)) gX8_turn_X8_in rfl ⟨rfl, rfl⟩ 3 (by decide +kernel) ⟨by decide, by decide⟩ rfl rfl (Nat.le_of_ble_eq_true rfl) dX8_turn_83 rfl (kd_ie ?_)
          refine kw_ifne_b (tgt := 93) hC dX8_turn_86 rfl (by decide) ⟨fun c86 => ?_, fun c86 => ?_⟩
          · refine kw_iconst hC dX8_turn_93 rfl ?_
            refine kp_30_16 hC w8 f81 dX8_turn_94 rfl (by decide) (by decide) (by omega) ?_
            refine kw_hv hfS2 (by unfold fT; omega) (fun S6 hfS6 hv6 ho6 => ?_)
            exact hR9.2.2.2 rfl _ _ _ dX8_turn_97 ⟨rfl, hfS6, by rw [ho6 55 0 a (by omega)]; exact hvR, fun j hj => by rw [ho6 55 0 j (by omega)]; exact hoR j hj, by omega, by rw [hv6]; first | exact (bz_t (Or.inl (by omega))).symm | exact (bz_t (Or.inr (by assumption))).symm | exact (bz_f (fun q => q.elim (by omega) (fun z => z (by assumption)))).symm⟩
          · refine kw_iconst hC dX8_turn_89 rfl ?_
            refine kw_goto (tgt := 94) hC dX8_turn_90 rfl (by decide) ?_
            refine kp_30_16 hC w8 f81 dX8_turn_94 rfl (by decide) (by decide) (by omega) ?_
            refine kw_hv hfS2 (by unfold fT; omega) (fun S7 hfS7 hv7 ho7 => ?_)
            exact hR9.2.2.2 rfl _ _ _ dX8_turn_97 ⟨rfl, hfS7, by rw [ho7 55 0 a (by omega)]; exact hvR, fun j hj => by rw [ho7 55 0 j (by omega)]; exact hoR j hj, by omega, by rw [hv7]; first | exact (bz_t (Or.inl (by omega))).symm | exact (bz_t (Or.inr (by assumption))).symm | exact (bz_f (fun q => q.elim (by omega) (fun z => z (by assumption)))).symm⟩
      · refine kw_lload_n hC dX8_turn_21 rfl 2 rfl ?_
        refine kw_iload hC dX8_turn_22 rfl 3 rfl ?_
        refine kw_iload_n hC dX8_turn_24 rfl 1 rfl ?_
        refine kw_icmp_ne (tgt := 32) hC dX8_turn_25 rfl (by decide) (by omega) (by omega) ⟨fun c25 => ?_, fun c25 => ?_⟩
        · refine kw_aload_n hC dX8_turn_32 rfl 0 rfl ?_
          refine kg_30_2 hC w8 f17 dX8_turn_33 rfl (by decide) (by decide) ?_
          refine kw_bipush hC dX8_turn_36 rfl (by decide) ?_
          refine kw_iload_n hC dX8_turn_38 rfl 1 rfl ?_
          refine kw_imul hC dX8_turn_39 rfl ?_
          refine kw_iload hC dX8_turn_40 rfl 3 rfl ?_
          refine kw_iadd hC dX8_turn_42 rfl ?_
          refine ka_42 hC dX8_turn_43 rfl (by decide) (by decide) (by omega) (by omega) ?_
          refine kw_i2l hC dX8_turn_44 rfl (by have := hRS.mt a x (by omega) (by omega) (by omega) (by omega); omega) ?_
          refine kw_aload_n hC dX8_turn_45 rfl 0 rfl ?_
          refine kg_30_15 hC w8 f77 dX8_turn_46 rfl (by decide) (by decide) ?_
          refine kw_iload hC dX8_turn_49 rfl 3 rfl ?_
          refine ka_55 hC dX8_turn_51 rfl (by decide) (by decide) (by omega) (by omega) ?_
          refine kw_lmul hC dX8_turn_52 rfl ?_
          refine kw_ladd hC dX8_turn_53 rfl ?_
          refine kw_chl (z' := tvp S a (x + 1)) (by rw [tvp_s S a hx0]; first | rw [if_pos (by omega)] | rw [if_neg (by omega)]) ?_
          refine kw_lstore_n (lv' := [(2, _), (0, _), (1, _), (4, _)]) hC dX8_turn_54 rfl (by decide) rfl ?_
          refine kw_iinc (lv' := [(4, _), (2, _), (0, _), (1, _)]) hC dX8_turn_55 rfl 3 rfl (by decide) rfl ?_
          refine kw_goto (tgt := 12) hC dX8_turn_58 rfl (by decide) ?_
          refine kw_lv [2, 3, 1, 0] rfl ?_
          exact ih12 (x + 1) (by omega) (by omega) (by omega)
        · refine kw_lconst (z := 0) hC dX8_turn_28 rfl rfl ?_
          refine kw_goto (tgt := 53) hC dX8_turn_29 rfl (by decide) ?_
          refine kw_ladd hC dX8_turn_53 rfl ?_
          refine kw_chl (z' := tvp S a (x + 1)) (by rw [tvp_s S a hx0]; first | rw [if_pos (by omega)] | rw [if_neg (by omega)]) ?_
          refine kw_lstore_n (lv' := [(2, _), (0, _), (1, _), (4, _)]) hC dX8_turn_54 rfl (by decide) rfl ?_
          refine kw_iinc (lv' := [(4, _), (2, _), (0, _), (1, _)]) hC dX8_turn_55 rfl 3 rfl (by decide) rfl ?_
          refine kw_goto (tgt := 12) hC dX8_turn_58 rfl (by decide) ?_
          refine kw_lv [2, 3, 1, 0] rfl ?_
          exact ih12 (x + 1) (by omega) (by omega) (by omega)
  refine kw_lv [2, 3, 1, 0] rfl ?_
  exact hL12 7 0 (by omega) (by omega) (by omega)

theorem WV.del {f f' : Int → Int} {m k n : Int} (h : WV f m n) (h1 : ∀ j, 0 ≤ j → j < k → f' j = f j) (h2 : ∀ j, k ≤ j → j < m - 1 → f' j = f (j + 1)) (hk : 0 ≤ k) : WV f' (m - 1) n := fun j j0 j1 => by
  by_cases e : j < k
  · rw [h1 j j0 e]; exact h j j0 (by omega)
  · rw [h2 j (by omega) j1]; exact h (j + 1) (by omega) (by omega)
theorem WV.add {f f' : Int → Int} {m n : Int} (h : WV f m n) (ho : ∀ j, j ≠ m → f' j = f j) (hv : 0 ≤ f' m ∧ f' m < n) : WV f' (m + 1) n := ext_p (fun _ z => 0 ≤ z ∧ z < n) h ho hv
theorem WV.eq {f f' : Int → Int} {m m' n n' : Int} (h : WV f m n) (hf : ∀ j, 0 ≤ j → j < m → f' j = f j) (hm : m' = m) (hn : n' = n) : WV f' m' n' := fun j j0 j1 => by
  subst hm hn
  rw [hf j j0 j1]; exact h j j0 j1

set_option maxHeartbeats 4000000 in
set_option maxRecDepth 100000 in
theorem d_X8_behind {g : wG} (hD : wD g) {S : wSt} {a : Int} (ha : -2147483648 ≤ a ∧ a ≤ 2147483647) (hRS : RI S) (hw : WV (S 47 0) (S 30 0 8) (S 30 0 0)) (m0 : 0 ≤ S 30 0 8) (m1 : S 30 0 8 ≤ 200) (hg : S 30 0 16 = 0 ∨ S 30 0 16 = 1) (l : Launch) : Kt l yX8_behind wsX8_behind ({ frames := 2, cells := 0, slots := 0, locals := 49 } : Room) g S [vr g 30 0, vi a] (pI (fun r S' => Fr fT S S' ∧ ((-1 ≤ r ∧ r < S 30 0 8) ∧ (S' 30 0 16 = 0 ∨ S' 30 0 16 = 1) ∧ ∀ L, RLi (mxz (S 42 0)) (S 30 0 0).toNat L → 0 ≤ a → a < S 30 0 0 → S 30 0 16 = 0 → S' 30 0 16 = 0 ∧ (r < 0 → NB (mxz (S 42 0)) (S 30 0 0).toNat (wl (S 47 0) (S 30 0 8).toNat) a.toNat)))) := by
  refine Kt.of (cc := cX8_behind) (nL := 3) (ret := (some .int)) (own := RX8) rfl hD (by decide) rfl (Nat.le_of_ble_eq_true rfl) ⟨rfl, rfl⟩ ?_
  intro E hC hR9
  have f81 : Cond.fieldLink RX8 81 "MirrorBenchModel" "isGreat" "Z" ∈ wsX8_behind := by decide +kernel
  have f92 : Cond.fieldLink RX8 92 "MirrorBenchModel" "rMany" "I" ∈ wsX8_behind := by decide +kernel
  have f95 : Cond.fieldLink RX8 95 "MirrorBenchModel" "r" "[I" ∈ wsX8_behind := by decide +kernel
  have w8 : ∀ w ∈ wsX80, w ∈ wsX8_behind := by decide +kernel
  show Wk E g 3 S 0 [(0, vr g 30 0), (1, vi a)] []
  have hfS : Fr fT S S := Fr.rfl _ S
  have hRS := hRS.fr (hfS.mono (fun k i j h => by unfold fT at h; unfold tR; omega))
  have hnS := hRS.n
  have enS : S 30 0 0 = S 30 0 0 := hfS 30 0 0 (by unfold fT; omega)
  refine kw_aload_n hC dX8_behind_0 rfl 0 rfl ?_
  refine kw_iload_n hC dX8_behind_1 rfl 1 rfl ?_
  refine kw_callV hC (d_X8_own hD ha) gX8_behind_X8_own ⟨_, rfl⟩ rfl (by decide) (by decide) rfl ⟨rfl, rfl⟩ 1 (by decide +kernel) ⟨by decide, by decide⟩ rfl rfl (Nat.le_of_ble_eq_true rfl) dX8_behind_2 rfl (kd_v (fun S1 hp1 => ?_))
  obtain ⟨hg1, hp1⟩ := hp1
  have hfS1 : Fr fT S S1 := hfS.trans (hg1.mono (fun k i j h => by unfold fO at h; unfold fT; omega))
  have hRS1 := hRS.fr (hfS1.mono (fun k i j h => by unfold fT at h; unfold tR; omega))
  have hnS1 := hRS1.n
  have enS1 : S1 30 0 0 = S 30 0 0 := hfS1 30 0 0 (by unfold fT; omega)
  refine kw_aload_n hC dX8_behind_5 rfl 0 rfl ?_
  refine kg_30_8 hC w8 f92 dX8_behind_6 rfl (by decide) (by decide) ?_
  refine kw_chi (z' := S 30 0 8) (hg1 30 0 8 (by unfold fO; omega)) ?_
  refine kw_iconst hC dX8_behind_9 rfl ?_
  refine kw_isub hC dX8_behind_10 rfl ?_
  refine kw_istore_n (lv' := [(2, _), (0, _), (1, _)]) hC dX8_behind_11 rfl (by decide) rfl ?_
  have hL12 : ∀ (n12 : Nat) (x : Int) (W12 : wSt), Fr fT S W12 → (-1 ≤ x) → (x < S 30 0 8) → (W12 30 0 16 = 0 ∨ W12 30 0 16 = 1) → (T2 S W12 a x) → x + 1 < (n12 : Int) → Wk E g 3 W12 12 [(0, vr g 30 0), (1, vi a), (2, vi x)] [] := by
    intro n12
    induction n12 with
    | zero => intro x W12 hfW12 hx0 hx1 hgw hT hm12; exact absurd hm12 (by omega)
    | succ n12 ih12 =>
      intro x W12 hfW12 hx0 hx1 hgw hT hm12
      have hRW12 := hRS.fr (hfW12.mono (fun k i j h => by unfold fT at h; unfold tR; omega))
      have hnW12 := hRW12.n
      have enW12 : W12 30 0 0 = S 30 0 0 := hfW12 30 0 0 (by unfold fT; omega)
      have e47 : ∀ j, W12 47 0 j = S 47 0 j := fun j => hfW12 47 0 j (by unfold fT; omega)
      refine kw_iload_n hC dX8_behind_12 rfl 2 rfl ?_
      refine kw_if_lt (tgt := 56) hC dX8_behind_13 rfl (by decide) (by omega) ⟨fun c13 => ?_, fun c13 => ?_⟩
      · refine kw_iconst hC dX8_behind_56 rfl ?_
        obtain rfl : x = -1 := by omega
        exact hR9.1 rfl _ _ _ _ dX8_behind_57 ⟨_, rfl, hfW12, ⟨by omega, by omega⟩, hgw, fun L hL a0 a1 hz => by obtain ⟨g1, g2⟩ := T2_end hT L hL a0 a1 hz; exact ⟨g1, fun _ => g2⟩⟩
      · refine kw_aload_n hC dX8_behind_16 rfl 0 rfl ?_
        refine kw_aload_n hC dX8_behind_17 rfl 0 rfl ?_
        refine kg_30_7 hC w8 f95 dX8_behind_18 rfl (by decide) (by decide) ?_
        refine kw_iload_n hC dX8_behind_21 rfl 2 rfl ?_
        refine ka_47 hC dX8_behind_22 rfl (by decide) (by decide) (by omega) (by omega) ?_
        refine kw_chi (z' := S 47 0 x) (e47 x) ?_
        have hr := hw x (by omega) (by omega)
        refine kw_callV hC (d_X8_isOwn hD (by omega) (by omega) (by omega)) gX8_behind_X8_isOwn ⟨_, rfl⟩ rfl (by decide) (by decide) rfl ⟨rfl, rfl⟩ 1 (by decide +kernel) ⟨by decide, by decide⟩ rfl rfl (Nat.le_of_ble_eq_true rfl) dX8_behind_23 rfl (kd_ie ?_)
        refine kw_ifeq_b (tgt := 31) hC dX8_behind_26 rfl (by decide) ⟨fun c26 => ?_, fun c26 => ?_⟩
        · refine kw_aload_n hC dX8_behind_31 rfl 0 rfl ?_
          refine kw_aload_n hC dX8_behind_32 rfl 0 rfl ?_
          refine kg_30_7 hC w8 f95 dX8_behind_33 rfl (by decide) (by decide) ?_
          refine kw_iload_n hC dX8_behind_36 rfl 2 rfl ?_
          refine ka_47 hC dX8_behind_37 rfl (by decide) (by decide) (by omega) (by omega) ?_
          refine kw_chi (z' := S 47 0 x) (e47 x) ?_
          refine kw_callV hC (d_X8_turn hD (by omega) (by omega) hRW12) gX8_behind_X8_turn ⟨_, rfl⟩ rfl (by decide) (by decide) rfl ⟨rfl, rfl⟩ 1 (by decide +kernel) ⟨by decide, by decide⟩ rfl rfl (Nat.le_of_ble_eq_true rfl) dX8_behind_38 rfl (kd_v (fun S4 hp4 => ?_))
          obtain ⟨hg4, hp4⟩ := hp4
          have hfS4 : Fr fT S S4 := hfW12.trans hg4
          have hRS4 := hRS.fr (hfS4.mono (fun k i j h => by unfold fT at h; unfold tR; omega))
          have hnS4 := hRS4.n
          have enS4 : S4 30 0 0 = S 30 0 0 := hfS4 30 0 0 (by unfold fT; omega)
          obtain ⟨hv9, ho9, hgw2, hb9⟩ := hp4
          have hT2 := T2_step hT hRS hw (by omega) (by omega) (funext fun j => hfW12 42 0 j (by unfold fT; omega)) (hfW12 30 0 0 (by unfold fT; omega)) c26 hv9 ho9 hb9
          refine kw_aload_n hC dX8_behind_41 rfl 0 rfl ?_
          refine kg_30_16 hC w8 f81 dX8_behind_42 rfl (by decide) (by decide) ?_
          refine kw_if_eq (tgt := 50) hC dX8_behind_45 rfl (by decide) (by omega) ⟨fun c45 => ?_, fun c45 => ?_⟩
          · refine kw_iinc (lv' := [(2, _), (0, _), (1, _)]) hC dX8_behind_50 rfl 2 rfl (by decide) rfl ?_
            refine kw_goto (tgt := 12) hC dX8_behind_53 rfl (by decide) ?_
            refine kw_lv [1, 2, 0] rfl ?_
            exact ih12 (x + -1) S4 hfS4 (by omega) (by omega) (by omega) (by rw [show x + -1 = x - 1 by omega]; exact hT2) (by omega)
          · refine kw_iconst hC dX8_behind_48 rfl ?_
            exact hR9.1 rfl _ _ _ _ dX8_behind_49 ⟨_, rfl, hfS4, ⟨by omega, by omega⟩, hgw2, fun L hL a0 a1 hz => absurd (hT2 L hL a0 a1 hz).1 (by omega)⟩
        · refine kw_iload_n hC dX8_behind_29 rfl 2 rfl ?_
          exact hR9.1 rfl _ _ _ _ dX8_behind_30 ⟨_, rfl, hfW12, ⟨by omega, by omega⟩, hgw, fun L hL a0 a1 hz => ⟨(hT L hL a0 a1 hz).1, fun q => absurd q (by omega)⟩⟩
  refine kw_lv [1, 2, 0] rfl ?_
  exact hL12 201 (S 30 0 8 - 1) S1 hfS1 (by omega) (by omega) (by have e16 := hg1 30 0 16 (by unfold fO; omega); omega) (T2_start m0 (hg1 30 0 16 (by unfold fO; omega)) hp1 hRS.n) (by omega)

set_option maxHeartbeats 4000000 in
set_option maxRecDepth 100000 in
theorem d_X8_ahead {g : wG} (hD : wD g) {S : wSt} {a : Int} (ha : -2147483648 ≤ a ∧ a ≤ 2147483647) (hRS : RI S) (hw : WV (S 47 0) (S 30 0 8) (S 30 0 0)) (m0 : 0 ≤ S 30 0 8) (m1 : S 30 0 8 ≤ 200) (hg : S 30 0 16 = 0 ∨ S 30 0 16 = 1) (l : Launch) : Kt l yX8_ahead wsX8_ahead ({ frames := 2, cells := 0, slots := 0, locals := 49 } : Room) g S [vr g 30 0, vi a] (pI (fun r S' => Fr fT S S' ∧ ((-1 ≤ r ∧ r < S 30 0 8) ∧ (S' 30 0 16 = 0 ∨ S' 30 0 16 = 1)))) := by
  refine Kt.of (cc := cX8_ahead) (nL := 3) (ret := (some .int)) (own := RX8) rfl hD (by decide) rfl (Nat.le_of_ble_eq_true rfl) ⟨rfl, rfl⟩ ?_
  intro E hC hR9
  have f81 : Cond.fieldLink RX8 81 "MirrorBenchModel" "isGreat" "Z" ∈ wsX8_ahead := by decide +kernel
  have f92 : Cond.fieldLink RX8 92 "MirrorBenchModel" "rMany" "I" ∈ wsX8_ahead := by decide +kernel
  have f95 : Cond.fieldLink RX8 95 "MirrorBenchModel" "r" "[I" ∈ wsX8_ahead := by decide +kernel
  have w8 : ∀ w ∈ wsX80, w ∈ wsX8_ahead := by decide +kernel
  show Wk E g 3 S 0 [(0, vr g 30 0), (1, vi a)] []
  have hfS : Fr fT S S := Fr.rfl _ S
  have hRS := hRS.fr (hfS.mono (fun k i j h => by unfold fT at h; unfold tR; omega))
  have hnS := hRS.n
  have enS : S 30 0 0 = S 30 0 0 := hfS 30 0 0 (by unfold fT; omega)
  refine kw_aload_n hC dX8_ahead_0 rfl 0 rfl ?_
  refine kw_iload_n hC dX8_ahead_1 rfl 1 rfl ?_
  refine kw_callV hC (d_X8_own hD ha) gX8_ahead_X8_own ⟨_, rfl⟩ rfl (by decide) (by decide) rfl ⟨rfl, rfl⟩ 1 (by decide +kernel) ⟨by decide, by decide⟩ rfl rfl (Nat.le_of_ble_eq_true rfl) dX8_ahead_2 rfl (kd_v (fun S1 hp1 => ?_))
  obtain ⟨hg1, hp1⟩ := hp1
  have hfS1 : Fr fT S S1 := hfS.trans (hg1.mono (fun k i j h => by unfold fO at h; unfold fT; omega))
  have hRS1 := hRS.fr (hfS1.mono (fun k i j h => by unfold fT at h; unfold tR; omega))
  have hnS1 := hRS1.n
  have enS1 : S1 30 0 0 = S 30 0 0 := hfS1 30 0 0 (by unfold fT; omega)
  refine kw_iconst hC dX8_ahead_5 rfl ?_
  refine kw_istore_n (lv' := [(2, _), (0, _), (1, _)]) hC dX8_ahead_6 rfl (by decide) rfl ?_
  have hL7 : ∀ (n7 : Nat) (x : Int) (W7 : wSt), Fr fT S W7 → (0 ≤ x) → (x ≤ S 30 0 8) → (W7 30 0 16 = 0 ∨ W7 30 0 16 = 1) → S 30 0 8 - x < (n7 : Int) → Wk E g 3 W7 7 [(0, vr g 30 0), (1, vi a), (2, vi x)] [] := by
    intro n7
    induction n7 with
    | zero => intro x W7 hfW7 hx0 hx1 hgw hm7; exact absurd hm7 (by omega)
    | succ n7 ih7 =>
      intro x W7 hfW7 hx0 hx1 hgw hm7
      have hRW7 := hRS.fr (hfW7.mono (fun k i j h => by unfold fT at h; unfold tR; omega))
      have hnW7 := hRW7.n
      have enW7 : W7 30 0 0 = S 30 0 0 := hfW7 30 0 0 (by unfold fT; omega)
      have e47 : ∀ j, W7 47 0 j = S 47 0 j := fun j => hfW7 47 0 j (by unfold fT; omega)
      have e8 : W7 30 0 8 = S 30 0 8 := hfW7 30 0 8 (by unfold fT; omega)
      refine kw_iload_n hC dX8_ahead_7 rfl 2 rfl ?_
      refine kw_aload_n hC dX8_ahead_8 rfl 0 rfl ?_
      refine kg_30_8 hC w8 f92 dX8_ahead_9 rfl (by decide) (by decide) ?_
      refine kw_icmp_ge (tgt := 55) hC dX8_ahead_12 rfl (by decide) (by omega) (by omega) ⟨fun c12 => ?_, fun c12 => ?_⟩
      · refine kw_iconst hC dX8_ahead_55 rfl ?_
        exact hR9.1 rfl _ _ _ _ dX8_ahead_56 ⟨_, rfl, hfW7, ⟨by omega, by omega⟩, hgw⟩
      · refine kw_aload_n hC dX8_ahead_15 rfl 0 rfl ?_
        refine kw_aload_n hC dX8_ahead_16 rfl 0 rfl ?_
        refine kg_30_7 hC w8 f95 dX8_ahead_17 rfl (by decide) (by decide) ?_
        refine kw_iload_n hC dX8_ahead_20 rfl 2 rfl ?_
        refine ka_47 hC dX8_ahead_21 rfl (by decide) (by decide) (by omega) (by omega) ?_
        refine kw_chi (z' := S 47 0 x) (e47 x) ?_
        have hr := hw x (by omega) (by omega)
        refine kw_callV hC (d_X8_isOwn hD (by omega) (by omega) (by omega)) gX8_ahead_X8_isOwn ⟨_, rfl⟩ rfl (by decide) (by decide) rfl ⟨rfl, rfl⟩ 1 (by decide +kernel) ⟨by decide, by decide⟩ rfl rfl (Nat.le_of_ble_eq_true rfl) dX8_ahead_22 rfl (kd_ie ?_)
        refine kw_ifeq_b (tgt := 30) hC dX8_ahead_25 rfl (by decide) ⟨fun c25 => ?_, fun c25 => ?_⟩
        · refine kw_aload_n hC dX8_ahead_30 rfl 0 rfl ?_
          refine kw_aload_n hC dX8_ahead_31 rfl 0 rfl ?_
          refine kg_30_7 hC w8 f95 dX8_ahead_32 rfl (by decide) (by decide) ?_
          refine kw_iload_n hC dX8_ahead_35 rfl 2 rfl ?_
          refine ka_47 hC dX8_ahead_36 rfl (by decide) (by decide) (by omega) (by omega) ?_
          refine kw_chi (z' := S 47 0 x) (e47 x) ?_
          refine kw_callV hC (d_X8_turn hD (by omega) (by omega) hRW7) gX8_ahead_X8_turn ⟨_, rfl⟩ rfl (by decide) (by decide) rfl ⟨rfl, rfl⟩ 1 (by decide +kernel) ⟨by decide, by decide⟩ rfl rfl (Nat.le_of_ble_eq_true rfl) dX8_ahead_37 rfl (kd_v (fun S4 hp4 => ?_))
          obtain ⟨hg4, hp4⟩ := hp4
          have hfS4 : Fr fT S S4 := hfW7.trans hg4
          have hRS4 := hRS.fr (hfS4.mono (fun k i j h => by unfold fT at h; unfold tR; omega))
          have hnS4 := hRS4.n
          have enS4 : S4 30 0 0 = S 30 0 0 := hfS4 30 0 0 (by unfold fT; omega)
          obtain ⟨hv9, ho9, hgw2, hb9⟩ := hp4
          refine kw_aload_n hC dX8_ahead_40 rfl 0 rfl ?_
          refine kg_30_16 hC w8 f81 dX8_ahead_41 rfl (by decide) (by decide) ?_
          refine kw_if_eq (tgt := 49) hC dX8_ahead_44 rfl (by decide) (by omega) ⟨fun c44 => ?_, fun c44 => ?_⟩
          · refine kw_iinc (lv' := [(2, _), (0, _), (1, _)]) hC dX8_ahead_49 rfl 2 rfl (by decide) rfl ?_
            refine kw_goto (tgt := 7) hC dX8_ahead_52 rfl (by decide) ?_
            refine kw_lv [1, 2, 0] rfl ?_
            exact ih7 (x + 1) S4 hfS4 (by omega) (by omega) (by omega) (by omega)
          · refine kw_iconst hC dX8_ahead_47 rfl ?_
            exact hR9.1 rfl _ _ _ _ dX8_ahead_48 ⟨_, rfl, hfS4, ⟨by omega, by omega⟩, hgw2⟩
        · refine kw_iload_n hC dX8_ahead_28 rfl 2 rfl ?_
          exact hR9.1 rfl _ _ _ _ dX8_ahead_29 ⟨_, rfl, hfW7, ⟨by omega, by omega⟩, hgw⟩
  refine kw_lv [1, 2, 0] rfl ?_
  exact hL7 201 0 S1 hfS1 (by omega) (by omega) (by have e16 := hg1 30 0 16 (by unfold fO; omega); omega) (by omega)

def fG (k : Nat) (i j : Int) : Prop := k = 47 ∨ (k = 30 ∧ j = 8)

set_option maxHeartbeats 4000000 in
set_option maxRecDepth 100000 in
theorem d_X8_goesFromR {g : wG} (hD : wD g) {S : wSt} {a : Int} (a0 : 0 ≤ a) (a1 : a < S 30 0 8) (m1 : S 30 0 8 ≤ 200) (l : Launch) : Kt l yX8_goesFromR wsX8_goesFromR ({ frames := 0, cells := 0, slots := 0, locals := 0 } : Room) g S [vr g 30 0, vi a] (pV (fun S' => Fr fG S S' ∧ (S' 30 0 8 = S 30 0 8 - 1 ∧ (∀ j, 0 ≤ j → j < a → S' 47 0 j = S 47 0 j) ∧ (∀ j, a ≤ j → j < S 30 0 8 - 1 → S' 47 0 j = S 47 0 (j + 1))))) := by
  refine Kt.of (cc := cX8_goesFromR) (nL := 3) (ret := none) (own := RX8) rfl hD (by decide) rfl (Nat.le_of_ble_eq_true rfl) ⟨rfl, rfl⟩ ?_
  intro E hC hR9
  have f92 : Cond.fieldLink RX8 92 "MirrorBenchModel" "rMany" "I" ∈ wsX8_goesFromR := by decide +kernel
  have f95 : Cond.fieldLink RX8 95 "MirrorBenchModel" "r" "[I" ∈ wsX8_goesFromR := by decide +kernel
  have w8 : ∀ w ∈ wsX80, w ∈ wsX8_goesFromR := by decide +kernel
  show Wk E g 3 S 0 [(0, vr g 30 0), (1, vi a)] []
  have hfS : Fr fG S S := Fr.rfl _ S
  refine kw_iload_n hC dX8_goesFromR_0 rfl 1 rfl ?_
  refine kw_istore_n (lv' := [(2, _), (0, _), (1, _)]) hC dX8_goesFromR_1 rfl (by decide) rfl ?_
  have hL2 : ∀ (n2 : Nat) (x : Int) (W2 : wSt), Fr fG S W2 → (a ≤ x) → (x ≤ S 30 0 8 - 1) → (W2 30 0 8 = S 30 0 8) → (∀ j, 0 ≤ j → j < a → W2 47 0 j = S 47 0 j) → (∀ j, a ≤ j → j < x → W2 47 0 j = S 47 0 (j + 1)) → (∀ j, x ≤ j → W2 47 0 j = S 47 0 j) → S 30 0 8 - 1 - x < (n2 : Int) → Wk E g 3 W2 2 [(0, vr g 30 0), (1, vi a), (2, vi x)] [] := by
    intro n2
    induction n2 with
    | zero => intro x W2 hfW2 hx0 hx1 h8 h3 h4 h5 hm2; exact absurd hm2 (by omega)
    | succ n2 ih2 =>
      intro x W2 hfW2 hx0 hx1 h8 h3 h4 h5 hm2
      refine kw_iload_n hC dX8_goesFromR_2 rfl 2 rfl ?_
      refine kw_iconst hC dX8_goesFromR_3 rfl ?_
      refine kw_iadd hC dX8_goesFromR_4 rfl ?_
      refine kw_aload_n hC dX8_goesFromR_5 rfl 0 rfl ?_
      refine kg_30_8 hC w8 f92 dX8_goesFromR_6 rfl (by decide) (by decide) ?_
      refine kw_icmp_ge (tgt := 32) hC dX8_goesFromR_9 rfl (by decide) (by omega) (by omega) ⟨fun c9 => ?_, fun c9 => ?_⟩
      · refine kw_aload_n hC dX8_goesFromR_32 rfl 0 rfl ?_
        refine kw_dup hC dX8_goesFromR_33 rfl rfl ?_
        refine kg_30_8 hC w8 f92 dX8_goesFromR_34 rfl (by decide) (by decide) ?_
        refine kw_iconst hC dX8_goesFromR_37 rfl ?_
        refine kw_isub hC dX8_goesFromR_38 rfl ?_
        refine kp_30_8 hC w8 f92 dX8_goesFromR_39 rfl (by decide) (by decide) ?_
        refine kw_hv hfW2 (by unfold fG; omega) (fun S2 hfS2 hv2 ho2 => ?_)
        exact hR9.2.2.2 rfl _ _ _ dX8_goesFromR_42 ⟨rfl, hfS2, by rw [hv2]; omega, fun j j0 j1 => by rw [ho2 47 0 j (by omega)]; exact h3 j j0 j1, fun j j0 j1 => by rw [ho2 47 0 j (by omega)]; exact h4 j j0 (by omega)⟩
      · refine kw_aload_n hC dX8_goesFromR_12 rfl 0 rfl ?_
        refine kg_30_7 hC w8 f95 dX8_goesFromR_13 rfl (by decide) (by decide) ?_
        refine kw_iload_n hC dX8_goesFromR_16 rfl 2 rfl ?_
        refine kw_aload_n hC dX8_goesFromR_17 rfl 0 rfl ?_
        refine kg_30_7 hC w8 f95 dX8_goesFromR_18 rfl (by decide) (by decide) ?_
        refine kw_iload_n hC dX8_goesFromR_21 rfl 2 rfl ?_
        refine kw_iconst hC dX8_goesFromR_22 rfl ?_
        refine kw_iadd hC dX8_goesFromR_23 rfl ?_
        refine ka_47 hC dX8_goesFromR_24 rfl (by decide) (by decide) (by omega) (by omega) ?_
        refine ks_47 hC dX8_goesFromR_25 rfl (by decide) (by decide) (by omega) (by omega) ?_
        refine kw_hv hfW2 (by unfold fG; omega) (fun S3 hfS3 hv3 ho3 => ?_)
        refine kw_iinc (lv' := [(2, _), (0, _), (1, _)]) hC dX8_goesFromR_26 rfl 2 rfl (by decide) rfl ?_
        refine kw_goto (tgt := 2) hC dX8_goesFromR_29 rfl (by decide) ?_
        refine kw_lv [1, 2, 0] rfl ?_
        exact ih2 (x + 1) S3 hfS3 (by omega) (by omega) (by rw [ho3 30 0 8 (by omega)]; exact h8) (fun j j0 j1 => by rw [ho3 47 0 j (by omega)]; exact h3 j j0 j1) (fun j j0 j1 => by rcases Decidable.em (j = x) with e | e; exact (by rw [e, hv3]; exact h5 (x + 1) (by omega)); exact (by rw [ho3 47 0 j (by omega)]; exact h4 j j0 (by omega))) (fun j j0 => by rw [ho3 47 0 j (by omega)]; exact h5 j (by omega)) (by omega)
  refine kw_lv [1, 2, 0] rfl ?_
  exact hL2 201 a S hfS (by omega) (by omega) rfl (fun _ _ _ => rfl) (fun j _ _ => by omega) (fun _ _ => rfl) (by omega)

def fS (k : Nat) (i j : Int) : Prop := k = 55 ∨ k = 47 ∨ (k = 30 ∧ (j = 16 ∨ j = 8))

set_option maxHeartbeats 4000000 in
set_option maxRecDepth 100000 in
theorem d_X8_shortOf {g : wG} (hD : wD g) {S : wSt} (hRS : RI S) (hw : WV (S 53 0) (S 30 0 14) (S 30 0 0)) (m0 : 0 ≤ S 30 0 14) (m1 : S 30 0 14 ≤ 200) (l : Launch) : Kt l yX8_shortOf wsX8_shortOf ({ frames := 3, cells := 0, slots := 0, locals := 71 } : Room) g S [vr g 30 0] (pI (fun r S' => Fr fS S S' ∧ ((r = 0 ∨ r = 1) ∧ (0 ≤ S' 30 0 8 ∧ S' 30 0 8 ≤ S 30 0 14) ∧ WV (S' 47 0) (S' 30 0 8) (S 30 0 0) ∧ (S' 30 0 16 = 0 ∨ S' 30 0 16 = 1)))) := by
  refine Kt.of (cc := cX8_shortOf) (nL := 3) (ret := (some .boolean)) (own := RX8) rfl hD (by decide) rfl (Nat.le_of_ble_eq_true rfl) ⟨rfl, rfl⟩ ?_
  intro E hC hR9
  have f57 : Cond.fieldLink RX8 57 "MirrorBenchModel" "wMany" "I" ∈ wsX8_shortOf := by decide +kernel
  have f60 : Cond.fieldLink RX8 60 "MirrorBenchModel" "w" "[I" ∈ wsX8_shortOf := by decide +kernel
  have f81 : Cond.fieldLink RX8 81 "MirrorBenchModel" "isGreat" "Z" ∈ wsX8_shortOf := by decide +kernel
  have f92 : Cond.fieldLink RX8 92 "MirrorBenchModel" "rMany" "I" ∈ wsX8_shortOf := by decide +kernel
  have f95 : Cond.fieldLink RX8 95 "MirrorBenchModel" "r" "[I" ∈ wsX8_shortOf := by decide +kernel
  have w8 : ∀ w ∈ wsX80, w ∈ wsX8_shortOf := by decide +kernel
  show Wk E g 3 S 0 [(0, vr g 30 0)] []
  have hfS : Fr fS S S := Fr.rfl _ S
  have hRS := hRS.fr (hfS.mono (fun k i j h => by unfold fS at h; unfold tR; omega))
  have hnS := hRS.n
  have enS : S 30 0 0 = S 30 0 0 := hfS 30 0 0 (by unfold fS; omega)
  refine kw_aload_n hC dX8_shortOf_0 rfl 0 rfl ?_
  refine kw_iconst hC dX8_shortOf_1 rfl ?_
  refine kp_30_16 hC w8 f81 dX8_shortOf_2 rfl (by decide) (by decide) (by omega) ?_
  refine kw_hv hfS (by unfold fS; omega) (fun S1 hfS1 hv1 ho1 => ?_)
  have hRS1 := hRS.fr (hfS1.mono (fun k i j h => by unfold fS at h; unfold tR; omega))
  have hnS1 := hRS1.n
  have enS1 : S1 30 0 0 = S 30 0 0 := hfS1 30 0 0 (by unfold fS; omega)
  refine kw_aload_n hC dX8_shortOf_5 rfl 0 rfl ?_
  refine kw_iconst hC dX8_shortOf_6 rfl ?_
  refine kp_30_8 hC w8 f92 dX8_shortOf_7 rfl (by decide) (by decide) ?_
  refine kw_hv hfS1 (by unfold fS; omega) (fun S2 hfS2 hv2 ho2 => ?_)
  have hRS2 := hRS.fr (hfS2.mono (fun k i j h => by unfold fS at h; unfold tR; omega))
  have hnS2 := hRS2.n
  have enS2 : S2 30 0 0 = S 30 0 0 := hfS2 30 0 0 (by unfold fS; omega)
  refine kw_iconst hC dX8_shortOf_10 rfl ?_
  refine kw_istore_n (lv' := [(1, _), (0, _)]) hC dX8_shortOf_11 rfl (by decide) rfl ?_
  have hL12 : ∀ (n12 : Nat) (x : Int) (W12 : wSt), Fr fS S W12 → (0 ≤ x) → (x ≤ S 30 0 14) → (0 ≤ W12 30 0 8) → (W12 30 0 8 ≤ x) → (WV (W12 47 0) (W12 30 0 8) (S 30 0 0)) → (W12 30 0 16 = 0 ∨ W12 30 0 16 = 1) → S 30 0 14 - x < (n12 : Int) → Wk E g 3 W12 12 [(0, vr g 30 0), (1, vi x)] [] := by
    intro n12
    induction n12 with
    | zero => intro x W12 hfW12 hx0 hx1 r0 r1 hr hgw hm12; exact absurd hm12 (by omega)
    | succ n12 ih12 =>
      intro x W12 hfW12 hx0 hx1 r0 r1 hr hgw hm12
      have hRW12 := hRS.fr (hfW12.mono (fun k i j h => by unfold fS at h; unfold tR; omega))
      have hnW12 := hRW12.n
      have enW12 : W12 30 0 0 = S 30 0 0 := hfW12 30 0 0 (by unfold fS; omega)
      have e53 : ∀ j, W12 53 0 j = S 53 0 j := fun j => hfW12 53 0 j (by unfold fS; omega)
      have e14 : W12 30 0 14 = S 30 0 14 := hfW12 30 0 14 (by unfold fS; omega)
      refine kw_iload_n hC dX8_shortOf_12 rfl 1 rfl ?_
      refine kw_aload_n hC dX8_shortOf_13 rfl 0 rfl ?_
      refine kg_30_14 hC w8 f57 dX8_shortOf_14 rfl (by decide) (by decide) ?_
      refine kw_icmp_ge (tgt := 83) hC dX8_shortOf_17 rfl (by decide) (by omega) (by omega) ⟨fun c17 => ?_, fun c17 => ?_⟩
      · refine kw_iconst hC dX8_shortOf_83 rfl ?_
        exact hR9.2.1 rfl _ _ _ _ dX8_shortOf_84 (by omega) ⟨_, rfl, hfW12, by omega, ⟨by omega, by omega⟩, hr, hgw⟩
      · refine kw_aload_n hC dX8_shortOf_20 rfl 0 rfl ?_
        refine kw_aload_n hC dX8_shortOf_21 rfl 0 rfl ?_
        refine kg_30_13 hC w8 f60 dX8_shortOf_22 rfl (by decide) (by decide) ?_
        refine kw_iload_n hC dX8_shortOf_25 rfl 1 rfl ?_
        refine ka_53 hC dX8_shortOf_26 rfl (by decide) (by decide) (by omega) (by omega) ?_
        refine kw_chi (z' := S 53 0 x) (e53 x) ?_
        have hl := hw x (by omega) (by omega)
        refine kw_callV hC (d_X8_behind hD (by omega) hRW12 (hr.eq (fun _ _ _ => rfl) rfl enW12) (by omega) (by omega) hgw) gX8_shortOf_X8_behind ⟨_, rfl⟩ rfl (by decide) (by decide) rfl ⟨rfl, rfl⟩ 1 (by decide +kernel) ⟨by decide, by decide⟩ rfl rfl (Nat.le_of_ble_eq_true rfl) dX8_shortOf_27 rfl (kd_i (fun r4 S4 hp4 => ?_))
        obtain ⟨hg4, hp4⟩ := hp4
        have hfS4 : Fr fS S S4 := hfW12.trans (hg4.mono (fun k i j h => by unfold fT at h; unfold fS; omega))
        have hRS4 := hRS.fr (hfS4.mono (fun k i j h => by unfold fS at h; unfold tR; omega))
        have hnS4 := hRS4.n
        have enS4 : S4 30 0 0 = S 30 0 0 := hfS4 30 0 0 (by unfold fS; omega)
        obtain ⟨⟨hk0, hk1⟩, hg9, -⟩ := hp4
        have e8 : S4 30 0 8 = W12 30 0 8 := hg4 30 0 8 (by unfold fT; omega)
        have e47 : ∀ j, S4 47 0 j = W12 47 0 j := fun j => hg4 47 0 j (by unfold fT; omega)
        have hr8 : WV (S4 47 0) (S4 30 0 8) (S 30 0 0) := hr.eq (fun j _ _ => e47 j) e8 rfl
        refine kw_istore_n (lv' := [(2, _), (0, _), (1, _)]) hC dX8_shortOf_30 rfl (by decide) rfl ?_
        refine kw_aload_n hC dX8_shortOf_31 rfl 1 rfl ?_
        refine kg_30_16 hC w8 f81 dX8_shortOf_32 rfl (by decide) (by decide) ?_
        refine kw_if_eq (tgt := 40) hC dX8_shortOf_35 rfl (by decide) (by omega) ⟨fun c35 => ?_, fun c35 => ?_⟩
        · refine kw_iload_n hC dX8_shortOf_40 rfl 0 rfl ?_
          refine kw_if_lt (tgt := 52) hC dX8_shortOf_41 rfl (by decide) (by omega) ⟨fun c41 => ?_, fun c41 => ?_⟩
          · refine kw_aload_n hC dX8_shortOf_52 rfl 1 rfl ?_
            refine kg_30_7 hC w8 f95 dX8_shortOf_53 rfl (by decide) (by decide) ?_
            refine kw_aload_n hC dX8_shortOf_56 rfl 1 rfl ?_
            refine kg_30_8 hC w8 f92 dX8_shortOf_57 rfl (by decide) (by decide) ?_
            refine kw_aload_n hC dX8_shortOf_60 rfl 1 rfl ?_
            refine kg_30_13 hC w8 f60 dX8_shortOf_61 rfl (by decide) (by decide) ?_
            refine kw_iload_n hC dX8_shortOf_64 rfl 2 rfl ?_
            refine ka_53 hC dX8_shortOf_65 rfl (by decide) (by decide) (by omega) (by omega) ?_
            refine kw_chi (z' := S 53 0 x) (hfS4 53 0 x (by unfold fS; omega)) ?_
            refine ks_47 hC dX8_shortOf_66 rfl (by decide) (by decide) (by omega) (by omega) ?_
            refine kw_hv hfS4 (by unfold fS; omega) (fun S7 hfS7 hv7 ho7 => ?_)
            have hRS7 := hRS.fr (hfS7.mono (fun k i j h => by unfold fS at h; unfold tR; omega))
            have hnS7 := hRS7.n
            have enS7 : S7 30 0 0 = S 30 0 0 := hfS7 30 0 0 (by unfold fS; omega)
            have q8 : S7 30 0 8 = S4 30 0 8 := ho7 30 0 8 (by omega)
            have q16 : S7 30 0 16 = S4 30 0 16 := ho7 30 0 16 (by omega)
            have hr7 : WV (S7 47 0) (S4 30 0 8 + 1) (S 30 0 0) := hr8.add (fun j hj => ho7 47 0 j (by omega)) (by rw [hv7]; omega)
            refine kw_aload_n hC dX8_shortOf_67 rfl 1 rfl ?_
            refine kw_dup hC dX8_shortOf_68 rfl rfl ?_
            refine kg_30_8 hC w8 f92 dX8_shortOf_69 rfl (by decide) (by decide) ?_
            refine kw_iconst hC dX8_shortOf_72 rfl ?_
            refine kw_iadd hC dX8_shortOf_73 rfl ?_
            refine kp_30_8 hC w8 f92 dX8_shortOf_74 rfl (by decide) (by decide) ?_
            refine kw_hv hfS7 (by unfold fS; omega) (fun S8 hfS8 hv8 ho8 => ?_)
            have hRS8 := hRS.fr (hfS8.mono (fun k i j h => by unfold fS at h; unfold tR; omega))
            have hnS8 := hRS8.n
            have enS8 : S8 30 0 0 = S 30 0 0 := hfS8 30 0 0 (by unfold fS; omega)
            have hr9 : WV (S8 47 0) (S8 30 0 8) (S 30 0 0) := hr7.eq (fun j _ _ => ho8 47 0 j (by omega)) (by rw [hv8, q8]) rfl
            have hgx : S8 30 0 16 = S7 30 0 16 := ho8 30 0 16 (by omega)
            have hz := hv8
            refine kw_iinc (lv' := [(1, _), (2, _), (0, _)]) hC dX8_shortOf_77 rfl 2 rfl (by decide) rfl ?_
            refine kw_goto (tgt := 12) hC dX8_shortOf_80 rfl (by decide) ?_
            refine kw_lv [2, 0] rfl ?_
            exact ih12 (x + 1) S8 hfS8 (by omega) (by omega) (by omega) (by omega) hr9 (by omega) (by omega)
          · refine kw_aload_n hC dX8_shortOf_44 rfl 1 rfl ?_
            refine kw_iload_n hC dX8_shortOf_45 rfl 0 rfl ?_
            refine kw_callV hC (d_X8_goesFromR hD (by omega) (by omega) (by omega)) gX8_shortOf_X8_goesFromR ⟨_, rfl⟩ rfl (by decide) (by decide) rfl ⟨rfl, rfl⟩ 1 (by decide +kernel) ⟨by decide, by decide⟩ rfl rfl (Nat.le_of_ble_eq_true rfl) dX8_shortOf_46 rfl (kd_v (fun S9 hp9 => ?_))
            obtain ⟨hg9, hp9⟩ := hp9
            have hfS9 : Fr fS S S9 := hfS4.trans (hg9.mono (fun k i j h => by unfold fG at h; unfold fS; omega))
            have hRS9 := hRS.fr (hfS9.mono (fun k i j h => by unfold fS at h; unfold tR; omega))
            have hnS9 := hRS9.n
            have enS9 : S9 30 0 0 = S 30 0 0 := hfS9 30 0 0 (by unfold fS; omega)
            obtain ⟨q8, q1, q2⟩ := hp9
            have hr9 : WV (S9 47 0) (S9 30 0 8) (S 30 0 0) := q8 ▸ WV.del hr8 q1 q2 (by omega)
            have hgx : S9 30 0 16 = S4 30 0 16 := hg9 30 0 16 (by unfold fG; omega)
            refine kw_goto (tgt := 77) hC dX8_shortOf_49 rfl (by decide) ?_
            refine kw_iinc (lv' := [(1, _), (2, _), (0, _)]) hC dX8_shortOf_77 rfl 2 rfl (by decide) rfl ?_
            refine kw_goto (tgt := 12) hC dX8_shortOf_80 rfl (by decide) ?_
            refine kw_lv [2, 0] rfl ?_
            exact ih12 (x + 1) S9 hfS9 (by omega) (by omega) (by omega) (by omega) hr9 (by omega) (by omega)
        · refine kw_iconst hC dX8_shortOf_38 rfl ?_
          exact hR9.2.1 rfl _ _ _ _ dX8_shortOf_39 (by omega) ⟨_, rfl, hfS4, by omega, ⟨by omega, by omega⟩, hr8, hg9⟩
  refine kw_lv [1, 0] rfl ?_
  exact hL12 201 0 S2 hfS2 (by omega) (by omega) (by omega) (by omega) (fun j _ _ => by omega) (by have := ho2 30 0 16 (by omega); omega) (by omega)

def fF (k : Nat) (i j : Int) : Prop := k = 55 ∨ k = 47 ∨ k = 49 ∨ (k = 30 ∧ (j = 16 ∨ j = 8 ∨ j = 10))

set_option maxHeartbeats 4000000 in
set_option maxRecDepth 100000 in
theorem d_X8_formOfR {g : wG} (hD : wD g) {S : wSt} (hRS : RI S) (hw : WV (S 47 0) (S 30 0 8) (S 30 0 0)) (m0 : 0 ≤ S 30 0 8) (m1 : S 30 0 8 ≤ 200) (l : Launch) : Kt l yX8_formOfR wsX8_formOfR ({ frames := 3, cells := 0, slots := 0, locals := 71 } : Room) g S [vr g 30 0] (pI (fun r S' => Fr fF S S' ∧ ((r = 0 ∨ r = 1) ∧ (0 ≤ S' 30 0 10 ∧ S' 30 0 10 ≤ S 30 0 8) ∧ WV (S' 49 0) (S' 30 0 10) (S 30 0 0) ∧ (S' 30 0 16 = 0 ∨ S' 30 0 16 = 1)))) := by
  refine Kt.of (cc := cX8_formOfR) (nL := 3) (ret := (some .boolean)) (own := RX8) rfl hD (by decide) rfl (Nat.le_of_ble_eq_true rfl) ⟨rfl, rfl⟩ ?_
  intro E hC hR9
  have f11 : Cond.fieldLink RX8 11 "MirrorBenchModel" "mirrors" "I" ∈ wsX8_formOfR := by decide +kernel
  have f81 : Cond.fieldLink RX8 81 "MirrorBenchModel" "isGreat" "Z" ∈ wsX8_formOfR := by decide +kernel
  have f92 : Cond.fieldLink RX8 92 "MirrorBenchModel" "rMany" "I" ∈ wsX8_formOfR := by decide +kernel
  have f110 : Cond.fieldLink RX8 110 "MirrorBenchModel" "fMany" "I" ∈ wsX8_formOfR := by decide +kernel
  have f116 : Cond.fieldLink RX8 116 "MirrorBenchModel" "f" "[I" ∈ wsX8_formOfR := by decide +kernel
  have w8 : ∀ w ∈ wsX80, w ∈ wsX8_formOfR := by decide +kernel
  show Wk E g 3 S 0 [(0, vr g 30 0)] []
  have hfS : Fr fF S S := Fr.rfl _ S
  have hRS := hRS.fr (hfS.mono (fun k i j h => by unfold fF at h; unfold tR; omega))
  have hnS := hRS.n
  have enS : S 30 0 0 = S 30 0 0 := hfS 30 0 0 (by unfold fF; omega)
  refine kw_aload_n hC dX8_formOfR_0 rfl 0 rfl ?_
  refine kw_iconst hC dX8_formOfR_1 rfl ?_
  refine kp_30_16 hC w8 f81 dX8_formOfR_2 rfl (by decide) (by decide) (by omega) ?_
  refine kw_hv hfS (by unfold fF; omega) (fun S1 hfS1 hv1 ho1 => ?_)
  have hRS1 := hRS.fr (hfS1.mono (fun k i j h => by unfold fF at h; unfold tR; omega))
  have hnS1 := hRS1.n
  have enS1 : S1 30 0 0 = S 30 0 0 := hfS1 30 0 0 (by unfold fF; omega)
  have e8 : S1 30 0 8 = S 30 0 8 := ho1 30 0 8 (by omega)
  have e47 : ∀ j, S1 47 0 j = S 47 0 j := fun j => ho1 47 0 j (by omega)
  refine kw_aload_n hC dX8_formOfR_5 rfl 0 rfl ?_
  refine kw_iconst hC dX8_formOfR_6 rfl ?_
  refine kp_30_10 hC w8 f110 dX8_formOfR_7 rfl (by decide) (by decide) ?_
  refine kw_hv hfS1 (by unfold fF; omega) (fun S2 hfS2 hv2 ho2 => ?_)
  have hRS2 := hRS.fr (hfS2.mono (fun k i j h => by unfold fF at h; unfold tR; omega))
  have hnS2 := hRS2.n
  have enS2 : S2 30 0 0 = S 30 0 0 := hfS2 30 0 0 (by unfold fF; omega)
  have hL10 : ∀ (n10 : Nat)  (W10 : wSt), Fr fF S W10 → (0 ≤ W10 30 0 8) → (W10 30 0 8 + W10 30 0 10 ≤ S 30 0 8) → (0 ≤ W10 30 0 10) → (WV (W10 47 0) (W10 30 0 8) (S 30 0 0)) → (WV (W10 49 0) (W10 30 0 10) (S 30 0 0)) → (W10 30 0 16 = 0 ∨ W10 30 0 16 = 1) → W10 30 0 8 < (n10 : Int) → Wk E g 3 W10 10 [(0, vr g 30 0)] [] := by
    intro n10
    induction n10 with
    | zero => intro W10 hfW10 r0 r1 t0 hrw hfw hgw hm10; exact absurd hm10 (by omega)
    | succ n10 ih10 =>
      intro W10 hfW10 r0 r1 t0 hrw hfw hgw hm10
      have hRW10 := hRS.fr (hfW10.mono (fun k i j h => by unfold fF at h; unfold tR; omega))
      have hnW10 := hRW10.n
      have enW10 : W10 30 0 0 = S 30 0 0 := hfW10 30 0 0 (by unfold fF; omega)
      have hrc : WV (W10 47 0) (W10 30 0 8) (W10 30 0 0) := hrw.eq (fun _ _ _ => rfl) rfl enW10
      have hgc := hgw
      refine kw_aload_n hC dX8_formOfR_10 rfl 0 rfl ?_
      refine kg_30_8 hC w8 f92 dX8_formOfR_11 rfl (by decide) (by decide) ?_
      refine kw_if_le (tgt := 99) hC dX8_formOfR_14 rfl (by decide) (by omega) ⟨fun c14 => ?_, fun c14 => ?_⟩
      · refine kw_iconst hC dX8_formOfR_99 rfl ?_
        exact hR9.2.1 rfl _ _ _ _ dX8_formOfR_100 (by omega) ⟨_, rfl, hfW10, by omega, ⟨by omega, by omega⟩, hfw, hgw⟩
      · refine kw_iconst hC dX8_formOfR_17 rfl ?_
        refine kw_istore_n (lv' := [(1, _), (0, _)]) hC dX8_formOfR_18 rfl (by decide) rfl ?_
        refine kw_aload_n hC dX8_formOfR_19 rfl 1 rfl ?_
        refine kw_iconst hC dX8_formOfR_20 rfl ?_
        refine kw_callV hC (d_X8_ahead hD (by omega) hRW10 (by exact hrc) (by omega) (by omega) (by exact hgc)) gX8_formOfR_X8_ahead ⟨_, rfl⟩ rfl (by decide) (by decide) rfl ⟨rfl, rfl⟩ 1 (by decide +kernel) ⟨by decide, by decide⟩ rfl rfl (Nat.le_of_ble_eq_true rfl) dX8_formOfR_21 rfl (kd_i (fun r4 S4 hp4 => ?_))
        obtain ⟨hg4, hp4⟩ := hp4
        have hfS4 : Fr fF S S4 := hfW10.trans (hg4.mono (fun k i j h => by unfold fT at h; unfold fF; omega))
        have hRS4 := hRS.fr (hfS4.mono (fun k i j h => by unfold fF at h; unfold tR; omega))
        have hnS4 := hRS4.n
        have enS4 : S4 30 0 0 = S 30 0 0 := hfS4 30 0 0 (by unfold fF; omega)
        obtain ⟨⟨hk0, hk1⟩, hgd⟩ := hp4
        have e8 : S4 30 0 8 = W10 30 0 8 := hg4 30 0 8 (by unfold fT; omega)
        have e10 : S4 30 0 10 = W10 30 0 10 := hg4 30 0 10 (by unfold fT; omega)
        have hrd : WV (S4 47 0) (S4 30 0 8) (S 30 0 0) := hrw.eq (fun j _ _ => hg4 47 0 j (by unfold fT; omega)) e8 rfl
        have hfd : WV (S4 49 0) (S4 30 0 10) (S 30 0 0) := hfw.eq (fun j _ _ => hg4 49 0 j (by unfold fT; omega)) e10 rfl
        refine kw_istore_n (lv' := [(2, _), (1, _), (0, _)]) hC dX8_formOfR_24 rfl (by decide) rfl ?_
        have hL25 : ∀ (n25 : Nat) (s : Int) (k : Int) (W25 : wSt), Fr fF S W25 → (0 ≤ s) → (s < S 30 0 0) → (-1 ≤ k) → (k < W25 30 0 8) → (W25 30 0 8 = W10 30 0 8) → (W25 30 0 10 = W10 30 0 10) → (WV (W25 47 0) (W25 30 0 8) (S 30 0 0)) → (WV (W25 49 0) (W25 30 0 10) (S 30 0 0)) → (W25 30 0 16 = 0 ∨ W25 30 0 16 = 1) → S 30 0 0 - s < (n25 : Int) → Wk E g 3 W25 25 [(0, vr g 30 0), (1, vi s), (2, vi k)] [] := by
          intro n25
          induction n25 with
          | zero => intro s k W25 hfW25 s0 s1 k0 k1 q8 q10 hrw hfw hgw hm25; exact absurd hm25 (by omega)
          | succ n25 ih25 =>
            intro s k W25 hfW25 s0 s1 k0 k1 q8 q10 hrw hfw hgw hm25
            have hRW25 := hRS.fr (hfW25.mono (fun k i j h => by unfold fF at h; unfold tR; omega))
            have hnW25 := hRW25.n
            have enW25 : W25 30 0 0 = S 30 0 0 := hfW25 30 0 0 (by unfold fF; omega)
            have hrc : WV (W25 47 0) (W25 30 0 8) (W25 30 0 0) := hrw.eq (fun _ _ _ => rfl) rfl enW25
            have hgc := hgw
            refine kw_iload_n hC dX8_formOfR_25 rfl 2 rfl ?_
            refine kw_if_ge (tgt := 58) hC dX8_formOfR_26 rfl (by decide) (by omega) ⟨fun c26 => ?_, fun c26 => ?_⟩
            · refine kw_aload_n hC dX8_formOfR_58 rfl 0 rfl ?_
              refine kg_30_16 hC w8 f81 dX8_formOfR_59 rfl (by decide) (by decide) ?_
              refine kw_if_ne (tgt := 69) hC dX8_formOfR_62 rfl (by decide) (by omega) ⟨fun c62 => ?_, fun c62 => ?_⟩
              · refine kw_iconst hC dX8_formOfR_69 rfl ?_
                exact hR9.2.1 rfl _ _ _ _ dX8_formOfR_70 (by omega) ⟨_, rfl, hfW25, by omega, ⟨by omega, by omega⟩, hfw, hgw⟩
              · refine kw_iload_n hC dX8_formOfR_65 rfl 2 rfl ?_
                refine kw_if_ge (tgt := 71) hC dX8_formOfR_66 rfl (by decide) (by omega) ⟨fun c66 => ?_, fun c66 => ?_⟩
                · refine kw_aload_n hC dX8_formOfR_71 rfl 0 rfl ?_
                  refine kw_iload_n hC dX8_formOfR_72 rfl 2 rfl ?_
                  refine kw_callV hC (d_X8_goesFromR hD (by omega) (by omega) (by omega)) gX8_formOfR_X8_goesFromR ⟨_, rfl⟩ rfl (by decide) (by decide) rfl ⟨rfl, rfl⟩ 1 (by decide +kernel) ⟨by decide, by decide⟩ rfl rfl (Nat.le_of_ble_eq_true rfl) dX8_formOfR_73 rfl (kd_v (fun S8 hp8 => ?_))
                  obtain ⟨hg8, hp8⟩ := hp8
                  have hfS8 : Fr fF S S8 := hfW25.trans (hg8.mono (fun k i j h => by unfold fG at h; unfold fF; omega))
                  have hRS8 := hRS.fr (hfS8.mono (fun k i j h => by unfold fF at h; unfold tR; omega))
                  have hnS8 := hRS8.n
                  have enS8 : S8 30 0 0 = S 30 0 0 := hfS8 30 0 0 (by unfold fF; omega)
                  obtain ⟨z8, z1, z2⟩ := hp8
                  have z10 : S8 30 0 10 = W25 30 0 10 := hg8 30 0 10 (by unfold fG; omega)
                  have z16 : S8 30 0 16 = W25 30 0 16 := hg8 30 0 16 (by unfold fG; omega)
                  have hr1 : WV (S8 47 0) (S8 30 0 8) (S 30 0 0) := z8 ▸ WV.del hrw z1 z2 (by omega)
                  have hf1 : WV (S8 49 0) (S8 30 0 10) (S 30 0 0) := hfw.eq (fun j _ _ => hg8 49 0 j (by unfold fG; omega)) z10 rfl
                  refine kw_aload_n hC dX8_formOfR_76 rfl 0 rfl ?_
                  refine kg_30_9 hC w8 f116 dX8_formOfR_77 rfl (by decide) (by decide) ?_
                  refine kw_aload_n hC dX8_formOfR_80 rfl 0 rfl ?_
                  refine kg_30_10 hC w8 f110 dX8_formOfR_81 rfl (by decide) (by decide) ?_
                  refine kw_iload_n hC dX8_formOfR_84 rfl 1 rfl ?_
                  refine ks_49 hC dX8_formOfR_85 rfl (by decide) (by decide) (by omega) (by omega) ?_
                  refine kw_hv hfS8 (by unfold fF; omega) (fun S9 hfS9 hv9 ho9 => ?_)
                  have hRS9 := hRS.fr (hfS9.mono (fun k i j h => by unfold fF at h; unfold tR; omega))
                  have hnS9 := hRS9.n
                  have enS9 : S9 30 0 0 = S 30 0 0 := hfS9 30 0 0 (by unfold fF; omega)
                  have y8 : S9 30 0 8 = S8 30 0 8 := ho9 30 0 8 (by omega)
                  have y10 : S9 30 0 10 = S8 30 0 10 := ho9 30 0 10 (by omega)
                  have y16 : S9 30 0 16 = S8 30 0 16 := ho9 30 0 16 (by omega)
                  have hr2 : WV (S9 47 0) (S9 30 0 8) (S 30 0 0) := hr1.eq (fun j _ _ => ho9 47 0 j (by omega)) y8 rfl
                  have hf2 : WV (S9 49 0) (S8 30 0 10 + 1) (S 30 0 0) := hf1.add (fun j hj => ho9 49 0 j (by omega)) (by rw [hv9]; omega)
                  refine kw_aload_n hC dX8_formOfR_86 rfl 0 rfl ?_
                  refine kw_dup hC dX8_formOfR_87 rfl rfl ?_
                  refine kg_30_10 hC w8 f110 dX8_formOfR_88 rfl (by decide) (by decide) ?_
                  refine kw_iconst hC dX8_formOfR_91 rfl ?_
                  refine kw_iadd hC dX8_formOfR_92 rfl ?_
                  refine kp_30_10 hC w8 f110 dX8_formOfR_93 rfl (by decide) (by decide) ?_
                  refine kw_hv hfS9 (by unfold fF; omega) (fun S10 hfS10 hv10 ho10 => ?_)
                  have hRS10 := hRS.fr (hfS10.mono (fun k i j h => by unfold fF at h; unfold tR; omega))
                  have hnS10 := hRS10.n
                  have enS10 : S10 30 0 0 = S 30 0 0 := hfS10 30 0 0 (by unfold fF; omega)
                  have x8 : S10 30 0 8 = S9 30 0 8 := ho10 30 0 8 (by omega)
                  have x10 := hv10
                  have x16 : S10 30 0 16 = S9 30 0 16 := ho10 30 0 16 (by omega)
                  have hr3 : WV (S10 47 0) (S10 30 0 8) (S 30 0 0) := hr2.eq (fun j _ _ => ho10 47 0 j (by omega)) x8 rfl
                  have hf3 : WV (S10 49 0) (S10 30 0 10) (S 30 0 0) := hf2.eq (fun j _ _ => ho10 49 0 j (by omega)) (by omega) rfl
                  refine kw_goto (tgt := 10) hC dX8_formOfR_96 rfl (by decide) ?_
                  refine kw_lv [0] rfl ?_
                  exact ih10 S10 hfS10 (by omega) (by omega) (by omega) (by omega) (by omega) (by omega) (by omega)
                · refine kw_iconst hC dX8_formOfR_69 rfl ?_
                  exact hR9.2.1 rfl _ _ _ _ dX8_formOfR_70 (by omega) ⟨_, rfl, hfW25, by omega, ⟨by omega, by omega⟩, hfw, hgw⟩
            · refine kw_aload_n hC dX8_formOfR_29 rfl 0 rfl ?_
              refine kg_30_16 hC w8 f81 dX8_formOfR_30 rfl (by decide) (by decide) ?_
              refine kw_if_ne (tgt := 58) hC dX8_formOfR_33 rfl (by decide) (by omega) ⟨fun c33 => ?_, fun c33 => ?_⟩
              · refine kw_aload_n hC dX8_formOfR_58 rfl 0 rfl ?_
                refine kg_30_16 hC w8 f81 dX8_formOfR_59 rfl (by decide) (by decide) ?_
                refine kw_if_ne (tgt := 69) hC dX8_formOfR_62 rfl (by decide) (by omega) ⟨fun c62 => ?_, fun c62 => ?_⟩
                · refine kw_iconst hC dX8_formOfR_69 rfl ?_
                  exact hR9.2.1 rfl _ _ _ _ dX8_formOfR_70 (by omega) ⟨_, rfl, hfW25, by omega, ⟨by omega, by omega⟩, hfw, hgw⟩
                · refine kw_iload_n hC dX8_formOfR_65 rfl 2 rfl ?_
                  refine kw_if_ge (tgt := 71) hC dX8_formOfR_66 rfl (by decide) (by omega) ⟨fun c66 => ?_, fun c66 => ?_⟩
                  · refine kw_aload_n hC dX8_formOfR_71 rfl 0 rfl ?_
                    refine kw_iload_n hC dX8_formOfR_72 rfl 2 rfl ?_
                    refine kw_callV hC (d_X8_goesFromR hD (by omega) (by omega) (by omega)) gX8_formOfR_X8_goesFromR ⟨_, rfl⟩ rfl (by decide) (by decide) rfl ⟨rfl, rfl⟩ 1 (by decide +kernel) ⟨by decide, by decide⟩ rfl rfl (Nat.le_of_ble_eq_true rfl) dX8_formOfR_73 rfl (kd_v (fun S14 hp14 => ?_))
                    obtain ⟨hg14, hp14⟩ := hp14
                    have hfS14 : Fr fF S S14 := hfW25.trans (hg14.mono (fun k i j h => by unfold fG at h; unfold fF; omega))
                    have hRS14 := hRS.fr (hfS14.mono (fun k i j h => by unfold fF at h; unfold tR; omega))
                    have hnS14 := hRS14.n
                    have enS14 : S14 30 0 0 = S 30 0 0 := hfS14 30 0 0 (by unfold fF; omega)
                    obtain ⟨z8, z1, z2⟩ := hp14
                    have z10 : S14 30 0 10 = W25 30 0 10 := hg14 30 0 10 (by unfold fG; omega)
                    have z16 : S14 30 0 16 = W25 30 0 16 := hg14 30 0 16 (by unfold fG; omega)
                    have hr1 : WV (S14 47 0) (S14 30 0 8) (S 30 0 0) := z8 ▸ WV.del hrw z1 z2 (by omega)
                    have hf1 : WV (S14 49 0) (S14 30 0 10) (S 30 0 0) := hfw.eq (fun j _ _ => hg14 49 0 j (by unfold fG; omega)) z10 rfl
                    refine kw_aload_n hC dX8_formOfR_76 rfl 0 rfl ?_
                    refine kg_30_9 hC w8 f116 dX8_formOfR_77 rfl (by decide) (by decide) ?_
                    refine kw_aload_n hC dX8_formOfR_80 rfl 0 rfl ?_
                    refine kg_30_10 hC w8 f110 dX8_formOfR_81 rfl (by decide) (by decide) ?_
                    refine kw_iload_n hC dX8_formOfR_84 rfl 1 rfl ?_
                    refine ks_49 hC dX8_formOfR_85 rfl (by decide) (by decide) (by omega) (by omega) ?_
                    refine kw_hv hfS14 (by unfold fF; omega) (fun S15 hfS15 hv15 ho15 => ?_)
                    have hRS15 := hRS.fr (hfS15.mono (fun k i j h => by unfold fF at h; unfold tR; omega))
                    have hnS15 := hRS15.n
                    have enS15 : S15 30 0 0 = S 30 0 0 := hfS15 30 0 0 (by unfold fF; omega)
                    have y8 : S15 30 0 8 = S14 30 0 8 := ho15 30 0 8 (by omega)
                    have y10 : S15 30 0 10 = S14 30 0 10 := ho15 30 0 10 (by omega)
                    have y16 : S15 30 0 16 = S14 30 0 16 := ho15 30 0 16 (by omega)
                    have hr2 : WV (S15 47 0) (S15 30 0 8) (S 30 0 0) := hr1.eq (fun j _ _ => ho15 47 0 j (by omega)) y8 rfl
                    have hf2 : WV (S15 49 0) (S14 30 0 10 + 1) (S 30 0 0) := hf1.add (fun j hj => ho15 49 0 j (by omega)) (by rw [hv15]; omega)
                    refine kw_aload_n hC dX8_formOfR_86 rfl 0 rfl ?_
                    refine kw_dup hC dX8_formOfR_87 rfl rfl ?_
                    refine kg_30_10 hC w8 f110 dX8_formOfR_88 rfl (by decide) (by decide) ?_
                    refine kw_iconst hC dX8_formOfR_91 rfl ?_
                    refine kw_iadd hC dX8_formOfR_92 rfl ?_
                    refine kp_30_10 hC w8 f110 dX8_formOfR_93 rfl (by decide) (by decide) ?_
                    refine kw_hv hfS15 (by unfold fF; omega) (fun S16 hfS16 hv16 ho16 => ?_)
                    have hRS16 := hRS.fr (hfS16.mono (fun k i j h => by unfold fF at h; unfold tR; omega))
                    have hnS16 := hRS16.n
                    have enS16 : S16 30 0 0 = S 30 0 0 := hfS16 30 0 0 (by unfold fF; omega)
                    have x8 : S16 30 0 8 = S15 30 0 8 := ho16 30 0 8 (by omega)
                    have x10 := hv16
                    have x16 : S16 30 0 16 = S15 30 0 16 := ho16 30 0 16 (by omega)
                    have hr3 : WV (S16 47 0) (S16 30 0 8) (S 30 0 0) := hr2.eq (fun j _ _ => ho16 47 0 j (by omega)) x8 rfl
                    have hf3 : WV (S16 49 0) (S16 30 0 10) (S 30 0 0) := hf2.eq (fun j _ _ => ho16 49 0 j (by omega)) (by omega) rfl
                    refine kw_goto (tgt := 10) hC dX8_formOfR_96 rfl (by decide) ?_
                    refine kw_lv [0] rfl ?_
                    exact ih10 S16 hfS16 (by omega) (by omega) (by omega) (by omega) (by omega) (by omega) (by omega)
                  · refine kw_iconst hC dX8_formOfR_69 rfl ?_
                    exact hR9.2.1 rfl _ _ _ _ dX8_formOfR_70 (by omega) ⟨_, rfl, hfW25, by omega, ⟨by omega, by omega⟩, hfw, hgw⟩
              · refine kw_iload_n hC dX8_formOfR_36 rfl 1 rfl ?_
                refine kw_iconst hC dX8_formOfR_37 rfl ?_
                refine kw_iadd hC dX8_formOfR_38 rfl ?_
                refine kw_aload_n hC dX8_formOfR_39 rfl 0 rfl ?_
                refine kg_30_0 hC w8 f11 dX8_formOfR_40 rfl (by decide) (by decide) ?_
                refine kw_icmp_ge (tgt := 58) hC dX8_formOfR_43 rfl (by decide) (by omega) (by omega) ⟨fun c43 => ?_, fun c43 => ?_⟩
                · refine kw_aload_n hC dX8_formOfR_58 rfl 0 rfl ?_
                  refine kg_30_16 hC w8 f81 dX8_formOfR_59 rfl (by decide) (by decide) ?_
                  refine kw_if_ne (tgt := 69) hC dX8_formOfR_62 rfl (by decide) (by omega) ⟨fun c62 => ?_, fun c62 => ?_⟩
                  · refine kw_iconst hC dX8_formOfR_69 rfl ?_
                    exact hR9.2.1 rfl _ _ _ _ dX8_formOfR_70 (by omega) ⟨_, rfl, hfW25, by omega, ⟨by omega, by omega⟩, hfw, hgw⟩
                  · refine kw_iload_n hC dX8_formOfR_65 rfl 2 rfl ?_
                    refine kw_if_ge (tgt := 71) hC dX8_formOfR_66 rfl (by decide) (by omega) ⟨fun c66 => ?_, fun c66 => ?_⟩
                    · refine kw_aload_n hC dX8_formOfR_71 rfl 0 rfl ?_
                      refine kw_iload_n hC dX8_formOfR_72 rfl 2 rfl ?_
                      refine kw_callV hC (d_X8_goesFromR hD (by omega) (by omega) (by omega)) gX8_formOfR_X8_goesFromR ⟨_, rfl⟩ rfl (by decide) (by decide) rfl ⟨rfl, rfl⟩ 1 (by decide +kernel) ⟨by decide, by decide⟩ rfl rfl (Nat.le_of_ble_eq_true rfl) dX8_formOfR_73 rfl (kd_v (fun S20 hp20 => ?_))
                      obtain ⟨hg20, hp20⟩ := hp20
                      have hfS20 : Fr fF S S20 := hfW25.trans (hg20.mono (fun k i j h => by unfold fG at h; unfold fF; omega))
                      have hRS20 := hRS.fr (hfS20.mono (fun k i j h => by unfold fF at h; unfold tR; omega))
                      have hnS20 := hRS20.n
                      have enS20 : S20 30 0 0 = S 30 0 0 := hfS20 30 0 0 (by unfold fF; omega)
                      obtain ⟨z8, z1, z2⟩ := hp20
                      have z10 : S20 30 0 10 = W25 30 0 10 := hg20 30 0 10 (by unfold fG; omega)
                      have z16 : S20 30 0 16 = W25 30 0 16 := hg20 30 0 16 (by unfold fG; omega)
                      have hr1 : WV (S20 47 0) (S20 30 0 8) (S 30 0 0) := z8 ▸ WV.del hrw z1 z2 (by omega)
                      have hf1 : WV (S20 49 0) (S20 30 0 10) (S 30 0 0) := hfw.eq (fun j _ _ => hg20 49 0 j (by unfold fG; omega)) z10 rfl
                      refine kw_aload_n hC dX8_formOfR_76 rfl 0 rfl ?_
                      refine kg_30_9 hC w8 f116 dX8_formOfR_77 rfl (by decide) (by decide) ?_
                      refine kw_aload_n hC dX8_formOfR_80 rfl 0 rfl ?_
                      refine kg_30_10 hC w8 f110 dX8_formOfR_81 rfl (by decide) (by decide) ?_
                      refine kw_iload_n hC dX8_formOfR_84 rfl 1 rfl ?_
                      refine ks_49 hC dX8_formOfR_85 rfl (by decide) (by decide) (by omega) (by omega) ?_
                      refine kw_hv hfS20 (by unfold fF; omega) (fun S21 hfS21 hv21 ho21 => ?_)
                      have hRS21 := hRS.fr (hfS21.mono (fun k i j h => by unfold fF at h; unfold tR; omega))
                      have hnS21 := hRS21.n
                      have enS21 : S21 30 0 0 = S 30 0 0 := hfS21 30 0 0 (by unfold fF; omega)
                      have y8 : S21 30 0 8 = S20 30 0 8 := ho21 30 0 8 (by omega)
                      have y10 : S21 30 0 10 = S20 30 0 10 := ho21 30 0 10 (by omega)
                      have y16 : S21 30 0 16 = S20 30 0 16 := ho21 30 0 16 (by omega)
                      have hr2 : WV (S21 47 0) (S21 30 0 8) (S 30 0 0) := hr1.eq (fun j _ _ => ho21 47 0 j (by omega)) y8 rfl
                      have hf2 : WV (S21 49 0) (S20 30 0 10 + 1) (S 30 0 0) := hf1.add (fun j hj => ho21 49 0 j (by omega)) (by rw [hv21]; omega)
                      refine kw_aload_n hC dX8_formOfR_86 rfl 0 rfl ?_
                      refine kw_dup hC dX8_formOfR_87 rfl rfl ?_
                      refine kg_30_10 hC w8 f110 dX8_formOfR_88 rfl (by decide) (by decide) ?_
                      refine kw_iconst hC dX8_formOfR_91 rfl ?_
                      refine kw_iadd hC dX8_formOfR_92 rfl ?_
                      refine kp_30_10 hC w8 f110 dX8_formOfR_93 rfl (by decide) (by decide) ?_
                      refine kw_hv hfS21 (by unfold fF; omega) (fun S22 hfS22 hv22 ho22 => ?_)
                      have hRS22 := hRS.fr (hfS22.mono (fun k i j h => by unfold fF at h; unfold tR; omega))
                      have hnS22 := hRS22.n
                      have enS22 : S22 30 0 0 = S 30 0 0 := hfS22 30 0 0 (by unfold fF; omega)
                      have x8 : S22 30 0 8 = S21 30 0 8 := ho22 30 0 8 (by omega)
                      have x10 := hv22
                      have x16 : S22 30 0 16 = S21 30 0 16 := ho22 30 0 16 (by omega)
                      have hr3 : WV (S22 47 0) (S22 30 0 8) (S 30 0 0) := hr2.eq (fun j _ _ => ho22 47 0 j (by omega)) x8 rfl
                      have hf3 : WV (S22 49 0) (S22 30 0 10) (S 30 0 0) := hf2.eq (fun j _ _ => ho22 49 0 j (by omega)) (by omega) rfl
                      refine kw_goto (tgt := 10) hC dX8_formOfR_96 rfl (by decide) ?_
                      refine kw_lv [0] rfl ?_
                      exact ih10 S22 hfS22 (by omega) (by omega) (by omega) (by omega) (by omega) (by omega) (by omega)
                    · refine kw_iconst hC dX8_formOfR_69 rfl ?_
                      exact hR9.2.1 rfl _ _ _ _ dX8_formOfR_70 (by omega) ⟨_, rfl, hfW25, by omega, ⟨by omega, by omega⟩, hfw, hgw⟩
                · refine kw_iinc (lv' := [(1, _), (0, _), (2, _)]) hC dX8_formOfR_46 rfl 1 rfl (by decide) rfl ?_
                  refine kw_aload_n hC dX8_formOfR_49 rfl 1 rfl ?_
                  refine kw_iload_n hC dX8_formOfR_50 rfl 0 rfl ?_
                  refine kw_callV hC (d_X8_ahead hD (by omega) hRW25 (by exact hrc) (by omega) (by omega) (by exact hgc)) gX8_formOfR_X8_ahead ⟨_, rfl⟩ rfl (by decide) (by decide) rfl ⟨rfl, rfl⟩ 1 (by decide +kernel) ⟨by decide, by decide⟩ rfl rfl (Nat.le_of_ble_eq_true rfl) dX8_formOfR_51 rfl (kd_i (fun r23 S23 hp23 => ?_))
                  obtain ⟨hg23, hp23⟩ := hp23
                  have hfS23 : Fr fF S S23 := hfW25.trans (hg23.mono (fun k i j h => by unfold fT at h; unfold fF; omega))
                  have hRS23 := hRS.fr (hfS23.mono (fun k i j h => by unfold fF at h; unfold tR; omega))
                  have hnS23 := hRS23.n
                  have enS23 : S23 30 0 0 = S 30 0 0 := hfS23 30 0 0 (by unfold fF; omega)
                  obtain ⟨⟨hk0, hk1⟩, hgd⟩ := hp23
                  have e8 : S23 30 0 8 = W25 30 0 8 := hg23 30 0 8 (by unfold fT; omega)
                  have e10 : S23 30 0 10 = W25 30 0 10 := hg23 30 0 10 (by unfold fT; omega)
                  have hrd : WV (S23 47 0) (S23 30 0 8) (S 30 0 0) := hrw.eq (fun j _ _ => hg23 47 0 j (by unfold fT; omega)) e8 rfl
                  have hfd : WV (S23 49 0) (S23 30 0 10) (S 30 0 0) := hfw.eq (fun j _ _ => hg23 49 0 j (by unfold fT; omega)) e10 rfl
                  refine kw_istore_n (lv' := [(2, _), (1, _), (0, _)]) hC dX8_formOfR_54 rfl (by decide) rfl ?_
                  refine kw_goto (tgt := 25) hC dX8_formOfR_55 rfl (by decide) ?_
                  refine kw_lv [2, 1, 0] rfl ?_
                  exact ih25 (s + 1) r23 S23 hfS23 (by omega) (by omega) (by omega) (by omega) (by omega) (by omega) hrd hfd hgd (by omega)
        refine kw_lv [2, 1, 0] rfl ?_
        exact hL25 7 0 r4 S4 hfS4 (by omega) (by have := hrw 0 (by omega) (by omega); omega) (by omega) (by omega) (by omega) (by omega) hrd hfd hgd (by omega)
  exact hL10 201 S2 hfS2 (by have := ho2 30 0 8 (by omega); have := e8; omega) (by have := ho2 30 0 8 (by omega); have := e8; have := hv2; omega) (by rw [hv2]; omega) (hw.eq (fun j _ _ => (ho2 47 0 j (by omega)).trans (e47 j)) ((ho2 30 0 8 (by omega)).trans e8) rfl) (fun j _ _ => by omega) (by have := ho2 30 0 16 (by omega); omega) (by have := ho2 30 0 8 (by omega); have := e8; omega)
