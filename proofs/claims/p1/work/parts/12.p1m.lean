set_option maxHeartbeats 4000000 in
set_option maxRecDepth 100000 in
/-- general -/
theorem c_X8_in {g : wG} (hD : wD g) {S : wSt} {a b c : Int} (ha : -9223372036854775808 ≤ a ∧ a ≤ 9223372036854775807) (hb : -9223372036854775808 ≤ b ∧ b ≤ 9223372036854775807) (hc : -9223372036854775808 ≤ c ∧ c ≤ 9223372036854775807) (l : Launch) : Kt l yX8_in wsX8_in ({ frames := 0, cells := 0, slots := 0, locals := 0 } : Room) g S [vl a, vl b, vl c] (pI (fun r S' => r = bz (b ≤ a ∧ a ≤ c) ∧ S' = S)) := by
  refine Kt.of (cc := cX8_in) (nL := 6) (ret := (some .boolean)) (own := RX8) rfl hD (by decide) rfl (Nat.le_of_ble_eq_true rfl) ⟨rfl, rfl⟩ ?_
  intro E hC hR
  show Wk E g 6 S 0 [(0, vl a), (2, vl b), (4, vl c)] []
  refine kw_lload_n hC dX8_in_0 rfl 0 rfl ?_
  refine kw_lload_n hC dX8_in_1 rfl 1 rfl ?_
  refine kw_lcmp hC dX8_in_2 rfl (by omega) (by omega) ?_
  refine kw_if_lt (tgt := 17) hC dX8_in_3 rfl (by decide) (cz_r _ _) ⟨fun c3 => ?_, fun c3 => ?_⟩
  · replace c3 := (cz_lt _ _).mp c3
    refine kw_iconst hC dX8_in_17 rfl ?_
    exact hR.2.1 rfl _ _ _ _ dX8_in_18 (by omega) ⟨_, rfl, by first | exact (bz_t (by omega)).symm | exact (bz_f (by omega)).symm, rfl⟩
  · replace c3 := (not_congr (cz_lt _ _)).mp c3
    refine kw_lload_n hC dX8_in_6 rfl 0 rfl ?_
    refine kw_lload hC dX8_in_7 rfl 2 rfl ?_
    refine kw_lcmp hC dX8_in_9 rfl (by omega) (by omega) ?_
    refine kw_if_gt (tgt := 17) hC dX8_in_10 rfl (by decide) (cz_r _ _) ⟨fun c10 => ?_, fun c10 => ?_⟩
    · replace c10 := (cz_gt _ _).mp c10
      refine kw_iconst hC dX8_in_17 rfl ?_
      exact hR.2.1 rfl _ _ _ _ dX8_in_18 (by omega) ⟨_, rfl, by first | exact (bz_t (by omega)).symm | exact (bz_f (by omega)).symm, rfl⟩
    · replace c10 := (not_congr (cz_gt _ _)).mp c10
      refine kw_iconst hC dX8_in_13 rfl ?_
      refine kw_goto (tgt := 18) hC dX8_in_14 rfl (by decide) ?_
      exact hR.2.1 rfl _ _ _ _ dX8_in_18 (by omega) ⟨_, rfl, by first | exact (bz_t (by omega)).symm | exact (bz_f (by omega)).symm, rfl⟩

set_option maxHeartbeats 4000000 in
set_option maxRecDepth 100000 in
/-- general -/
theorem c_X8_isMirror {g : wG} (hD : wD g) {S : wSt} {a : Int} (ha : -9223372036854775808 ≤ a ∧ a ≤ 9223372036854775807) (m0 : 0 ≤ S 30 0 0) (m1 : S 30 0 0 ≤ 6) (l : Launch) : Kt l yX8_isMirror wsX8_isMirror ({ frames := 1, cells := 0, slots := 0, locals := 25 } : Room) g S [vr g 30 0, vl a] (pI (fun r S' => r = bz (0 ≤ a ∧ a ≤ S 30 0 0 - 1) ∧ S' = S)) := by
  refine Kt.of (cc := cX8_isMirror) (nL := 3) (ret := (some .boolean)) (own := RX8) rfl hD (by decide) rfl (Nat.le_of_ble_eq_true rfl) ⟨rfl, rfl⟩ ?_
  intro E hC hR
  have f11 : Cond.fieldLink RX8 11 "MirrorBenchModel" "mirrors" "I" ∈ wsX8_isMirror := by decide +kernel
  have w8 : ∀ w ∈ wsX80, w ∈ wsX8_isMirror := by decide +kernel
  show Wk E g 3 S 0 [(0, vr g 30 0), (1, vl a)] []
  refine kw_lload_n hC dX8_isMirror_0 rfl 1 rfl ?_
  refine kw_lconst (z := 0) hC dX8_isMirror_1 rfl rfl ?_
  refine kw_aload_n hC dX8_isMirror_2 rfl 0 rfl ?_
  refine kg_30_0 hC w8 f11 dX8_isMirror_3 rfl (by decide) (by decide) ?_
  refine kw_i2l hC dX8_isMirror_6 rfl (by omega) ?_
  refine kw_lconst (z := 1) hC dX8_isMirror_7 rfl rfl ?_
  refine kw_lsub hC dX8_isMirror_8 rfl ?_
  refine kw_callS hC (c_X8_in hD (by omega) (by omega) (by omega)) gX8_isMirror_X8_in rfl ⟨rfl, rfl⟩ 3 (by decide +kernel) ⟨by decide, by decide⟩ rfl rfl (Nat.le_of_ble_eq_true rfl) dX8_isMirror_9 rfl (kd_ie ?_)
  exact hR.2.1 rfl _ _ _ _ dX8_isMirror_12 (bz_r _) ⟨_, rfl, rfl, rfl⟩

set_option maxHeartbeats 4000000 in
set_option maxRecDepth 100000 in
/-- general -/
theorem c_X8_isSlot {g : wG} (hD : wD g) {S : wSt} {a : Int} (ha : -2147483648 ≤ a ∧ a ≤ 2147483647) (l : Launch) : Kt l yX8_isSlot wsX8_isSlot ({ frames := 1, cells := 0, slots := 0, locals := 25 } : Room) g S [vi a] (pI (fun r S' => r = bz (0 ≤ a ∧ a ≤ 7) ∧ S' = S)) := by
  refine Kt.of (cc := cX8_isSlot) (nL := 1) (ret := (some .boolean)) (own := RX8) rfl hD (by decide) rfl (Nat.le_of_ble_eq_true rfl) ⟨rfl, rfl⟩ ?_
  intro E hC hR
  have l46 : Cond.constantLong RX8 46 (Int64.ofInt (7)) ∈ wsX8_isSlot := by decide +kernel
  show Wk E g 1 S 0 [(0, vi a)] []
  refine kw_iload_n hC dX8_isSlot_0 rfl 0 rfl ?_
  refine kw_i2l hC dX8_isSlot_1 rfl (by omega) ?_
  refine kw_lconst (z := 0) hC dX8_isSlot_2 rfl rfl ?_
  refine kw_ldc2 (z := 7) hC dX8_isSlot_3 rfl l46 ?_
  refine kw_callS hC (c_X8_in hD (by omega) (by omega) (by omega)) gX8_isSlot_X8_in rfl ⟨rfl, rfl⟩ 3 (by decide +kernel) ⟨by decide, by decide⟩ rfl rfl (Nat.le_of_ble_eq_true rfl) dX8_isSlot_6 rfl (kd_ie ?_)
  exact hR.2.1 rfl _ _ _ _ dX8_isSlot_9 (bz_r _) ⟨_, rfl, rfl, rfl⟩

set_option maxHeartbeats 4000000 in
set_option maxRecDepth 100000 in
/-- general -/
theorem c_X8_isLeaf {g : wG} (hD : wD g) {S : wSt} {a : Int} (ha : -2147483648 ≤ a ∧ a ≤ 2147483647) (l : Launch) : Kt l yX8_isLeaf wsX8_isLeaf ({ frames := 1, cells := 0, slots := 0, locals := 25 } : Room) g S [vi a] (pI (fun r S' => r = bz (0 ≤ a ∧ a ≤ 3) ∧ S' = S)) := by
  refine Kt.of (cc := cX8_isLeaf) (nL := 1) (ret := (some .boolean)) (own := RX8) rfl hD (by decide) rfl (Nat.le_of_ble_eq_true rfl) ⟨rfl, rfl⟩ ?_
  intro E hC hR
  have l246 : Cond.constantLong RX8 246 (Int64.ofInt (3)) ∈ wsX8_isLeaf := by decide +kernel
  show Wk E g 1 S 0 [(0, vi a)] []
  refine kw_iload_n hC dX8_isLeaf_0 rfl 0 rfl ?_
  refine kw_i2l hC dX8_isLeaf_1 rfl (by omega) ?_
  refine kw_lconst (z := 0) hC dX8_isLeaf_2 rfl rfl ?_
  refine kw_ldc2 (z := 3) hC dX8_isLeaf_3 rfl l246 ?_
  refine kw_callS hC (c_X8_in hD (by omega) (by omega) (by omega)) gX8_isLeaf_X8_in rfl ⟨rfl, rfl⟩ 3 (by decide +kernel) ⟨by decide, by decide⟩ rfl rfl (Nat.le_of_ble_eq_true rfl) dX8_isLeaf_6 rfl (kd_ie ?_)
  exact hR.2.1 rfl _ _ _ _ dX8_isLeaf_9 (bz_r _) ⟨_, rfl, rfl, rfl⟩

set_option maxHeartbeats 4000000 in
set_option maxRecDepth 100000 in
/-- general -/
theorem c_X8_emptyWords {g : wG} (hD : wD g) {S : wSt}  (l : Launch) : Kt l yX8_emptyWords wsX8_emptyWords ({ frames := 0, cells := 0, slots := 0, locals := 0 } : Room) g S [vr g 30 0] (pV (fun S' => S' = fiS S 46 0 8 0)) := by
  refine Kt.of (cc := cX8_emptyWords) (nL := 2) (ret := none) (own := RX8) rfl hD (by decide) rfl (Nat.le_of_ble_eq_true rfl) ⟨rfl, rfl⟩ ?_
  intro E hC hR
  have f43 : Cond.fieldLink RX8 43 "MirrorBenchModel" "lengths" "[I" ∈ wsX8_emptyWords := by decide +kernel
  have w8 : ∀ w ∈ wsX80, w ∈ wsX8_emptyWords := by decide +kernel
  show Wk E g 2 S 0 [(0, vr g 30 0)] []
  refine kw_iconst hC dX8_emptyWords_0 rfl ?_
  refine kw_istore_n (lv' := [(1, _), (0, _)]) hC dX8_emptyWords_1 rfl (by decide) rfl ?_
  have hL2 : ∀ (n : Nat) (x : Int), (0 ≤ x) → (x ≤ 8) → (8 - x < (n : Int)) → Wk E g 2 (fiS S 46 0 x 0) 2 [(0, vr g 30 0), (1, vi x)] [] := by
    intro n
    induction n with
    | zero => intro x hx0 hx1 hxn; exact absurd hxn (by omega)
    | succ n ih2 =>
      intro x hx0 hx1 hxn
      refine kw_iload_n hC dX8_emptyWords_2 rfl 1 rfl ?_
      refine kw_bipush hC dX8_emptyWords_3 rfl (by decide) ?_
      refine kw_icmp_ge (tgt := 21) hC dX8_emptyWords_5 rfl (by decide) (by omega) (by omega) ⟨fun c5 => ?_, fun c5 => ?_⟩
      · obtain rfl : x = 8 := by omega
        exact hR.2.2.2 rfl _ _ _ dX8_emptyWords_21 ⟨rfl, rfl⟩
      · refine kw_aload_n hC dX8_emptyWords_8 rfl 0 rfl ?_
        refine kg_30_6 hC w8 f43 dX8_emptyWords_9 rfl (by decide) (by decide) ?_
        refine kw_iload_n hC dX8_emptyWords_12 rfl 1 rfl ?_
        refine kw_iconst hC dX8_emptyWords_13 rfl ?_
        refine ks_46 hC dX8_emptyWords_14 rfl (by decide) (by decide) (by omega) (by omega) ?_
        rw [fiS_s S 46 0 x 0 hx0]
        refine kw_iinc (lv' := [(1, _), (0, _)]) hC dX8_emptyWords_15 rfl 1 rfl (by decide) rfl ?_
        refine kw_goto (tgt := 2) hC dX8_emptyWords_18 rfl (by decide) ?_
        refine kw_lv [1, 0] rfl ?_
        exact ih2 (x + 1) (by omega) (by omega) (by omega)
  refine kw_lv [1, 0] rfl ?_
  refine kw_chS (S' := fiS S 46 0 0 0) (fiS_0 S 46 0 0).symm ?_
  exact hL2 9 0 (by omega) (by omega) (by omega)

set_option maxHeartbeats 4000000 in
set_option maxRecDepth 100000 in
/-- on a new object -/
theorem c1_X8_keep {g : wG} (hD : wD g) {S : wSt} (m0 : S 30 0 0 = 0) (k0 : S 30 0 4 = 0) (l : Launch) : Kt l yX8_keep wsX8_keep ({ frames := 1, cells := 0, slots := 0, locals := 21 } : Room) g S [vr g 30 0] (pV (fun S' => S' 30 0 0 = 0)) := by
  refine Kt.of (cc := cX8_keep) (nL := 3) (ret := none) (own := RX8) rfl hD (by decide) rfl (Nat.le_of_ble_eq_true rfl) ⟨rfl, rfl⟩ ?_
  intro E hC hR
  have f1 : Cond.fieldLink RX8 1 "MirrorBenchModel" "changes" "I" ∈ wsX8_keep := by decide +kernel
  have f7 : Cond.fieldLink RX8 7 "MirrorBenchModel" "kept" "[I" ∈ wsX8_keep := by decide +kernel
  have f11 : Cond.fieldLink RX8 11 "MirrorBenchModel" "mirrors" "I" ∈ wsX8_keep := by decide +kernel
  have f14 : Cond.fieldLink RX8 14 "MirrorBenchModel" "kinds" "[I" ∈ wsX8_keep := by decide +kernel
  have f17 : Cond.fieldLink RX8 17 "MirrorBenchModel" "meets" "[I" ∈ wsX8_keep := by decide +kernel
  have w8 : ∀ w ∈ wsX80, w ∈ wsX8_keep := by decide +kernel
  show Wk E g 3 S 0 [(0, vr g 30 0)] []
  refine kw_aload_n hC dX8_keep_0 rfl 0 rfl ?_
  refine kg_30_4 hC w8 f1 dX8_keep_1 rfl (by decide) (by decide) ?_
  refine kw_chi (z' := 0) (by exact k0) ?_
  refine kw_bipush hC dX8_keep_4 rfl (by decide) ?_
  refine kw_icmp_ne (tgt := 49) hC dX8_keep_6 rfl (by decide) (by omega) (by omega) ⟨fun c6 => ?_, fun c6 => False.elim (by omega)⟩
  refine kw_bipush hC dX8_keep_49 rfl (by decide) ?_
  refine kw_aload_n hC dX8_keep_51 rfl 0 rfl ?_
  refine kg_30_4 hC w8 f1 dX8_keep_52 rfl (by decide) (by decide) ?_
  refine kw_chi (z' := 0) (by exact k0) ?_
  refine kw_imul hC dX8_keep_55 rfl ?_
  refine kw_chi (z' := 0) (by omega) ?_
  refine kw_istore_n (lv' := [(1, _), (0, _)]) hC dX8_keep_56 rfl (by decide) rfl ?_
  refine kw_aload_n hC dX8_keep_57 rfl 1 rfl ?_
  refine kg_30_3 hC w8 f7 dX8_keep_58 rfl (by decide) (by decide) ?_
  refine kw_iload_n hC dX8_keep_61 rfl 0 rfl ?_
  refine kw_aload_n hC dX8_keep_62 rfl 1 rfl ?_
  refine kg_30_0 hC w8 f11 dX8_keep_63 rfl (by decide) (by decide) ?_
  refine ks_43 hC dX8_keep_66 rfl (by decide) (by decide) (by omega) (by omega) ?_
  refine kw_iconst hC dX8_keep_67 rfl ?_
  refine kw_istore_n (lv' := [(2, _), (1, _), (0, _)]) hC dX8_keep_68 rfl (by decide) rfl ?_
  have hL69 : ∀ (n : Nat) (x : Int) (S2 : wSt), (0 ≤ x) → (x ≤ 6) → (S2 30 0 0 = 0) → (S2 30 0 4 = 0) → (6 - x < (n : Int)) → Wk E g 3 S2 69 [(0, vr g 30 0), (1, vi 0), (2, vi x)] [] := by
    intro n
    induction n with
    | zero => intro x S2 hx0 hx1 h2 h3 hxn; exact absurd hxn (by omega)
    | succ n ih69 =>
      intro x S2 hx0 hx1 h2 h3 hxn
      refine kw_iload_n hC dX8_keep_69 rfl 2 rfl ?_
      refine kw_bipush hC dX8_keep_70 rfl (by decide) ?_
      refine kw_icmp_ge (tgt := 97) hC dX8_keep_72 rfl (by decide) (by omega) (by omega) ⟨fun c72 => ?_, fun c72 => ?_⟩
      · refine kw_iconst hC dX8_keep_97 rfl ?_
        refine kw_istore_n (lv' := [(2, _), (0, _), (1, _)]) hC dX8_keep_98 rfl (by decide) rfl ?_
        have hL99 : ∀ (n : Nat) (x : Int) (S2 : wSt), (0 ≤ x) → (x ≤ 36) → (S2 30 0 0 = 0) → (S2 30 0 4 = 0) → (36 - x < (n : Int)) → Wk E g 3 S2 99 [(0, vr g 30 0), (1, vi 0), (2, vi x)] [] := by
          intro n
          induction n with
          | zero => intro x S2 hx0 hx1 h2 h3 hxn; exact absurd hxn (by omega)
          | succ n ih99 =>
            intro x S2 hx0 hx1 h2 h3 hxn
            refine kw_iload_n hC dX8_keep_99 rfl 2 rfl ?_
            refine kw_bipush hC dX8_keep_100 rfl (by decide) ?_
            refine kw_icmp_ge (tgt := 128) hC dX8_keep_102 rfl (by decide) (by omega) (by omega) ⟨fun c102 => ?_, fun c102 => ?_⟩
            · refine kw_aload_n hC dX8_keep_128 rfl 0 rfl ?_
              refine kw_dup hC dX8_keep_129 rfl rfl ?_
              refine kg_30_4 hC w8 f1 dX8_keep_130 rfl (by decide) (by decide) ?_
              refine kw_chi (z' := 0) (by exact h3) ?_
              refine kw_iconst hC dX8_keep_133 rfl ?_
              refine kw_iadd hC dX8_keep_134 rfl ?_
              refine kp_30_4 hC w8 f1 dX8_keep_135 rfl (by decide) (by decide) ?_
              refine kw_aload_n hC dX8_keep_138 rfl 0 rfl ?_
              refine kw_callV hC (c_X8_emptyWords hD ) gX8_keep_X8_emptyWords ⟨_, rfl⟩ rfl (by decide) (by decide) rfl ⟨rfl, rfl⟩ 0 (by decide +kernel) ⟨by decide, by decide⟩ rfl rfl (Nat.le_of_ble_eq_true rfl) dX8_keep_139 rfl (kd_ve ?_)
              exact hR.2.2.2 rfl _ _ _ dX8_keep_142 ⟨rfl, h2⟩
            · refine kw_aload_n hC dX8_keep_105 rfl 0 rfl ?_
              refine kg_30_3 hC w8 f7 dX8_keep_106 rfl (by decide) (by decide) ?_
              refine kw_iload_n hC dX8_keep_109 rfl 1 rfl ?_
              refine kw_bipush hC dX8_keep_110 rfl (by decide) ?_
              refine kw_iadd hC dX8_keep_112 rfl ?_
              refine kw_iload_n hC dX8_keep_113 rfl 2 rfl ?_
              refine kw_iadd hC dX8_keep_114 rfl ?_
              refine kw_aload_n hC dX8_keep_115 rfl 0 rfl ?_
              refine kg_30_2 hC w8 f17 dX8_keep_116 rfl (by decide) (by decide) ?_
              refine kw_iload_n hC dX8_keep_119 rfl 2 rfl ?_
              refine ka_42 hC dX8_keep_120 rfl (by decide) (by decide) (by omega) (by omega) ?_
              refine ks_43 hC dX8_keep_121 rfl (by decide) (by decide) (by omega) (by omega) ?_
              refine kw_iinc (lv' := [(2, _), (0, _), (1, _)]) hC dX8_keep_122 rfl 2 rfl (by decide) rfl ?_
              refine kw_goto (tgt := 99) hC dX8_keep_125 rfl (by decide) ?_
              refine kw_lv [1, 2, 0] rfl ?_
              exact ih99 (x + 1) _ (by omega) (by omega) h2 h3 (by omega)
        refine kw_lv [1, 2, 0] rfl ?_
        exact hL99 37 0 _ (by omega) (by omega) h2 h3 (by omega)
      · refine kw_aload_n hC dX8_keep_75 rfl 0 rfl ?_
        refine kg_30_3 hC w8 f7 dX8_keep_76 rfl (by decide) (by decide) ?_
        refine kw_iload_n hC dX8_keep_79 rfl 1 rfl ?_
        refine kw_iconst hC dX8_keep_80 rfl ?_
        refine kw_iadd hC dX8_keep_81 rfl ?_
        refine kw_iload_n hC dX8_keep_82 rfl 2 rfl ?_
        refine kw_iadd hC dX8_keep_83 rfl ?_
        refine kw_aload_n hC dX8_keep_84 rfl 0 rfl ?_
        refine kg_30_1 hC w8 f14 dX8_keep_85 rfl (by decide) (by decide) ?_
        refine kw_iload_n hC dX8_keep_88 rfl 2 rfl ?_
        refine ka_41 hC dX8_keep_89 rfl (by decide) (by decide) (by omega) (by omega) ?_
        refine ks_43 hC dX8_keep_90 rfl (by decide) (by decide) (by omega) (by omega) ?_
        refine kw_iinc (lv' := [(2, _), (0, _), (1, _)]) hC dX8_keep_91 rfl 2 rfl (by decide) rfl ?_
        refine kw_goto (tgt := 69) hC dX8_keep_94 rfl (by decide) ?_
        refine kw_lv [1, 2, 0] rfl ?_
        exact ih69 (x + 1) _ (by omega) (by omega) h2 h3 (by omega)
  refine kw_lv [2, 1, 0] rfl ?_
  exact hL69 7 0 _ (by omega) (by omega) m0 k0 (by omega)

set_option maxHeartbeats 4000000 in
set_option maxRecDepth 100000 in
/-- of an empty word -/
theorem c1_X8_load {g : wG} (hD : wD g) {S : wSt} {a : Int} (h0 : 0 ≤ a) (h1 : a < 8) (hl : S 46 0 a = 0) (l : Launch) : Kt l yX8_load wsX8_load ({ frames := 0, cells := 0, slots := 0, locals := 0 } : Room) g S [vr g 30 0, vi a] (pV (fun S' => S' = ups S 30 0 14 (S 46 0 a))) := by
  refine Kt.of (cc := cX8_load) (nL := 3) (ret := none) (own := RX8) rfl hD (by decide) rfl (Nat.le_of_ble_eq_true rfl) ⟨rfl, rfl⟩ ?_
  intro E hC hR
  have f43 : Cond.fieldLink RX8 43 "MirrorBenchModel" "lengths" "[I" ∈ wsX8_load := by decide +kernel
  have f57 : Cond.fieldLink RX8 57 "MirrorBenchModel" "wMany" "I" ∈ wsX8_load := by decide +kernel
  have w8 : ∀ w ∈ wsX80, w ∈ wsX8_load := by decide +kernel
  show Wk E g 3 S 0 [(0, vr g 30 0), (1, vi a)] []
  refine kw_aload_n hC dX8_load_0 rfl 0 rfl ?_
  refine kw_aload_n hC dX8_load_1 rfl 0 rfl ?_
  refine kg_30_6 hC w8 f43 dX8_load_2 rfl (by decide) (by decide) ?_
  refine kw_iload_n hC dX8_load_5 rfl 1 rfl ?_
  refine ka_46 hC dX8_load_6 rfl (by decide) (by decide) (by omega) (by omega) ?_
  refine kp_30_14 hC w8 f57 dX8_load_7 rfl (by decide) (by decide) ?_
  refine kw_iconst hC dX8_load_10 rfl ?_
  refine kw_istore_n (lv' := [(2, _), (0, _), (1, _)]) hC dX8_load_11 rfl (by decide) rfl ?_
  refine kw_iload_n hC dX8_load_12 rfl 0 rfl ?_
  refine kw_aload_n hC dX8_load_13 rfl 1 rfl ?_
  refine kg_30_14 hC w8 f57 dX8_load_14 rfl (by decide) (by decide) ?_
  refine kw_chi (z' := 0) (by exact hl) ?_
  refine kw_icmp_ge (tgt := 43) hC dX8_load_17 rfl (by decide) (by omega) (by omega) ⟨fun c17 => ?_, fun c17 => False.elim (by omega)⟩
  exact hR.2.2.2 rfl _ _ _ dX8_load_43 ⟨rfl, rfl⟩

set_option maxHeartbeats 4000000 in
set_option maxRecDepth 100000 in
/-- of an empty word -/
theorem c1_X8_loadMore {g : wG} (hD : wD g) {S : wSt} {a : Int} (h0 : 0 ≤ a) (h1 : a < 8) (hl : S 46 0 a = 0) (l : Launch) : Kt l yX8_loadMore wsX8_loadMore ({ frames := 0, cells := 0, slots := 0, locals := 0 } : Room) g S [vr g 30 0, vi a] (pV (fun S' => S' = S)) := by
  refine Kt.of (cc := cX8_loadMore) (nL := 3) (ret := none) (own := RX8) rfl hD (by decide) rfl (Nat.le_of_ble_eq_true rfl) ⟨rfl, rfl⟩ ?_
  intro E hC hR
  have f43 : Cond.fieldLink RX8 43 "MirrorBenchModel" "lengths" "[I" ∈ wsX8_loadMore := by decide +kernel
  have w8 : ∀ w ∈ wsX80, w ∈ wsX8_loadMore := by decide +kernel
  show Wk E g 3 S 0 [(0, vr g 30 0), (1, vi a)] []
  refine kw_iconst hC dX8_loadMore_0 rfl ?_
  refine kw_istore_n (lv' := [(2, _), (0, _), (1, _)]) hC dX8_loadMore_1 rfl (by decide) rfl ?_
  refine kw_iload_n hC dX8_loadMore_2 rfl 0 rfl ?_
  refine kw_aload_n hC dX8_loadMore_3 rfl 1 rfl ?_
  refine kg_30_6 hC w8 f43 dX8_loadMore_4 rfl (by decide) (by decide) ?_
  refine kw_iload_n hC dX8_loadMore_7 rfl 2 rfl ?_
  refine ka_46 hC dX8_loadMore_8 rfl (by decide) (by decide) (by omega) (by omega) ?_
  refine kw_icmp_ge (tgt := 48) hC dX8_loadMore_9 rfl (by decide) (by omega) (by omega) ⟨fun c9 => ?_, fun c9 => False.elim (by omega)⟩
  exact hR.2.2.2 rfl _ _ _ dX8_loadMore_48 ⟨rfl, rfl⟩

set_option maxHeartbeats 4000000 in
set_option maxRecDepth 100000 in
/-- of an empty word -/
theorem c1_X8_loadBack {g : wG} (hD : wD g) {S : wSt} {a : Int} (h0 : 0 ≤ a) (h1 : a < 8) (hl : S 46 0 a = 0) (l : Launch) : Kt l yX8_loadBack wsX8_loadBack ({ frames := 0, cells := 0, slots := 0, locals := 0 } : Room) g S [vr g 30 0, vi a] (pV (fun S' => S' = ups S 30 0 14 0)) := by
  refine Kt.of (cc := cX8_loadBack) (nL := 3) (ret := none) (own := RX8) rfl hD (by decide) rfl (Nat.le_of_ble_eq_true rfl) ⟨rfl, rfl⟩ ?_
  intro E hC hR
  have f43 : Cond.fieldLink RX8 43 "MirrorBenchModel" "lengths" "[I" ∈ wsX8_loadBack := by decide +kernel
  have f57 : Cond.fieldLink RX8 57 "MirrorBenchModel" "wMany" "I" ∈ wsX8_loadBack := by decide +kernel
  have w8 : ∀ w ∈ wsX80, w ∈ wsX8_loadBack := by decide +kernel
  show Wk E g 3 S 0 [(0, vr g 30 0), (1, vi a)] []
  refine kw_aload_n hC dX8_loadBack_0 rfl 0 rfl ?_
  refine kw_iconst hC dX8_loadBack_1 rfl ?_
  refine kp_30_14 hC w8 f57 dX8_loadBack_2 rfl (by decide) (by decide) ?_
  refine kw_aload_n hC dX8_loadBack_5 rfl 0 rfl ?_
  refine kg_30_6 hC w8 f43 dX8_loadBack_6 rfl (by decide) (by decide) ?_
  refine kw_iload_n hC dX8_loadBack_9 rfl 1 rfl ?_
  refine ka_46 hC dX8_loadBack_10 rfl (by decide) (by decide) (by omega) (by omega) ?_
  refine kw_chi (z' := 0) (by exact hl) ?_
  refine kw_iconst hC dX8_loadBack_11 rfl ?_
  refine kw_isub hC dX8_loadBack_12 rfl ?_
  refine kw_istore_n (lv' := [(2, _), (0, _), (1, _)]) hC dX8_loadBack_13 rfl (by decide) rfl ?_
  refine kw_iload_n hC dX8_loadBack_14 rfl 0 rfl ?_
  refine kw_if_lt (tgt := 54) hC dX8_loadBack_15 rfl (by decide) (by omega) ⟨fun c15 => ?_, fun c15 => False.elim (by omega)⟩
  exact hR.2.2.2 rfl _ _ _ dX8_loadBack_54 ⟨rfl, rfl⟩

set_option maxHeartbeats 4000000 in
set_option maxRecDepth 100000 in
/-- of an empty word -/
theorem c1_X8_store {g : wG} (hD : wD g) {S : wSt} {a : Int} (h0 : 0 ≤ a) (h1 : a < 8) (hw : S 30 0 14 = 0) (l : Launch) : Kt l yX8_store wsX8_store ({ frames := 0, cells := 0, slots := 0, locals := 0 } : Room) g S [vr g 30 0, vi a] (pI (fun r S' => r = 0 ∧ S' = ups S 46 0 a (S 30 0 14))) := by
  refine Kt.of (cc := cX8_store) (nL := 3) (ret := (some .int)) (own := RX8) rfl hD (by decide) rfl (Nat.le_of_ble_eq_true rfl) ⟨rfl, rfl⟩ ?_
  intro E hC hR
  have f43 : Cond.fieldLink RX8 43 "MirrorBenchModel" "lengths" "[I" ∈ wsX8_store := by decide +kernel
  have f57 : Cond.fieldLink RX8 57 "MirrorBenchModel" "wMany" "I" ∈ wsX8_store := by decide +kernel
  have w8 : ∀ w ∈ wsX80, w ∈ wsX8_store := by decide +kernel
  show Wk E g 3 S 0 [(0, vr g 30 0), (1, vi a)] []
  refine kw_aload_n hC dX8_store_0 rfl 0 rfl ?_
  refine kg_30_6 hC w8 f43 dX8_store_1 rfl (by decide) (by decide) ?_
  refine kw_iload_n hC dX8_store_4 rfl 1 rfl ?_
  refine kw_aload_n hC dX8_store_5 rfl 0 rfl ?_
  refine kg_30_14 hC w8 f57 dX8_store_6 rfl (by decide) (by decide) ?_
  refine ks_46 hC dX8_store_9 rfl (by decide) (by decide) (by omega) (by omega) ?_
  refine kw_iconst hC dX8_store_10 rfl ?_
  refine kw_istore_n (lv' := [(2, _), (0, _), (1, _)]) hC dX8_store_11 rfl (by decide) rfl ?_
  refine kw_iload_n hC dX8_store_12 rfl 0 rfl ?_
  refine kw_aload_n hC dX8_store_13 rfl 1 rfl ?_
  refine kg_30_14 hC w8 f57 dX8_store_14 rfl (by decide) (by decide) ?_
  refine kw_chi (z' := 0) (by exact hw) ?_
  refine kw_icmp_ge (tgt := 43) hC dX8_store_17 rfl (by decide) (by omega) (by omega) ⟨fun c17 => ?_, fun c17 => False.elim (by omega)⟩
  refine kw_aload_n hC dX8_store_43 rfl 1 rfl ?_
  refine kg_30_14 hC w8 f57 dX8_store_44 rfl (by decide) (by decide) ?_
  refine kw_chi (z' := 0) (by exact hw) ?_
  exact hR.1 rfl _ _ _ _ dX8_store_47 ⟨_, rfl, rfl, rfl⟩

set_option maxHeartbeats 4000000 in
set_option maxRecDepth 100000 in
/-- of an empty word -/
theorem c1_X8_shortOf {g : wG} (hD : wD g) {S : wSt} (hw : S 30 0 14 = 0) (l : Launch) : Kt l yX8_shortOf wsX8_shortOf ({ frames := 0, cells := 0, slots := 0, locals := 0 } : Room) g S [vr g 30 0] (pI (fun r S' => r = bz True ∧ S' = ups (ups S 30 0 16 0) 30 0 8 0)) := by
  refine Kt.of (cc := cX8_shortOf) (nL := 3) (ret := (some .boolean)) (own := RX8) rfl hD (by decide) rfl (Nat.le_of_ble_eq_true rfl) ⟨rfl, rfl⟩ ?_
  intro E hC hR
  have f57 : Cond.fieldLink RX8 57 "MirrorBenchModel" "wMany" "I" ∈ wsX8_shortOf := by decide +kernel
  have f81 : Cond.fieldLink RX8 81 "MirrorBenchModel" "isGreat" "Z" ∈ wsX8_shortOf := by decide +kernel
  have f92 : Cond.fieldLink RX8 92 "MirrorBenchModel" "rMany" "I" ∈ wsX8_shortOf := by decide +kernel
  have w8 : ∀ w ∈ wsX80, w ∈ wsX8_shortOf := by decide +kernel
  show Wk E g 3 S 0 [(0, vr g 30 0)] []
  refine kw_aload_n hC dX8_shortOf_0 rfl 0 rfl ?_
  refine kw_iconst hC dX8_shortOf_1 rfl ?_
  refine kp_30_16 hC w8 f81 dX8_shortOf_2 rfl (by decide) (by decide) (by omega) ?_
  refine kw_aload_n hC dX8_shortOf_5 rfl 0 rfl ?_
  refine kw_iconst hC dX8_shortOf_6 rfl ?_
  refine kp_30_8 hC w8 f92 dX8_shortOf_7 rfl (by decide) (by decide) ?_
  refine kw_iconst hC dX8_shortOf_10 rfl ?_
  refine kw_istore_n (lv' := [(1, _), (0, _)]) hC dX8_shortOf_11 rfl (by decide) rfl ?_
  refine kw_iload_n hC dX8_shortOf_12 rfl 0 rfl ?_
  refine kw_aload_n hC dX8_shortOf_13 rfl 1 rfl ?_
  refine kg_30_14 hC w8 f57 dX8_shortOf_14 rfl (by decide) (by decide) ?_
  refine kw_chi (z' := 0) (by exact hw) ?_
  refine kw_icmp_ge (tgt := 83) hC dX8_shortOf_17 rfl (by decide) (by omega) (by omega) ⟨fun c17 => ?_, fun c17 => False.elim (by omega)⟩
  refine kw_iconst hC dX8_shortOf_83 rfl ?_
  exact hR.2.1 rfl _ _ _ _ dX8_shortOf_84 (by omega) ⟨_, rfl, (bz_t trivial).symm, rfl⟩

set_option maxHeartbeats 4000000 in
set_option maxRecDepth 100000 in
/-- of an empty word -/
theorem c1_X8_formOfR {g : wG} (hD : wD g) {S : wSt} (hr : S 30 0 8 = 0) (l : Launch) : Kt l yX8_formOfR wsX8_formOfR ({ frames := 0, cells := 0, slots := 0, locals := 0 } : Room) g S [vr g 30 0] (pI (fun r S' => r = bz True ∧ S' = ups (ups S 30 0 16 0) 30 0 10 0)) := by
  refine Kt.of (cc := cX8_formOfR) (nL := 3) (ret := (some .boolean)) (own := RX8) rfl hD (by decide) rfl (Nat.le_of_ble_eq_true rfl) ⟨rfl, rfl⟩ ?_
  intro E hC hR
  have f81 : Cond.fieldLink RX8 81 "MirrorBenchModel" "isGreat" "Z" ∈ wsX8_formOfR := by decide +kernel
  have f92 : Cond.fieldLink RX8 92 "MirrorBenchModel" "rMany" "I" ∈ wsX8_formOfR := by decide +kernel
  have f110 : Cond.fieldLink RX8 110 "MirrorBenchModel" "fMany" "I" ∈ wsX8_formOfR := by decide +kernel
  have w8 : ∀ w ∈ wsX80, w ∈ wsX8_formOfR := by decide +kernel
  show Wk E g 3 S 0 [(0, vr g 30 0)] []
  refine kw_aload_n hC dX8_formOfR_0 rfl 0 rfl ?_
  refine kw_iconst hC dX8_formOfR_1 rfl ?_
  refine kp_30_16 hC w8 f81 dX8_formOfR_2 rfl (by decide) (by decide) (by omega) ?_
  refine kw_aload_n hC dX8_formOfR_5 rfl 0 rfl ?_
  refine kw_iconst hC dX8_formOfR_6 rfl ?_
  refine kp_30_10 hC w8 f110 dX8_formOfR_7 rfl (by decide) (by decide) ?_
  refine kw_aload_n hC dX8_formOfR_10 rfl 0 rfl ?_
  refine kg_30_8 hC w8 f92 dX8_formOfR_11 rfl (by decide) (by decide) ?_
  refine kw_chi (z' := 0) (by exact hr) ?_
  refine kw_if_le (tgt := 99) hC dX8_formOfR_14 rfl (by decide) (by omega) ⟨fun c14 => ?_, fun c14 => False.elim (by omega)⟩
  refine kw_iconst hC dX8_formOfR_99 rfl ?_
  exact hR.2.1 rfl _ _ _ _ dX8_formOfR_100 (by omega) ⟨_, rfl, (bz_t trivial).symm, rfl⟩

def fwS (S : wSt) : wSt := ups (ups (ups (ups (ups S 30 0 16 0) 30 0 8 0) 30 0 16 0) 30 0 10 0) 30 0 14 0

set_option maxHeartbeats 4000000 in
set_option maxRecDepth 100000 in
/-- of an empty word -/
theorem c1_X8_formOfW {g : wG} (hD : wD g) {S : wSt} (hla : S 30 0 14 = 0) (l : Launch) : Kt l yX8_formOfW wsX8_formOfW ({ frames := 1, cells := 0, slots := 0, locals := 22 } : Room) g S [vr g 30 0] (pI (fun r S' => r = bz True ∧ S' = fwS S)) := by
  refine Kt.of (cc := cX8_formOfW) (nL := 2) (ret := (some .boolean)) (own := RX8) rfl hD (by decide) rfl (Nat.le_of_ble_eq_true rfl) ⟨rfl, rfl⟩ ?_
  intro E hC hR
  have f57 : Cond.fieldLink RX8 57 "MirrorBenchModel" "wMany" "I" ∈ wsX8_formOfW := by decide +kernel
  have f110 : Cond.fieldLink RX8 110 "MirrorBenchModel" "fMany" "I" ∈ wsX8_formOfW := by decide +kernel
  have w8 : ∀ w ∈ wsX80, w ∈ wsX8_formOfW := by decide +kernel
  show Wk E g 2 S 0 [(0, vr g 30 0)] []
  refine kw_aload_n hC dX8_formOfW_0 rfl 0 rfl ?_
  refine kw_callV hC (c1_X8_shortOf hD (by exact hla)) gX8_formOfW_X8_shortOf ⟨_, rfl⟩ rfl (by decide) (by decide) rfl ⟨rfl, rfl⟩ 0 (by decide +kernel) ⟨by decide, by decide⟩ rfl rfl (Nat.le_of_ble_eq_true rfl) dX8_formOfW_1 rfl (kd_ie ?_)
  refine kw_ifeq_b (tgt := 14) hC dX8_formOfW_4 rfl (by decide) ⟨fun c4 => False.elim (by exact c4 trivial), fun c4 => ?_⟩
  refine kw_aload_n hC dX8_formOfW_7 rfl 0 rfl ?_
  refine kw_callV hC (c1_X8_formOfR hD (by rfl)) gX8_formOfW_X8_formOfR ⟨_, rfl⟩ rfl (by decide) (by decide) rfl ⟨rfl, rfl⟩ 0 (by decide +kernel) ⟨by decide, by decide⟩ rfl rfl (Nat.le_of_ble_eq_true rfl) dX8_formOfW_8 rfl (kd_ie ?_)
  refine kw_ifne_b (tgt := 16) hC dX8_formOfW_11 rfl (by decide) ⟨fun c11 => ?_, fun c11 => False.elim (by exact c11 trivial)⟩
  refine kw_aload_n hC dX8_formOfW_16 rfl 0 rfl ?_
  refine kw_aload_n hC dX8_formOfW_17 rfl 0 rfl ?_
  refine kg_30_10 hC w8 f110 dX8_formOfW_18 rfl (by decide) (by decide) ?_
  refine kw_chi (z' := 0) (by exact rfl) ?_
  refine kp_30_14 hC w8 f57 dX8_formOfW_21 rfl (by decide) (by decide) ?_
  refine kw_iconst hC dX8_formOfW_24 rfl ?_
  refine kw_istore_n (lv' := [(1, _), (0, _)]) hC dX8_formOfW_25 rfl (by decide) rfl ?_
  refine kw_iload_n hC dX8_formOfW_26 rfl 0 rfl ?_
  refine kw_aload_n hC dX8_formOfW_27 rfl 1 rfl ?_
  refine kg_30_10 hC w8 f110 dX8_formOfW_28 rfl (by decide) (by decide) ?_
  refine kw_chi (z' := 0) (by exact rfl) ?_
  refine kw_icmp_ge (tgt := 52) hC dX8_formOfW_31 rfl (by decide) (by omega) (by omega) ⟨fun c31 => ?_, fun c31 => False.elim (by omega)⟩
  refine kw_iconst hC dX8_formOfW_52 rfl ?_
  exact hR.2.1 rfl _ _ _ _ dX8_formOfW_53 (by omega) ⟨_, rfl, (bz_t trivial).symm, rfl⟩

set_option maxHeartbeats 4000000 in
set_option maxRecDepth 100000 in
/-- of an empty word -/
theorem c1_X8_rToW {g : wG} (hD : wD g) {S : wSt} (hr : S 30 0 8 = 0) (l : Launch) : Kt l yX8_rToW wsX8_rToW ({ frames := 0, cells := 0, slots := 0, locals := 0 } : Room) g S [vr g 30 0] (pV (fun S' => S' = ups S 30 0 14 (S 30 0 8))) := by
  refine Kt.of (cc := cX8_rToW) (nL := 2) (ret := none) (own := RX8) rfl hD (by decide) rfl (Nat.le_of_ble_eq_true rfl) ⟨rfl, rfl⟩ ?_
  intro E hC hR
  have f57 : Cond.fieldLink RX8 57 "MirrorBenchModel" "wMany" "I" ∈ wsX8_rToW := by decide +kernel
  have f92 : Cond.fieldLink RX8 92 "MirrorBenchModel" "rMany" "I" ∈ wsX8_rToW := by decide +kernel
  have w8 : ∀ w ∈ wsX80, w ∈ wsX8_rToW := by decide +kernel
  show Wk E g 2 S 0 [(0, vr g 30 0)] []
  refine kw_aload_n hC dX8_rToW_0 rfl 0 rfl ?_
  refine kw_aload_n hC dX8_rToW_1 rfl 0 rfl ?_
  refine kg_30_8 hC w8 f92 dX8_rToW_2 rfl (by decide) (by decide) ?_
  refine kp_30_14 hC w8 f57 dX8_rToW_5 rfl (by decide) (by decide) ?_
  refine kw_iconst hC dX8_rToW_8 rfl ?_
  refine kw_istore_n (lv' := [(1, _), (0, _)]) hC dX8_rToW_9 rfl (by decide) rfl ?_
  refine kw_iload_n hC dX8_rToW_10 rfl 0 rfl ?_
  refine kw_aload_n hC dX8_rToW_11 rfl 1 rfl ?_
  refine kg_30_8 hC w8 f92 dX8_rToW_12 rfl (by decide) (by decide) ?_
  refine kw_chi (z' := 0) (by exact hr) ?_
  refine kw_icmp_ge (tgt := 36) hC dX8_rToW_15 rfl (by decide) (by omega) (by omega) ⟨fun c15 => ?_, fun c15 => False.elim (by omega)⟩
  exact hR.2.2.2 rfl _ _ _ dX8_rToW_36 ⟨rfl, rfl⟩

set_option maxHeartbeats 4000000 in
set_option maxRecDepth 100000 in
/-- of an empty word -/
theorem c1_X8_wToV {g : wG} (hD : wD g) {S : wSt} (hw : S 30 0 14 = 0) (l : Launch) : Kt l yX8_wToV wsX8_wToV ({ frames := 0, cells := 0, slots := 0, locals := 0 } : Room) g S [vr g 30 0] (pV (fun S' => S' = ups S 30 0 12 (S 30 0 14))) := by
  refine Kt.of (cc := cX8_wToV) (nL := 2) (ret := none) (own := RX8) rfl hD (by decide) rfl (Nat.le_of_ble_eq_true rfl) ⟨rfl, rfl⟩ ?_
  intro E hC hR
  have f57 : Cond.fieldLink RX8 57 "MirrorBenchModel" "wMany" "I" ∈ wsX8_wToV := by decide +kernel
  have f126 : Cond.fieldLink RX8 126 "MirrorBenchModel" "vMany" "I" ∈ wsX8_wToV := by decide +kernel
  have w8 : ∀ w ∈ wsX80, w ∈ wsX8_wToV := by decide +kernel
  show Wk E g 2 S 0 [(0, vr g 30 0)] []
  refine kw_aload_n hC dX8_wToV_0 rfl 0 rfl ?_
  refine kw_aload_n hC dX8_wToV_1 rfl 0 rfl ?_
  refine kg_30_14 hC w8 f57 dX8_wToV_2 rfl (by decide) (by decide) ?_
  refine kp_30_12 hC w8 f126 dX8_wToV_5 rfl (by decide) (by decide) ?_
  refine kw_iconst hC dX8_wToV_8 rfl ?_
  refine kw_istore_n (lv' := [(1, _), (0, _)]) hC dX8_wToV_9 rfl (by decide) rfl ?_
  refine kw_iload_n hC dX8_wToV_10 rfl 0 rfl ?_
  refine kw_aload_n hC dX8_wToV_11 rfl 1 rfl ?_
  refine kg_30_14 hC w8 f57 dX8_wToV_12 rfl (by decide) (by decide) ?_
  refine kw_chi (z' := 0) (by exact hw) ?_
  refine kw_icmp_ge (tgt := 36) hC dX8_wToV_15 rfl (by decide) (by omega) (by omega) ⟨fun c15 => ?_, fun c15 => False.elim (by omega)⟩
  exact hR.2.2.2 rfl _ _ _ dX8_wToV_36 ⟨rfl, rfl⟩

set_option maxHeartbeats 4000000 in
set_option maxRecDepth 100000 in
/-- on a new object -/
theorem c1_X8_mirror {g : wG} (hD : wD g) {S : wSt} {a : Int} (ha : -2147483648 ≤ a ∧ a ≤ 2147483647) (hF : nM S) (l : Launch) : Kt l yX8_mirror wsX8_mirror ({ frames := 2, cells := 0, slots := 0, locals := 43 } : Room) g S [vr g 30 0, vi a] (pI (fun r _ => r = q_mirror a)) := by
  refine Kt.of (cc := cX8_mirror) (nL := 3) (ret := (some .int)) (own := RX8) rfl hD (by decide) rfl (Nat.le_of_ble_eq_true rfl) ⟨rfl, rfl⟩ ?_
  intro E hC hR
  have f11 : Cond.fieldLink RX8 11 "MirrorBenchModel" "mirrors" "I" ∈ wsX8_mirror := by decide +kernel
  have f14 : Cond.fieldLink RX8 14 "MirrorBenchModel" "kinds" "[I" ∈ wsX8_mirror := by decide +kernel
  have f17 : Cond.fieldLink RX8 17 "MirrorBenchModel" "meets" "[I" ∈ wsX8_mirror := by decide +kernel
  have l28 : Cond.constantLong RX8 28 (Int64.ofInt (2)) ∈ wsX8_mirror := by decide +kernel
  have w8 : ∀ w ∈ wsX80, w ∈ wsX8_mirror := by decide +kernel
  show Wk E g 3 S 0 [(0, vr g 30 0), (1, vi a)] []
  obtain ⟨hm, hk, hL, hN⟩ := hF
  refine kw_iload_n hC dX8_mirror_0 rfl 1 rfl ?_
  refine kw_i2l hC dX8_mirror_1 rfl (by omega) ?_
  refine kw_lconst (z := 0) hC dX8_mirror_2 rfl rfl ?_
  refine kw_ldc2 (z := 2) hC dX8_mirror_3 rfl l28 ?_
  refine kw_callS hC (c_X8_in hD (by omega) (by omega) (by omega)) gX8_mirror_X8_in rfl ⟨rfl, rfl⟩ 3 (by decide +kernel) ⟨by decide, by decide⟩ rfl rfl (Nat.le_of_ble_eq_true rfl) dX8_mirror_6 rfl (kd_ie ?_)
  refine kw_ifne_b (tgt := 14) hC dX8_mirror_9 rfl (by decide) ⟨fun c9 => ?_, fun c9 => ?_⟩
  · refine kw_aload_n hC dX8_mirror_14 rfl 0 rfl ?_
    refine kg_30_0 hC w8 f11 dX8_mirror_15 rfl (by decide) (by decide) ?_
    refine kw_chi (z' := 0) (by exact hm) ?_
    refine kw_bipush hC dX8_mirror_18 rfl (by decide) ?_
    refine kw_icmp_ne (tgt := 26) hC dX8_mirror_20 rfl (by decide) (by omega) (by omega) ⟨fun c20 => ?_, fun c20 => False.elim (by omega)⟩
    refine kw_aload_n hC dX8_mirror_26 rfl 0 rfl ?_
    refine kw_callV hC (c1_X8_keep hD hm hk) gX8_mirror_X8_keep ⟨_, rfl⟩ rfl (by decide) (by decide) rfl ⟨rfl, rfl⟩ 0 (by decide +kernel) ⟨by decide, by decide⟩ rfl rfl (Nat.le_of_ble_eq_true rfl) dX8_mirror_27 rfl (kd_v (fun S1 hp1 => ?_))
    refine kw_aload_n hC dX8_mirror_30 rfl 0 rfl ?_
    refine kg_30_1 hC w8 f14 dX8_mirror_31 rfl (by decide) (by decide) ?_
    refine kw_aload_n hC dX8_mirror_34 rfl 0 rfl ?_
    refine kg_30_0 hC w8 f11 dX8_mirror_35 rfl (by decide) (by decide) ?_
    refine kw_chi (z' := 0) (by exact hp1) ?_
    refine kw_iload_n hC dX8_mirror_38 rfl 1 rfl ?_
    refine ks_41 hC dX8_mirror_39 rfl (by decide) (by decide) (by omega) (by omega) ?_
    refine kw_iconst hC dX8_mirror_40 rfl ?_
    refine kw_istore_n (lv' := [(2, _), (0, _), (1, _)]) hC dX8_mirror_41 rfl (by decide) rfl ?_
    have hL42 : ∀ (n : Nat) (x : Int) (S2 : wSt), (0 ≤ x) → (x ≤ 6) → (S2 30 0 0 = 0) → (6 - x < (n : Int)) → Wk E g 3 S2 42 [(0, vr g 30 0), (1, vi a), (2, vi x)] [] := by
      intro n
      induction n with
      | zero => intro x S2 hx0 hx1 h2 hxn; exact absurd hxn (by omega)
      | succ n ih42 =>
        intro x S2 hx0 hx1 h2 hxn
        refine kw_iload_n hC dX8_mirror_42 rfl 2 rfl ?_
        refine kw_bipush hC dX8_mirror_43 rfl (by decide) ?_
        refine kw_icmp_ge (tgt := 84) hC dX8_mirror_45 rfl (by decide) (by omega) (by omega) ⟨fun c45 => ?_, fun c45 => ?_⟩
        · refine kw_aload_n hC dX8_mirror_84 rfl 0 rfl ?_
          refine kw_dup hC dX8_mirror_85 rfl rfl ?_
          refine kg_30_0 hC w8 f11 dX8_mirror_86 rfl (by decide) (by decide) ?_
          refine kw_chi (z' := 0) (by exact h2) ?_
          refine kw_iconst hC dX8_mirror_89 rfl ?_
          refine kw_iadd hC dX8_mirror_90 rfl ?_
          refine kp_30_0 hC w8 f11 dX8_mirror_91 rfl (by decide) (by decide) ?_
          refine kw_aload_n hC dX8_mirror_94 rfl 0 rfl ?_
          refine kg_30_0 hC w8 f11 dX8_mirror_95 rfl (by decide) (by decide) ?_
          refine kw_chi (z' := 0 + 1) (ups_s _ 30 0 0 _) ?_
          refine kw_iconst hC dX8_mirror_98 rfl ?_
          refine kw_isub hC dX8_mirror_99 rfl ?_
          exact hR.1 rfl _ _ _ _ dX8_mirror_100 ⟨_, rfl, by unfold q_mirror; (repeat' split) <;> omega⟩
        · refine kw_aload_n hC dX8_mirror_48 rfl 0 rfl ?_
          refine kg_30_2 hC w8 f17 dX8_mirror_49 rfl (by decide) (by decide) ?_
          refine kw_bipush hC dX8_mirror_52 rfl (by decide) ?_
          refine kw_aload_n hC dX8_mirror_54 rfl 0 rfl ?_
          refine kg_30_0 hC w8 f11 dX8_mirror_55 rfl (by decide) (by decide) ?_
          refine kw_chi (z' := 0) (by exact h2) ?_
          refine kw_imul hC dX8_mirror_58 rfl ?_
          refine kw_iload_n hC dX8_mirror_59 rfl 2 rfl ?_
          refine kw_iadd hC dX8_mirror_60 rfl ?_
          refine kw_iconst hC dX8_mirror_61 rfl ?_
          refine ks_42 hC dX8_mirror_62 rfl (by decide) (by decide) (by omega) (by omega) ?_
          refine kw_aload_n hC dX8_mirror_63 rfl 0 rfl ?_
          refine kg_30_2 hC w8 f17 dX8_mirror_64 rfl (by decide) (by decide) ?_
          refine kw_bipush hC dX8_mirror_67 rfl (by decide) ?_
          refine kw_iload_n hC dX8_mirror_69 rfl 2 rfl ?_
          refine kw_imul hC dX8_mirror_70 rfl ?_
          refine kw_aload_n hC dX8_mirror_71 rfl 0 rfl ?_
          refine kg_30_0 hC w8 f11 dX8_mirror_72 rfl (by decide) (by decide) ?_
          refine kw_chi (z' := 0) (by exact h2) ?_
          refine kw_iadd hC dX8_mirror_75 rfl ?_
          refine kw_iconst hC dX8_mirror_76 rfl ?_
          refine ks_42 hC dX8_mirror_77 rfl (by decide) (by decide) (by omega) (by omega) ?_
          refine kw_iinc (lv' := [(2, _), (0, _), (1, _)]) hC dX8_mirror_78 rfl 2 rfl (by decide) rfl ?_
          refine kw_goto (tgt := 42) hC dX8_mirror_81 rfl (by decide) ?_
          refine kw_lv [1, 2, 0] rfl ?_
          exact ih42 (x + 1) _ (by omega) (by omega) h2 (by omega)
    refine kw_lv [1, 2, 0] rfl ?_
    exact hL42 7 0 _ (by omega) (by omega) hp1 (by omega)
  · refine kw_iconst hC dX8_mirror_12 rfl ?_
    exact hR.1 rfl _ _ _ _ dX8_mirror_13 ⟨_, rfl, by unfold q_mirror; (repeat' split) <;> omega⟩

set_option maxHeartbeats 4000000 in
set_option maxRecDepth 100000 in
/-- on a new object -/
theorem c1_X8_meet {g : wG} (hD : wD g) {S : wSt} {a b c d : Int} (ha : -2147483648 ≤ a ∧ a ≤ 2147483647) (hb : -2147483648 ≤ b ∧ b ≤ 2147483647) (hc : -2147483648 ≤ c ∧ c ≤ 2147483647) (hd : -2147483648 ≤ d ∧ d ≤ 2147483647) (hF : nM S) (l : Launch) : Kt l yX8_meet wsX8_meet ({ frames := 2, cells := 0, slots := 0, locals := 47 } : Room) g S [vr g 30 0, vi a, vi b, vi c, vi d] (pI (fun r _ => r = (-1))) := by
  refine Kt.of (cc := cX8_meet) (nL := 5) (ret := (some .int)) (own := RX8) rfl hD (by decide) rfl (Nat.le_of_ble_eq_true rfl) ⟨rfl, rfl⟩ ?_
  intro E hC hR
  show Wk E g 5 S 0 [(0, vr g 30 0), (1, vi a), (2, vi b), (3, vi c), (4, vi d)] []
  obtain ⟨hm, hk, hL, hN⟩ := hF
  refine kw_aload_n hC dX8_meet_0 rfl 0 rfl ?_
  refine kw_iload_n hC dX8_meet_1 rfl 1 rfl ?_
  refine kw_i2l hC dX8_meet_2 rfl (by omega) ?_
  refine kw_callV hC (c_X8_isMirror hD (by omega) (by omega) (by omega)) gX8_meet_X8_isMirror ⟨_, rfl⟩ rfl (by decide) (by decide) rfl ⟨rfl, rfl⟩ 1 (by decide +kernel) ⟨by decide, by decide⟩ rfl rfl (Nat.le_of_ble_eq_true rfl) dX8_meet_3 rfl (kd_ie ?_)
  refine kw_ifeq_b (tgt := 67) hC dX8_meet_6 rfl (by decide) ⟨fun c6 => ?_, fun c6 => False.elim (by omega)⟩
  refine kw_iconst hC dX8_meet_67 rfl ?_
  exact hR.1 rfl _ _ _ _ dX8_meet_68 ⟨_, rfl, rfl⟩

set_option maxHeartbeats 4000000 in
set_option maxRecDepth 100000 in
/-- on a new object -/
theorem c1_X8_less {g : wG} (hD : wD g) {S : wSt}  (hF : nM S) (l : Launch) : Kt l yX8_less wsX8_less ({ frames := 0, cells := 0, slots := 0, locals := 0 } : Room) g S [vr g 30 0] (pI (fun r _ => r = (-2))) := by
  refine Kt.of (cc := cX8_less) (nL := 1) (ret := (some .int)) (own := RX8) rfl hD (by decide) rfl (Nat.le_of_ble_eq_true rfl) ⟨rfl, rfl⟩ ?_
  intro E hC hR
  have f11 : Cond.fieldLink RX8 11 "MirrorBenchModel" "mirrors" "I" ∈ wsX8_less := by decide +kernel
  have w8 : ∀ w ∈ wsX80, w ∈ wsX8_less := by decide +kernel
  show Wk E g 1 S 0 [(0, vr g 30 0)] []
  obtain ⟨hm, hk, hL, hN⟩ := hF
  refine kw_aload_n hC dX8_less_0 rfl 0 rfl ?_
  refine kg_30_0 hC w8 f11 dX8_less_1 rfl (by decide) (by decide) ?_
  refine kw_chi (z' := 0) (by exact hm) ?_
  refine kw_if_ne (tgt := 10) hC dX8_less_4 rfl (by decide) (by omega) ⟨fun c4 => False.elim (by omega), fun c4 => ?_⟩
  refine kw_bipush hC dX8_less_7 rfl (by decide) ?_
  exact hR.1 rfl _ _ _ _ dX8_less_9 ⟨_, rfl, rfl⟩

set_option maxHeartbeats 4000000 in
set_option maxRecDepth 100000 in
/-- on a new object -/
theorem c1_X8_kind {g : wG} (hD : wD g) {S : wSt} {a b : Int} (ha : -2147483648 ≤ a ∧ a ≤ 2147483647) (hb : -2147483648 ≤ b ∧ b ≤ 2147483647) (hF : nM S) (l : Launch) : Kt l yX8_kind wsX8_kind ({ frames := 2, cells := 0, slots := 0, locals := 47 } : Room) g S [vr g 30 0, vi a, vi b] (pI (fun r _ => r = (-1))) := by
  refine Kt.of (cc := cX8_kind) (nL := 4) (ret := (some .int)) (own := RX8) rfl hD (by decide) rfl (Nat.le_of_ble_eq_true rfl) ⟨rfl, rfl⟩ ?_
  intro E hC hR
  show Wk E g 4 S 0 [(0, vr g 30 0), (1, vi a), (2, vi b)] []
  obtain ⟨hm, hk, hL, hN⟩ := hF
  refine kw_aload_n hC dX8_kind_0 rfl 0 rfl ?_
  refine kw_iload_n hC dX8_kind_1 rfl 1 rfl ?_
  refine kw_i2l hC dX8_kind_2 rfl (by omega) ?_
  refine kw_callV hC (c_X8_isMirror hD (by omega) (by omega) (by omega)) gX8_kind_X8_isMirror ⟨_, rfl⟩ rfl (by decide) (by decide) rfl ⟨rfl, rfl⟩ 1 (by decide +kernel) ⟨by decide, by decide⟩ rfl rfl (Nat.le_of_ble_eq_true rfl) dX8_kind_3 rfl (kd_ie ?_)
  refine kw_ifeq_b (tgt := 21) hC dX8_kind_6 rfl (by decide) ⟨fun c6 => ?_, fun c6 => False.elim (by omega)⟩
  refine kw_iconst hC dX8_kind_21 rfl ?_
  exact hR.1 rfl _ _ _ _ dX8_kind_22 ⟨_, rfl, rfl⟩

set_option maxHeartbeats 4000000 in
set_option maxRecDepth 100000 in
/-- on a new object -/
theorem c1_X8_undo {g : wG} (hD : wD g) {S : wSt}  (hF : nM S) (l : Launch) : Kt l yX8_undo wsX8_undo ({ frames := 0, cells := 0, slots := 0, locals := 0 } : Room) g S [vr g 30 0] (pI (fun r _ => r = (-2))) := by
  refine Kt.of (cc := cX8_undo) (nL := 3) (ret := (some .int)) (own := RX8) rfl hD (by decide) rfl (Nat.le_of_ble_eq_true rfl) ⟨rfl, rfl⟩ ?_
  intro E hC hR
  have f1 : Cond.fieldLink RX8 1 "MirrorBenchModel" "changes" "I" ∈ wsX8_undo := by decide +kernel
  have w8 : ∀ w ∈ wsX80, w ∈ wsX8_undo := by decide +kernel
  show Wk E g 3 S 0 [(0, vr g 30 0)] []
  obtain ⟨hm, hk, hL, hN⟩ := hF
  refine kw_aload_n hC dX8_undo_0 rfl 0 rfl ?_
  refine kg_30_4 hC w8 f1 dX8_undo_1 rfl (by decide) (by decide) ?_
  refine kw_chi (z' := 0) (by exact hk) ?_
  refine kw_if_ne (tgt := 10) hC dX8_undo_4 rfl (by decide) (by omega) ⟨fun c4 => False.elim (by omega), fun c4 => ?_⟩
  refine kw_bipush hC dX8_undo_7 rfl (by decide) ?_
  exact hR.1 rfl _ _ _ _ dX8_undo_9 ⟨_, rfl, rfl⟩

set_option maxHeartbeats 4000000 in
set_option maxRecDepth 100000 in
/-- on a new object -/
theorem c1_X8_told {g : wG} (hD : wD g) {S : wSt} {a b c : Int} (ha : -2147483648 ≤ a ∧ a ≤ 2147483647) (hb : -2147483648 ≤ b ∧ b ≤ 2147483647) (hc : -2147483648 ≤ c ∧ c ≤ 2147483647) (hF : nM S) (l : Launch) : Kt l yX8_told wsX8_told ({ frames := 2, cells := 0, slots := 0, locals := 47 } : Room) g S [vr g 30 0, vi a, vi b, vi c] (pI (fun r _ => r = q_told a)) := by
  refine Kt.of (cc := cX8_told) (nL := 4) (ret := (some .int)) (own := RX8) rfl hD (by decide) rfl (Nat.le_of_ble_eq_true rfl) ⟨rfl, rfl⟩ ?_
  intro E hC hR
  have f11 : Cond.fieldLink RX8 11 "MirrorBenchModel" "mirrors" "I" ∈ wsX8_told := by decide +kernel
  have l28 : Cond.constantLong RX8 28 (Int64.ofInt (2)) ∈ wsX8_told := by decide +kernel
  have w8 : ∀ w ∈ wsX80, w ∈ wsX8_told := by decide +kernel
  show Wk E g 4 S 0 [(0, vr g 30 0), (1, vi a), (2, vi b), (3, vi c)] []
  obtain ⟨hm, hk, hL, hN⟩ := hF
  refine kw_iload_n hC dX8_told_0 rfl 1 rfl ?_
  refine kw_iconst hC dX8_told_1 rfl ?_
  refine kw_icmp_ne (tgt := 10) hC dX8_told_2 rfl (by decide) (by omega) (by omega) ⟨fun c2 => ?_, fun c2 => ?_⟩
  · refine kw_iload_n hC dX8_told_10 rfl 1 rfl ?_
    refine kw_i2l hC dX8_told_11 rfl (by omega) ?_
    refine kw_lconst (z := 0) hC dX8_told_12 rfl rfl ?_
    refine kw_ldc2 (z := 2) hC dX8_told_13 rfl l28 ?_
    refine kw_callS hC (c_X8_in hD (by omega) (by omega) (by omega)) gX8_told_X8_in rfl ⟨rfl, rfl⟩ 3 (by decide +kernel) ⟨by decide, by decide⟩ rfl rfl (Nat.le_of_ble_eq_true rfl) dX8_told_16 rfl (kd_ie ?_)
    refine kw_ifeq_b (tgt := 44) hC dX8_told_19 rfl (by decide) ⟨fun c19 => ?_, fun c19 => ?_⟩
    · refine kw_iconst hC dX8_told_44 rfl ?_
      exact hR.1 rfl _ _ _ _ dX8_told_45 ⟨_, rfl, by unfold q_told; (repeat' split) <;> omega⟩
    · refine kw_aload_n hC dX8_told_22 rfl 0 rfl ?_
      refine kw_iload_n hC dX8_told_23 rfl 2 rfl ?_
      refine kw_i2l hC dX8_told_24 rfl (by omega) ?_
      refine kw_callV hC (c_X8_isMirror hD (by omega) (by omega) (by omega)) gX8_told_X8_isMirror ⟨_, rfl⟩ rfl (by decide) (by decide) rfl ⟨rfl, rfl⟩ 1 (by decide +kernel) ⟨by decide, by decide⟩ rfl rfl (Nat.le_of_ble_eq_true rfl) dX8_told_25 rfl (kd_ie ?_)
      refine kw_ifeq_b (tgt := 44) hC dX8_told_28 rfl (by decide) ⟨fun c28 => ?_, fun c28 => False.elim (by omega)⟩
      refine kw_iconst hC dX8_told_44 rfl ?_
      exact hR.1 rfl _ _ _ _ dX8_told_45 ⟨_, rfl, by unfold q_told; (repeat' split) <;> omega⟩
  · refine kw_aload_n hC dX8_told_5 rfl 0 rfl ?_
    refine kg_30_0 hC w8 f11 dX8_told_6 rfl (by decide) (by decide) ?_
    refine kw_chi (z' := 0) (by exact hm) ?_
    exact hR.1 rfl _ _ _ _ dX8_told_9 ⟨_, rfl, by unfold q_told; (repeat' split) <;> omega⟩

set_option maxHeartbeats 4000000 in
set_option maxRecDepth 100000 in
/-- on a new object -/
theorem c1_X8_clear {g : wG} (hD : wD g) {S : wSt} {a : Int} (ha : -2147483648 ≤ a ∧ a ≤ 2147483647) (hF : nM S) (l : Launch) : Kt l yX8_clear wsX8_clear ({ frames := 2, cells := 0, slots := 0, locals := 45 } : Room) g S [vr g 30 0, vi a] (pI (fun r _ => r = q_1 a)) := by
  refine Kt.of (cc := cX8_clear) (nL := 3) (ret := (some .int)) (own := RX8) rfl hD (by decide) rfl (Nat.le_of_ble_eq_true rfl) ⟨rfl, rfl⟩ ?_
  intro E hC hR
  have f43 : Cond.fieldLink RX8 43 "MirrorBenchModel" "lengths" "[I" ∈ wsX8_clear := by decide +kernel
  have w8 : ∀ w ∈ wsX80, w ∈ wsX8_clear := by decide +kernel
  show Wk E g 3 S 0 [(0, vr g 30 0), (1, vi a)] []
  obtain ⟨hm, hk, hL, hN⟩ := hF
  refine kw_iload_n hC dX8_clear_0 rfl 1 rfl ?_
  refine kw_callS hC (c_X8_isSlot hD (by omega)) gX8_clear_X8_isSlot rfl ⟨rfl, rfl⟩ 1 (by decide +kernel) ⟨by decide, by decide⟩ rfl rfl (Nat.le_of_ble_eq_true rfl) dX8_clear_1 rfl (kd_ie ?_)
  refine kw_ifne_b (tgt := 9) hC dX8_clear_4 rfl (by decide) ⟨fun c4 => ?_, fun c4 => ?_⟩
  · have hla := hL a (by omega) (by omega)
    refine kw_aload_n hC dX8_clear_9 rfl 0 rfl ?_
    refine kg_30_6 hC w8 f43 dX8_clear_10 rfl (by decide) (by decide) ?_
    refine kw_iload_n hC dX8_clear_13 rfl 1 rfl ?_
    refine ka_46 hC dX8_clear_14 rfl (by decide) (by decide) (by omega) (by omega) ?_
    refine kw_istore_n (lv' := [(2, _), (0, _), (1, _)]) hC dX8_clear_15 rfl (by decide) rfl ?_
    refine kw_aload_n hC dX8_clear_16 rfl 1 rfl ?_
    refine kg_30_6 hC w8 f43 dX8_clear_17 rfl (by decide) (by decide) ?_
    refine kw_iload_n hC dX8_clear_20 rfl 2 rfl ?_
    refine kw_iconst hC dX8_clear_21 rfl ?_
    refine ks_46 hC dX8_clear_22 rfl (by decide) (by decide) (by omega) (by omega) ?_
    refine kw_iload_n hC dX8_clear_23 rfl 0 rfl ?_
    exact hR.1 rfl _ _ _ _ dX8_clear_24 ⟨_, rfl, by unfold q_1; (repeat' split) <;> omega⟩
  · refine kw_iconst hC dX8_clear_7 rfl ?_
    exact hR.1 rfl _ _ _ _ dX8_clear_8 ⟨_, rfl, by unfold q_1; (repeat' split) <;> omega⟩

set_option maxHeartbeats 4000000 in
set_option maxRecDepth 100000 in
/-- on a new object -/
theorem c1_X8_put {g : wG} (hD : wD g) {S : wSt} {a b : Int} (ha : -2147483648 ≤ a ∧ a ≤ 2147483647) (hb : -2147483648 ≤ b ∧ b ≤ 2147483647) (hF : nM S) (l : Launch) : Kt l yX8_put wsX8_put ({ frames := 2, cells := 0, slots := 0, locals := 47 } : Room) g S [vr g 30 0, vi a, vi b] (pI (fun r _ => r = (-1))) := by
  refine Kt.of (cc := cX8_put) (nL := 3) (ret := (some .int)) (own := RX8) rfl hD (by decide) rfl (Nat.le_of_ble_eq_true rfl) ⟨rfl, rfl⟩ ?_
  intro E hC hR
  show Wk E g 3 S 0 [(0, vr g 30 0), (1, vi a), (2, vi b)] []
  obtain ⟨hm, hk, hL, hN⟩ := hF
  refine kw_iload_n hC dX8_put_0 rfl 1 rfl ?_
  refine kw_callS hC (c_X8_isSlot hD (by omega)) gX8_put_X8_isSlot rfl ⟨rfl, rfl⟩ 1 (by decide +kernel) ⟨by decide, by decide⟩ rfl rfl (Nat.le_of_ble_eq_true rfl) dX8_put_1 rfl (kd_ie ?_)
  refine kw_ifeq_b (tgt := 16) hC dX8_put_4 rfl (by decide) ⟨fun c4 => ?_, fun c4 => ?_⟩
  · refine kw_iconst hC dX8_put_16 rfl ?_
    exact hR.1 rfl _ _ _ _ dX8_put_17 ⟨_, rfl, rfl⟩
  · refine kw_aload_n hC dX8_put_7 rfl 0 rfl ?_
    refine kw_iload_n hC dX8_put_8 rfl 2 rfl ?_
    refine kw_i2l hC dX8_put_9 rfl (by omega) ?_
    refine kw_callV hC (c_X8_isMirror hD (by omega) (by omega) (by omega)) gX8_put_X8_isMirror ⟨_, rfl⟩ rfl (by decide) (by decide) rfl ⟨rfl, rfl⟩ 1 (by decide +kernel) ⟨by decide, by decide⟩ rfl rfl (Nat.le_of_ble_eq_true rfl) dX8_put_10 rfl (kd_ie ?_)
    refine kw_ifne_b (tgt := 18) hC dX8_put_13 rfl (by decide) ⟨fun c13 => False.elim (by omega), fun c13 => ?_⟩
    refine kw_iconst hC dX8_put_16 rfl ?_
    exact hR.1 rfl _ _ _ _ dX8_put_17 ⟨_, rfl, rfl⟩

set_option maxHeartbeats 4000000 in
set_option maxRecDepth 100000 in
/-- on a new object -/
theorem c1_X8_word {g : wG} (hD : wD g) {S : wSt} {a b c d e : Int} (ha : -2147483648 ≤ a ∧ a ≤ 2147483647) (hb : -2147483648 ≤ b ∧ b ≤ 2147483647) (hc : -2147483648 ≤ c ∧ c ≤ 2147483647) (hd : -2147483648 ≤ d ∧ d ≤ 2147483647) (he : -2147483648 ≤ e ∧ e ≤ 2147483647) (hF : nM S) (l : Launch) : Kt l yX8_word wsX8_word ({ frames := 2, cells := 0, slots := 0, locals := 45 } : Room) g S [vr g 30 0, vi a, vi b, vi c, vi d, vi e] (pI (fun r _ => r = q_word a b c)) := by
  refine Kt.of (cc := cX8_word) (nL := 7) (ret := (some .int)) (own := RX8) rfl hD (by decide) rfl (Nat.le_of_ble_eq_true rfl) ⟨rfl, rfl⟩ ?_
  intro E hC hR
  have f234 : Cond.fieldLink RX8 234 "MirrorBenchModel" "lanes" "[I" ∈ wsX8_word := by decide +kernel
  have l28 : Cond.constantLong RX8 28 (Int64.ofInt (2)) ∈ wsX8_word := by decide +kernel
  have w8 : ∀ w ∈ wsX80, w ∈ wsX8_word := by decide +kernel
  show Wk E g 7 S 0 [(0, vr g 30 0), (1, vi a), (2, vi b), (3, vi c), (4, vi d), (5, vi e)] []
  obtain ⟨hm, hk, hL, hN⟩ := hF
  refine kw_iload_n hC dX8_word_0 rfl 1 rfl ?_
  refine kw_callS hC (c_X8_isSlot hD (by omega)) gX8_word_X8_isSlot rfl ⟨rfl, rfl⟩ 1 (by decide +kernel) ⟨by decide, by decide⟩ rfl rfl (Nat.le_of_ble_eq_true rfl) dX8_word_1 rfl (kd_ie ?_)
  refine kw_ifeq_b (tgt := 26) hC dX8_word_4 rfl (by decide) ⟨fun c4 => ?_, fun c4 => ?_⟩
  · refine kw_iconst hC dX8_word_26 rfl ?_
    exact hR.1 rfl _ _ _ _ dX8_word_27 ⟨_, rfl, by unfold q_word; (repeat' split) <;> omega⟩
  · refine kw_iload_n hC dX8_word_7 rfl 2 rfl ?_
    refine kw_callS hC (c_X8_isLeaf hD (by omega)) gX8_word_X8_isLeaf rfl ⟨rfl, rfl⟩ 1 (by decide +kernel) ⟨by decide, by decide⟩ rfl rfl (Nat.le_of_ble_eq_true rfl) dX8_word_8 rfl (kd_ie ?_)
    refine kw_ifeq_b (tgt := 26) hC dX8_word_11 rfl (by decide) ⟨fun c11 => ?_, fun c11 => ?_⟩
    · refine kw_iconst hC dX8_word_26 rfl ?_
      exact hR.1 rfl _ _ _ _ dX8_word_27 ⟨_, rfl, by unfold q_word; (repeat' split) <;> omega⟩
    · refine kw_iload_n hC dX8_word_14 rfl 3 rfl ?_
      refine kw_i2l hC dX8_word_15 rfl (by omega) ?_
      refine kw_lconst (z := 0) hC dX8_word_16 rfl rfl ?_
      refine kw_ldc2 (z := 2) hC dX8_word_17 rfl l28 ?_
      refine kw_callS hC (c_X8_in hD (by omega) (by omega) (by omega)) gX8_word_X8_in rfl ⟨rfl, rfl⟩ 3 (by decide +kernel) ⟨by decide, by decide⟩ rfl rfl (Nat.le_of_ble_eq_true rfl) dX8_word_20 rfl (kd_ie ?_)
      refine kw_ifne_b (tgt := 28) hC dX8_word_23 rfl (by decide) ⟨fun c23 => ?_, fun c23 => ?_⟩
      · have hlb := hN b (by omega) (by omega)
        refine kw_aload_n hC dX8_word_28 rfl 0 rfl ?_
        refine kg_30_29 hC w8 f234 dX8_word_29 rfl (by decide) (by decide) ?_
        refine kw_iload_n hC dX8_word_32 rfl 2 rfl ?_
        refine ka_69 hC dX8_word_33 rfl (by decide) (by decide) (by omega) (by omega) ?_
        refine kw_if_ge (tgt := 40) hC dX8_word_34 rfl (by decide) (by omega) ⟨fun c34 => False.elim (by omega), fun c34 => ?_⟩
        refine kw_bipush hC dX8_word_37 rfl (by decide) ?_
        exact hR.1 rfl _ _ _ _ dX8_word_39 ⟨_, rfl, by unfold q_word; (repeat' split) <;> omega⟩
      · refine kw_iconst hC dX8_word_26 rfl ?_
        exact hR.1 rfl _ _ _ _ dX8_word_27 ⟨_, rfl, by unfold q_word; (repeat' split) <;> omega⟩

set_option maxHeartbeats 4000000 in
set_option maxRecDepth 100000 in
/-- on a new object -/
theorem c1_X8_at {g : wG} (hD : wD g) {S : wSt} {a b : Int} (ha : -2147483648 ≤ a ∧ a ≤ 2147483647) (hb : -2147483648 ≤ b ∧ b ≤ 2147483647) (hF : nM S) (l : Launch) : Kt l yX8_at wsX8_at ({ frames := 2, cells := 0, slots := 0, locals := 45 } : Room) g S [vr g 30 0, vi a, vi b] (pI (fun r _ => r = q_at a b)) := by
  refine Kt.of (cc := cX8_at) (nL := 3) (ret := (some .int)) (own := RX8) rfl hD (by decide) rfl (Nat.le_of_ble_eq_true rfl) ⟨rfl, rfl⟩ ?_
  intro E hC hR
  have f43 : Cond.fieldLink RX8 43 "MirrorBenchModel" "lengths" "[I" ∈ wsX8_at := by decide +kernel
  have l55 : Cond.constantLong RX8 55 (Int64.ofInt (-1)) ∈ wsX8_at := by decide +kernel
  have w8 : ∀ w ∈ wsX80, w ∈ wsX8_at := by decide +kernel
  show Wk E g 3 S 0 [(0, vr g 30 0), (1, vi a), (2, vi b)] []
  obtain ⟨hm, hk, hL, hN⟩ := hF
  refine kw_iload_n hC dX8_at_0 rfl 1 rfl ?_
  refine kw_callS hC (c_X8_isSlot hD (by omega)) gX8_at_X8_isSlot rfl ⟨rfl, rfl⟩ 1 (by decide +kernel) ⟨by decide, by decide⟩ rfl rfl (Nat.le_of_ble_eq_true rfl) dX8_at_1 rfl (kd_ie ?_)
  refine kw_ifeq_b (tgt := 27) hC dX8_at_4 rfl (by decide) ⟨fun c4 => ?_, fun c4 => ?_⟩
  · refine kw_iconst hC dX8_at_27 rfl ?_
    exact hR.1 rfl _ _ _ _ dX8_at_28 ⟨_, rfl, by unfold q_at; (repeat' split) <;> omega⟩
  · have hla := hL a (by omega) (by omega)
    refine kw_iload_n hC dX8_at_7 rfl 2 rfl ?_
    refine kw_i2l hC dX8_at_8 rfl (by omega) ?_
    refine kw_ldc2 (z := -1) hC dX8_at_9 rfl l55 ?_
    refine kw_aload_n hC dX8_at_12 rfl 0 rfl ?_
    refine kg_30_6 hC w8 f43 dX8_at_13 rfl (by decide) (by decide) ?_
    refine kw_iload_n hC dX8_at_16 rfl 1 rfl ?_
    refine ka_46 hC dX8_at_17 rfl (by decide) (by decide) (by omega) (by omega) ?_
    refine kw_iconst hC dX8_at_18 rfl ?_
    refine kw_isub hC dX8_at_19 rfl ?_
    refine kw_i2l hC dX8_at_20 rfl (by omega) ?_
    refine kw_callS hC (c_X8_in hD (by omega) (by omega) (by omega)) gX8_at_X8_in rfl ⟨rfl, rfl⟩ 3 (by decide +kernel) ⟨by decide, by decide⟩ rfl rfl (Nat.le_of_ble_eq_true rfl) dX8_at_21 rfl (kd_ie ?_)
    refine kw_ifne_b (tgt := 29) hC dX8_at_24 rfl (by decide) ⟨fun c24 => ?_, fun c24 => ?_⟩
    · refine kw_iload_n hC dX8_at_29 rfl 2 rfl ?_
      refine kw_iconst hC dX8_at_30 rfl ?_
      refine kw_icmp_ne (tgt := 43) hC dX8_at_31 rfl (by decide) (by omega) (by omega) ⟨fun c31 => False.elim (by omega), fun c31 => ?_⟩
      refine kw_aload_n hC dX8_at_34 rfl 0 rfl ?_
      refine kg_30_6 hC w8 f43 dX8_at_35 rfl (by decide) (by decide) ?_
      refine kw_iload_n hC dX8_at_38 rfl 1 rfl ?_
      refine ka_46 hC dX8_at_39 rfl (by decide) (by decide) (by omega) (by omega) ?_
      refine kw_goto (tgt := 54) hC dX8_at_40 rfl (by decide) ?_
      exact hR.1 rfl _ _ _ _ dX8_at_54 ⟨_, rfl, by unfold q_at; (repeat' split) <;> omega⟩
    · refine kw_iconst hC dX8_at_27 rfl ?_
      exact hR.1 rfl _ _ _ _ dX8_at_28 ⟨_, rfl, by unfold q_at; (repeat' split) <;> omega⟩

set_option maxHeartbeats 4000000 in
set_option maxRecDepth 100000 in
/-- on a new object -/
theorem c1_X8_times {g : wG} (hD : wD g) {S : wSt} {a b c : Int} (ha : -2147483648 ≤ a ∧ a ≤ 2147483647) (hb : -2147483648 ≤ b ∧ b ≤ 2147483647) (hc : -2147483648 ≤ c ∧ c ≤ 2147483647) (hF : nM S) (l : Launch) : Kt l yX8_times wsX8_times ({ frames := 2, cells := 0, slots := 0, locals := 45 } : Room) g S [vr g 30 0, vi a, vi b, vi c] (pI (fun r _ => r = q_3 a b c)) := by
  refine Kt.of (cc := cX8_times) (nL := 4) (ret := (some .int)) (own := RX8) rfl hD (by decide) rfl (Nat.le_of_ble_eq_true rfl) ⟨rfl, rfl⟩ ?_
  intro E hC hR
  have f43 : Cond.fieldLink RX8 43 "MirrorBenchModel" "lengths" "[I" ∈ wsX8_times := by decide +kernel
  have w8 : ∀ w ∈ wsX80, w ∈ wsX8_times := by decide +kernel
  show Wk E g 4 S 0 [(0, vr g 30 0), (1, vi a), (2, vi b), (3, vi c)] []
  obtain ⟨hm, hk, hL, hN⟩ := hF
  refine kw_iload_n hC dX8_times_0 rfl 1 rfl ?_
  refine kw_callS hC (c_X8_isSlot hD (by omega)) gX8_times_X8_isSlot rfl ⟨rfl, rfl⟩ 1 (by decide +kernel) ⟨by decide, by decide⟩ rfl rfl (Nat.le_of_ble_eq_true rfl) dX8_times_1 rfl (kd_ie ?_)
  refine kw_ifeq_b (tgt := 21) hC dX8_times_4 rfl (by decide) ⟨fun c4 => ?_, fun c4 => ?_⟩
  · refine kw_iconst hC dX8_times_21 rfl ?_
    exact hR.1 rfl _ _ _ _ dX8_times_22 ⟨_, rfl, by unfold q_3; (repeat' split) <;> omega⟩
  · refine kw_iload_n hC dX8_times_7 rfl 2 rfl ?_
    refine kw_callS hC (c_X8_isSlot hD (by omega)) gX8_times_X8_isSlot rfl ⟨rfl, rfl⟩ 1 (by decide +kernel) ⟨by decide, by decide⟩ rfl rfl (Nat.le_of_ble_eq_true rfl) dX8_times_8 rfl (kd_ie ?_)
    refine kw_ifeq_b (tgt := 21) hC dX8_times_11 rfl (by decide) ⟨fun c11 => ?_, fun c11 => ?_⟩
    · refine kw_iconst hC dX8_times_21 rfl ?_
      exact hR.1 rfl _ _ _ _ dX8_times_22 ⟨_, rfl, by unfold q_3; (repeat' split) <;> omega⟩
    · refine kw_iload_n hC dX8_times_14 rfl 3 rfl ?_
      refine kw_callS hC (c_X8_isSlot hD (by omega)) gX8_times_X8_isSlot rfl ⟨rfl, rfl⟩ 1 (by decide +kernel) ⟨by decide, by decide⟩ rfl rfl (Nat.le_of_ble_eq_true rfl) dX8_times_15 rfl (kd_ie ?_)
      refine kw_ifne_b (tgt := 23) hC dX8_times_18 rfl (by decide) ⟨fun c18 => ?_, fun c18 => ?_⟩
      · have hla := hL a (by omega) (by omega)
        have hlb := hL b (by omega) (by omega)
        refine kw_aload_n hC dX8_times_23 rfl 0 rfl ?_
        refine kg_30_6 hC w8 f43 dX8_times_24 rfl (by decide) (by decide) ?_
        refine kw_iload_n hC dX8_times_27 rfl 1 rfl ?_
        refine ka_46 hC dX8_times_28 rfl (by decide) (by decide) (by omega) (by omega) ?_
        refine kw_aload_n hC dX8_times_29 rfl 0 rfl ?_
        refine kg_30_6 hC w8 f43 dX8_times_30 rfl (by decide) (by decide) ?_
        refine kw_iload_n hC dX8_times_33 rfl 2 rfl ?_
        refine ka_46 hC dX8_times_34 rfl (by decide) (by decide) (by omega) (by omega) ?_
        refine kw_iadd hC dX8_times_35 rfl ?_
        refine kw_bipush hC dX8_times_36 rfl (by decide) ?_
        refine kw_icmp_le (tgt := 44) hC dX8_times_38 rfl (by decide) (by omega) (by omega) ⟨fun c38 => ?_, fun c38 => False.elim (by omega)⟩
        refine kw_aload_n hC dX8_times_44 rfl 0 rfl ?_
        refine kw_iload_n hC dX8_times_45 rfl 1 rfl ?_
        refine kw_callV hC (c1_X8_load hD (by omega) (by omega) (by exact hla)) gX8_times_X8_load ⟨_, rfl⟩ rfl (by decide) (by decide) rfl ⟨rfl, rfl⟩ 1 (by decide +kernel) ⟨by decide, by decide⟩ rfl rfl (Nat.le_of_ble_eq_true rfl) dX8_times_46 rfl (kd_ve ?_)
        refine kw_aload_n hC dX8_times_49 rfl 0 rfl ?_
        refine kw_iload_n hC dX8_times_50 rfl 2 rfl ?_
        refine kw_callV hC (c1_X8_loadMore hD (by omega) (by omega) (by exact hlb)) gX8_times_X8_loadMore ⟨_, rfl⟩ rfl (by decide) (by decide) rfl ⟨rfl, rfl⟩ 1 (by decide +kernel) ⟨by decide, by decide⟩ rfl rfl (Nat.le_of_ble_eq_true rfl) dX8_times_51 rfl (kd_ve ?_)
        refine kw_aload_n hC dX8_times_54 rfl 0 rfl ?_
        refine kw_iload_n hC dX8_times_55 rfl 3 rfl ?_
        refine kw_callV hC (c1_X8_store hD (by omega) (by omega) (by exact hla)) gX8_times_X8_store ⟨_, rfl⟩ rfl (by decide) (by decide) rfl ⟨rfl, rfl⟩ 1 (by decide +kernel) ⟨by decide, by decide⟩ rfl rfl (Nat.le_of_ble_eq_true rfl) dX8_times_56 rfl (kd_ie ?_)
        exact hR.1 rfl _ _ _ _ dX8_times_59 ⟨_, rfl, by unfold q_3; (repeat' split) <;> omega⟩
      · refine kw_iconst hC dX8_times_21 rfl ?_
        exact hR.1 rfl _ _ _ _ dX8_times_22 ⟨_, rfl, by unfold q_3; (repeat' split) <;> omega⟩

set_option maxHeartbeats 4000000 in
set_option maxRecDepth 100000 in
/-- on a new object -/
theorem c1_X8_back {g : wG} (hD : wD g) {S : wSt} {a b : Int} (ha : -2147483648 ≤ a ∧ a ≤ 2147483647) (hb : -2147483648 ≤ b ∧ b ≤ 2147483647) (hF : nM S) (l : Launch) : Kt l yX8_back wsX8_back ({ frames := 2, cells := 0, slots := 0, locals := 45 } : Room) g S [vr g 30 0, vi a, vi b] (pI (fun r _ => r = q_2 a b)) := by
  refine Kt.of (cc := cX8_back) (nL := 3) (ret := (some .int)) (own := RX8) rfl hD (by decide) rfl (Nat.le_of_ble_eq_true rfl) ⟨rfl, rfl⟩ ?_
  intro E hC hR
  show Wk E g 3 S 0 [(0, vr g 30 0), (1, vi a), (2, vi b)] []
  obtain ⟨hm, hk, hL, hN⟩ := hF
  refine kw_iload_n hC dX8_back_0 rfl 1 rfl ?_
  refine kw_callS hC (c_X8_isSlot hD (by omega)) gX8_back_X8_isSlot rfl ⟨rfl, rfl⟩ 1 (by decide +kernel) ⟨by decide, by decide⟩ rfl rfl (Nat.le_of_ble_eq_true rfl) dX8_back_1 rfl (kd_ie ?_)
  refine kw_ifeq_b (tgt := 14) hC dX8_back_4 rfl (by decide) ⟨fun c4 => ?_, fun c4 => ?_⟩
  · refine kw_iconst hC dX8_back_14 rfl ?_
    exact hR.1 rfl _ _ _ _ dX8_back_15 ⟨_, rfl, by unfold q_2; (repeat' split) <;> omega⟩
  · refine kw_iload_n hC dX8_back_7 rfl 2 rfl ?_
    refine kw_callS hC (c_X8_isSlot hD (by omega)) gX8_back_X8_isSlot rfl ⟨rfl, rfl⟩ 1 (by decide +kernel) ⟨by decide, by decide⟩ rfl rfl (Nat.le_of_ble_eq_true rfl) dX8_back_8 rfl (kd_ie ?_)
    refine kw_ifne_b (tgt := 16) hC dX8_back_11 rfl (by decide) ⟨fun c11 => ?_, fun c11 => ?_⟩
    · have hla := hL a (by omega) (by omega)
      refine kw_aload_n hC dX8_back_16 rfl 0 rfl ?_
      refine kw_iload_n hC dX8_back_17 rfl 1 rfl ?_
      refine kw_callV hC (c1_X8_loadBack hD (by omega) (by omega) (by exact hla)) gX8_back_X8_loadBack ⟨_, rfl⟩ rfl (by decide) (by decide) rfl ⟨rfl, rfl⟩ 1 (by decide +kernel) ⟨by decide, by decide⟩ rfl rfl (Nat.le_of_ble_eq_true rfl) dX8_back_18 rfl (kd_ve ?_)
      refine kw_aload_n hC dX8_back_21 rfl 0 rfl ?_
      refine kw_iload_n hC dX8_back_22 rfl 2 rfl ?_
      refine kw_callV hC (c1_X8_store hD (by omega) (by omega) (by rfl)) gX8_back_X8_store ⟨_, rfl⟩ rfl (by decide) (by decide) rfl ⟨rfl, rfl⟩ 1 (by decide +kernel) ⟨by decide, by decide⟩ rfl rfl (Nat.le_of_ble_eq_true rfl) dX8_back_23 rfl (kd_ie ?_)
      exact hR.1 rfl _ _ _ _ dX8_back_26 ⟨_, rfl, by unfold q_2; (repeat' split) <;> omega⟩
    · refine kw_iconst hC dX8_back_14 rfl ?_
      exact hR.1 rfl _ _ _ _ dX8_back_15 ⟨_, rfl, by unfold q_2; (repeat' split) <;> omega⟩

set_option maxHeartbeats 4000000 in
set_option maxRecDepth 100000 in
/-- on a new object -/
theorem c1_X8_without {g : wG} (hD : wD g) {S : wSt} {a b : Int} (ha : -2147483648 ≤ a ∧ a ≤ 2147483647) (hb : -2147483648 ≤ b ∧ b ≤ 2147483647) (hF : nM S) (l : Launch) : Kt l yX8_without wsX8_without ({ frames := 2, cells := 0, slots := 0, locals := 45 } : Room) g S [vr g 30 0, vi a, vi b] (pI (fun r _ => r = q_2 a b)) := by
  refine Kt.of (cc := cX8_without) (nL := 5) (ret := (some .int)) (own := RX8) rfl hD (by decide) rfl (Nat.le_of_ble_eq_true rfl) ⟨rfl, rfl⟩ ?_
  intro E hC hR
  have f43 : Cond.fieldLink RX8 43 "MirrorBenchModel" "lengths" "[I" ∈ wsX8_without := by decide +kernel
  have f57 : Cond.fieldLink RX8 57 "MirrorBenchModel" "wMany" "I" ∈ wsX8_without := by decide +kernel
  have w8 : ∀ w ∈ wsX80, w ∈ wsX8_without := by decide +kernel
  show Wk E g 5 S 0 [(0, vr g 30 0), (1, vi a), (2, vi b)] []
  obtain ⟨hm, hk, hL, hN⟩ := hF
  refine kw_iload_n hC dX8_without_0 rfl 1 rfl ?_
  refine kw_callS hC (c_X8_isSlot hD (by omega)) gX8_without_X8_isSlot rfl ⟨rfl, rfl⟩ 1 (by decide +kernel) ⟨by decide, by decide⟩ rfl rfl (Nat.le_of_ble_eq_true rfl) dX8_without_1 rfl (kd_ie ?_)
  refine kw_ifeq_b (tgt := 14) hC dX8_without_4 rfl (by decide) ⟨fun c4 => ?_, fun c4 => ?_⟩
  · refine kw_iconst hC dX8_without_14 rfl ?_
    exact hR.1 rfl _ _ _ _ dX8_without_15 ⟨_, rfl, by unfold q_2; (repeat' split) <;> omega⟩
  · refine kw_iload_n hC dX8_without_7 rfl 2 rfl ?_
    refine kw_callS hC (c_X8_isSlot hD (by omega)) gX8_without_X8_isSlot rfl ⟨rfl, rfl⟩ 1 (by decide +kernel) ⟨by decide, by decide⟩ rfl rfl (Nat.le_of_ble_eq_true rfl) dX8_without_8 rfl (kd_ie ?_)
    refine kw_ifne_b (tgt := 16) hC dX8_without_11 rfl (by decide) ⟨fun c11 => ?_, fun c11 => ?_⟩
    · have hla := hL a (by omega) (by omega)
      refine kw_aload_n hC dX8_without_16 rfl 0 rfl ?_
      refine kw_iconst hC dX8_without_17 rfl ?_
      refine kp_30_14 hC w8 f57 dX8_without_18 rfl (by decide) (by decide) ?_
      refine kw_iconst hC dX8_without_21 rfl ?_
      refine kw_istore_n (lv' := [(3, _), (0, _), (1, _), (2, _)]) hC dX8_without_22 rfl (by decide) rfl ?_
      refine kw_iload_n hC dX8_without_23 rfl 0 rfl ?_
      refine kw_aload_n hC dX8_without_24 rfl 1 rfl ?_
      refine kg_30_6 hC w8 f43 dX8_without_25 rfl (by decide) (by decide) ?_
      refine kw_iload_n hC dX8_without_28 rfl 2 rfl ?_
      refine ka_46 hC dX8_without_29 rfl (by decide) (by decide) (by omega) (by omega) ?_
      refine kw_chi (z' := 0) (by exact hla) ?_
      refine kw_icmp_ge (tgt := 84) hC dX8_without_30 rfl (by decide) (by omega) (by omega) ⟨fun c30 => ?_, fun c30 => False.elim (by omega)⟩
      refine kw_aload_n hC dX8_without_84 rfl 1 rfl ?_
      refine kw_iload_n hC dX8_without_85 rfl 3 rfl ?_
      refine kw_callV hC (c1_X8_store hD (by omega) (by omega) (by rfl)) gX8_without_X8_store ⟨_, rfl⟩ rfl (by decide) (by decide) rfl ⟨rfl, rfl⟩ 1 (by decide +kernel) ⟨by decide, by decide⟩ rfl rfl (Nat.le_of_ble_eq_true rfl) dX8_without_86 rfl (kd_ie ?_)
      exact hR.1 rfl _ _ _ _ dX8_without_89 ⟨_, rfl, by unfold q_2; (repeat' split) <;> omega⟩
    · refine kw_iconst hC dX8_without_14 rfl ?_
      exact hR.1 rfl _ _ _ _ dX8_without_15 ⟨_, rfl, by unfold q_2; (repeat' split) <;> omega⟩

set_option maxHeartbeats 4000000 in
set_option maxRecDepth 100000 in
/-- on a new object -/
theorem c1_X8_cut {g : wG} (hD : wD g) {S : wSt} {a b : Int} (ha : -2147483648 ≤ a ∧ a ≤ 2147483647) (hb : -2147483648 ≤ b ∧ b ≤ 2147483647) (hF : nM S) (l : Launch) : Kt l yX8_cut wsX8_cut ({ frames := 2, cells := 0, slots := 0, locals := 45 } : Room) g S [vr g 30 0, vi a, vi b] (pI (fun r _ => r = (-1))) := by
  refine Kt.of (cc := cX8_cut) (nL := 5) (ret := (some .int)) (own := RX8) rfl hD (by decide) rfl (Nat.le_of_ble_eq_true rfl) ⟨rfl, rfl⟩ ?_
  intro E hC hR
  have f43 : Cond.fieldLink RX8 43 "MirrorBenchModel" "lengths" "[I" ∈ wsX8_cut := by decide +kernel
  have w8 : ∀ w ∈ wsX80, w ∈ wsX8_cut := by decide +kernel
  show Wk E g 5 S 0 [(0, vr g 30 0), (1, vi a), (2, vi b)] []
  obtain ⟨hm, hk, hL, hN⟩ := hF
  refine kw_iload_n hC dX8_cut_0 rfl 1 rfl ?_
  refine kw_callS hC (c_X8_isSlot hD (by omega)) gX8_cut_X8_isSlot rfl ⟨rfl, rfl⟩ 1 (by decide +kernel) ⟨by decide, by decide⟩ rfl rfl (Nat.le_of_ble_eq_true rfl) dX8_cut_1 rfl (kd_ie ?_)
  refine kw_ifeq_b (tgt := 25) hC dX8_cut_4 rfl (by decide) ⟨fun c4 => ?_, fun c4 => ?_⟩
  · refine kw_iconst hC dX8_cut_25 rfl ?_
    exact hR.1 rfl _ _ _ _ dX8_cut_26 ⟨_, rfl, rfl⟩
  · have hla := hL a (by omega) (by omega)
    refine kw_iload_n hC dX8_cut_7 rfl 2 rfl ?_
    refine kw_i2l hC dX8_cut_8 rfl (by omega) ?_
    refine kw_lconst (z := 0) hC dX8_cut_9 rfl rfl ?_
    refine kw_aload_n hC dX8_cut_10 rfl 0 rfl ?_
    refine kg_30_6 hC w8 f43 dX8_cut_11 rfl (by decide) (by decide) ?_
    refine kw_iload_n hC dX8_cut_14 rfl 1 rfl ?_
    refine ka_46 hC dX8_cut_15 rfl (by decide) (by decide) (by omega) (by omega) ?_
    refine kw_iconst hC dX8_cut_16 rfl ?_
    refine kw_isub hC dX8_cut_17 rfl ?_
    refine kw_i2l hC dX8_cut_18 rfl (by omega) ?_
    refine kw_callS hC (c_X8_in hD (by omega) (by omega) (by omega)) gX8_cut_X8_in rfl ⟨rfl, rfl⟩ 3 (by decide +kernel) ⟨by decide, by decide⟩ rfl rfl (Nat.le_of_ble_eq_true rfl) dX8_cut_19 rfl (kd_ie ?_)
    refine kw_ifne_b (tgt := 27) hC dX8_cut_22 rfl (by decide) ⟨fun c22 => False.elim (by omega), fun c22 => ?_⟩
    refine kw_iconst hC dX8_cut_25 rfl ?_
    exact hR.1 rfl _ _ _ _ dX8_cut_26 ⟨_, rfl, rfl⟩

set_option maxHeartbeats 4000000 in
set_option maxRecDepth 100000 in
/-- on a new object -/
theorem c1_X8_change {g : wG} (hD : wD g) {S : wSt} {a b : Int} (ha : -2147483648 ≤ a ∧ a ≤ 2147483647) (hb : -2147483648 ≤ b ∧ b ≤ 2147483647) (hF : nM S) (l : Launch) : Kt l yX8_change wsX8_change ({ frames := 2, cells := 0, slots := 0, locals := 45 } : Room) g S [vr g 30 0, vi a, vi b] (pI (fun r _ => r = (-1))) := by
  refine Kt.of (cc := cX8_change) (nL := 7) (ret := (some .int)) (own := RX8) rfl hD (by decide) rfl (Nat.le_of_ble_eq_true rfl) ⟨rfl, rfl⟩ ?_
  intro E hC hR
  have f43 : Cond.fieldLink RX8 43 "MirrorBenchModel" "lengths" "[I" ∈ wsX8_change := by decide +kernel
  have w8 : ∀ w ∈ wsX80, w ∈ wsX8_change := by decide +kernel
  show Wk E g 7 S 0 [(0, vr g 30 0), (1, vi a), (2, vi b)] []
  obtain ⟨hm, hk, hL, hN⟩ := hF
  refine kw_iload_n hC dX8_change_0 rfl 1 rfl ?_
  refine kw_callS hC (c_X8_isSlot hD (by omega)) gX8_change_X8_isSlot rfl ⟨rfl, rfl⟩ 1 (by decide +kernel) ⟨by decide, by decide⟩ rfl rfl (Nat.le_of_ble_eq_true rfl) dX8_change_1 rfl (kd_ie ?_)
  refine kw_ifeq_b (tgt := 25) hC dX8_change_4 rfl (by decide) ⟨fun c4 => ?_, fun c4 => ?_⟩
  · refine kw_iconst hC dX8_change_25 rfl ?_
    exact hR.1 rfl _ _ _ _ dX8_change_26 ⟨_, rfl, rfl⟩
  · have hla := hL a (by omega) (by omega)
    refine kw_iload_n hC dX8_change_7 rfl 2 rfl ?_
    refine kw_i2l hC dX8_change_8 rfl (by omega) ?_
    refine kw_lconst (z := 0) hC dX8_change_9 rfl rfl ?_
    refine kw_aload_n hC dX8_change_10 rfl 0 rfl ?_
    refine kg_30_6 hC w8 f43 dX8_change_11 rfl (by decide) (by decide) ?_
    refine kw_iload_n hC dX8_change_14 rfl 1 rfl ?_
    refine ka_46 hC dX8_change_15 rfl (by decide) (by decide) (by omega) (by omega) ?_
    refine kw_iconst hC dX8_change_16 rfl ?_
    refine kw_isub hC dX8_change_17 rfl ?_
    refine kw_i2l hC dX8_change_18 rfl (by omega) ?_
    refine kw_callS hC (c_X8_in hD (by omega) (by omega) (by omega)) gX8_change_X8_in rfl ⟨rfl, rfl⟩ 3 (by decide +kernel) ⟨by decide, by decide⟩ rfl rfl (Nat.le_of_ble_eq_true rfl) dX8_change_19 rfl (kd_ie ?_)
    refine kw_ifne_b (tgt := 27) hC dX8_change_22 rfl (by decide) ⟨fun c22 => False.elim (by omega), fun c22 => ?_⟩
    refine kw_iconst hC dX8_change_25 rfl ?_
    exact hR.1 rfl _ _ _ _ dX8_change_26 ⟨_, rfl, rfl⟩

set_option maxHeartbeats 4000000 in
set_option maxRecDepth 100000 in
/-- on a new object -/
theorem c1_X8_shorten {g : wG} (hD : wD g) {S : wSt} {a b : Int} (ha : -2147483648 ≤ a ∧ a ≤ 2147483647) (hb : -2147483648 ≤ b ∧ b ≤ 2147483647) (hF : nM S) (l : Launch) : Kt l yX8_shorten wsX8_shorten ({ frames := 2, cells := 0, slots := 0, locals := 45 } : Room) g S [vr g 30 0, vi a, vi b] (pI (fun r _ => r = q_2 a b)) := by
  refine Kt.of (cc := cX8_shorten) (nL := 3) (ret := (some .int)) (own := RX8) rfl hD (by decide) rfl (Nat.le_of_ble_eq_true rfl) ⟨rfl, rfl⟩ ?_
  intro E hC hR
  show Wk E g 3 S 0 [(0, vr g 30 0), (1, vi a), (2, vi b)] []
  obtain ⟨hm, hk, hL, hN⟩ := hF
  refine kw_iload_n hC dX8_shorten_0 rfl 1 rfl ?_
  refine kw_callS hC (c_X8_isSlot hD (by omega)) gX8_shorten_X8_isSlot rfl ⟨rfl, rfl⟩ 1 (by decide +kernel) ⟨by decide, by decide⟩ rfl rfl (Nat.le_of_ble_eq_true rfl) dX8_shorten_1 rfl (kd_ie ?_)
  refine kw_ifeq_b (tgt := 14) hC dX8_shorten_4 rfl (by decide) ⟨fun c4 => ?_, fun c4 => ?_⟩
  · refine kw_iconst hC dX8_shorten_14 rfl ?_
    exact hR.1 rfl _ _ _ _ dX8_shorten_15 ⟨_, rfl, by unfold q_2; (repeat' split) <;> omega⟩
  · refine kw_iload_n hC dX8_shorten_7 rfl 2 rfl ?_
    refine kw_callS hC (c_X8_isSlot hD (by omega)) gX8_shorten_X8_isSlot rfl ⟨rfl, rfl⟩ 1 (by decide +kernel) ⟨by decide, by decide⟩ rfl rfl (Nat.le_of_ble_eq_true rfl) dX8_shorten_8 rfl (kd_ie ?_)
    refine kw_ifne_b (tgt := 16) hC dX8_shorten_11 rfl (by decide) ⟨fun c11 => ?_, fun c11 => ?_⟩
    · have hla := hL a (by omega) (by omega)
      refine kw_aload_n hC dX8_shorten_16 rfl 0 rfl ?_
      refine kw_iload_n hC dX8_shorten_17 rfl 1 rfl ?_
      refine kw_callV hC (c1_X8_load hD (by omega) (by omega) (by exact hla)) gX8_shorten_X8_load ⟨_, rfl⟩ rfl (by decide) (by decide) rfl ⟨rfl, rfl⟩ 1 (by decide +kernel) ⟨by decide, by decide⟩ rfl rfl (Nat.le_of_ble_eq_true rfl) dX8_shorten_18 rfl (kd_ve ?_)
      refine kw_aload_n hC dX8_shorten_21 rfl 0 rfl ?_
      refine kw_callV hC (c1_X8_shortOf hD (by exact hla)) gX8_shorten_X8_shortOf ⟨_, rfl⟩ rfl (by decide) (by decide) rfl ⟨rfl, rfl⟩ 0 (by decide +kernel) ⟨by decide, by decide⟩ rfl rfl (Nat.le_of_ble_eq_true rfl) dX8_shorten_22 rfl (kd_ie ?_)
      refine kw_ifne_b (tgt := 31) hC dX8_shorten_25 rfl (by decide) ⟨fun c25 => ?_, fun c25 => False.elim (by exact c25 trivial)⟩
      refine kw_aload_n hC dX8_shorten_31 rfl 0 rfl ?_
      refine kw_callV hC (c1_X8_rToW hD (by rfl)) gX8_shorten_X8_rToW ⟨_, rfl⟩ rfl (by decide) (by decide) rfl ⟨rfl, rfl⟩ 0 (by decide +kernel) ⟨by decide, by decide⟩ rfl rfl (Nat.le_of_ble_eq_true rfl) dX8_shorten_32 rfl (kd_ve ?_)
      refine kw_aload_n hC dX8_shorten_35 rfl 0 rfl ?_
      refine kw_iload_n hC dX8_shorten_36 rfl 2 rfl ?_
      refine kw_callV hC (c1_X8_store hD (by omega) (by omega) (by rfl)) gX8_shorten_X8_store ⟨_, rfl⟩ rfl (by decide) (by decide) rfl ⟨rfl, rfl⟩ 1 (by decide +kernel) ⟨by decide, by decide⟩ rfl rfl (Nat.le_of_ble_eq_true rfl) dX8_shorten_37 rfl (kd_ie ?_)
      exact hR.1 rfl _ _ _ _ dX8_shorten_40 ⟨_, rfl, by unfold q_2; (repeat' split) <;> omega⟩
    · refine kw_iconst hC dX8_shorten_14 rfl ?_
      exact hR.1 rfl _ _ _ _ dX8_shorten_15 ⟨_, rfl, by unfold q_2; (repeat' split) <;> omega⟩

set_option maxHeartbeats 4000000 in
set_option maxRecDepth 100000 in
/-- on a new object -/
theorem c1_X8_form {g : wG} (hD : wD g) {S : wSt} {a b : Int} (ha : -2147483648 ≤ a ∧ a ≤ 2147483647) (hb : -2147483648 ≤ b ∧ b ≤ 2147483647) (hF : nM S) (l : Launch) : Kt l yX8_form wsX8_form ({ frames := 2, cells := 0, slots := 0, locals := 45 } : Room) g S [vr g 30 0, vi a, vi b] (pI (fun r _ => r = q_2 a b)) := by
  refine Kt.of (cc := cX8_form) (nL := 3) (ret := (some .int)) (own := RX8) rfl hD (by decide) rfl (Nat.le_of_ble_eq_true rfl) ⟨rfl, rfl⟩ ?_
  intro E hC hR
  show Wk E g 3 S 0 [(0, vr g 30 0), (1, vi a), (2, vi b)] []
  obtain ⟨hm, hk, hL, hN⟩ := hF
  refine kw_iload_n hC dX8_form_0 rfl 1 rfl ?_
  refine kw_callS hC (c_X8_isSlot hD (by omega)) gX8_form_X8_isSlot rfl ⟨rfl, rfl⟩ 1 (by decide +kernel) ⟨by decide, by decide⟩ rfl rfl (Nat.le_of_ble_eq_true rfl) dX8_form_1 rfl (kd_ie ?_)
  refine kw_ifeq_b (tgt := 14) hC dX8_form_4 rfl (by decide) ⟨fun c4 => ?_, fun c4 => ?_⟩
  · refine kw_iconst hC dX8_form_14 rfl ?_
    exact hR.1 rfl _ _ _ _ dX8_form_15 ⟨_, rfl, by unfold q_2; (repeat' split) <;> omega⟩
  · refine kw_iload_n hC dX8_form_7 rfl 2 rfl ?_
    refine kw_callS hC (c_X8_isSlot hD (by omega)) gX8_form_X8_isSlot rfl ⟨rfl, rfl⟩ 1 (by decide +kernel) ⟨by decide, by decide⟩ rfl rfl (Nat.le_of_ble_eq_true rfl) dX8_form_8 rfl (kd_ie ?_)
    refine kw_ifne_b (tgt := 16) hC dX8_form_11 rfl (by decide) ⟨fun c11 => ?_, fun c11 => ?_⟩
    · have hla := hL a (by omega) (by omega)
      refine kw_aload_n hC dX8_form_16 rfl 0 rfl ?_
      refine kw_iload_n hC dX8_form_17 rfl 1 rfl ?_
      refine kw_callV hC (c1_X8_load hD (by omega) (by omega) (by exact hla)) gX8_form_X8_load ⟨_, rfl⟩ rfl (by decide) (by decide) rfl ⟨rfl, rfl⟩ 1 (by decide +kernel) ⟨by decide, by decide⟩ rfl rfl (Nat.le_of_ble_eq_true rfl) dX8_form_18 rfl (kd_ve ?_)
      refine kw_aload_n hC dX8_form_21 rfl 0 rfl ?_
      refine kw_callV hC (c1_X8_formOfW hD (by exact hla)) gX8_form_X8_formOfW ⟨_, rfl⟩ rfl (by decide) (by decide) rfl ⟨rfl, rfl⟩ 0 (by decide +kernel) ⟨by decide, by decide⟩ rfl rfl (Nat.le_of_ble_eq_true rfl) dX8_form_22 rfl (kd_ie ?_)
      refine kw_ifeq_b (tgt := 36) hC dX8_form_25 rfl (by decide) ⟨fun c25 => False.elim (by exact c25 trivial), fun c25 => ?_⟩
      refine kw_aload_n hC dX8_form_28 rfl 0 rfl ?_
      refine kw_iload_n hC dX8_form_29 rfl 2 rfl ?_
      refine kw_callV hC (c1_X8_store hD (by omega) (by omega) (by rfl)) gX8_form_X8_store ⟨_, rfl⟩ rfl (by decide) (by decide) rfl ⟨rfl, rfl⟩ 1 (by decide +kernel) ⟨by decide, by decide⟩ rfl rfl (Nat.le_of_ble_eq_true rfl) dX8_form_30 rfl (kd_ie ?_)
      refine kw_goto (tgt := 38) hC dX8_form_33 rfl (by decide) ?_
      exact hR.1 rfl _ _ _ _ dX8_form_38 ⟨_, rfl, by unfold q_2; (repeat' split) <;> omega⟩
    · refine kw_iconst hC dX8_form_14 rfl ?_
      exact hR.1 rfl _ _ _ _ dX8_form_15 ⟨_, rfl, by unfold q_2; (repeat' split) <;> omega⟩

set_option maxHeartbeats 4000000 in
set_option maxRecDepth 100000 in
/-- on a new object -/
theorem c1_X8_same {g : wG} (hD : wD g) {S : wSt} {a b : Int} (ha : -2147483648 ≤ a ∧ a ≤ 2147483647) (hb : -2147483648 ≤ b ∧ b ≤ 2147483647) (hF : nM S) (l : Launch) : Kt l yX8_same wsX8_same ({ frames := 2, cells := 0, slots := 0, locals := 45 } : Room) g S [vr g 30 0, vi a, vi b] (pI (fun r _ => r = q_2o a b)) := by
  refine Kt.of (cc := cX8_same) (nL := 5) (ret := (some .int)) (own := RX8) rfl hD (by decide) rfl (Nat.le_of_ble_eq_true rfl) ⟨rfl, rfl⟩ ?_
  intro E hC hR
  have f57 : Cond.fieldLink RX8 57 "MirrorBenchModel" "wMany" "I" ∈ wsX8_same := by decide +kernel
  have f126 : Cond.fieldLink RX8 126 "MirrorBenchModel" "vMany" "I" ∈ wsX8_same := by decide +kernel
  have w8 : ∀ w ∈ wsX80, w ∈ wsX8_same := by decide +kernel
  show Wk E g 5 S 0 [(0, vr g 30 0), (1, vi a), (2, vi b)] []
  obtain ⟨hm, hk, hL, hN⟩ := hF
  refine kw_iload_n hC dX8_same_0 rfl 1 rfl ?_
  refine kw_callS hC (c_X8_isSlot hD (by omega)) gX8_same_X8_isSlot rfl ⟨rfl, rfl⟩ 1 (by decide +kernel) ⟨by decide, by decide⟩ rfl rfl (Nat.le_of_ble_eq_true rfl) dX8_same_1 rfl (kd_ie ?_)
  refine kw_ifeq_b (tgt := 14) hC dX8_same_4 rfl (by decide) ⟨fun c4 => ?_, fun c4 => ?_⟩
  · refine kw_iconst hC dX8_same_14 rfl ?_
    exact hR.1 rfl _ _ _ _ dX8_same_15 ⟨_, rfl, by unfold q_2o; (repeat' split) <;> omega⟩
  · refine kw_iload_n hC dX8_same_7 rfl 2 rfl ?_
    refine kw_callS hC (c_X8_isSlot hD (by omega)) gX8_same_X8_isSlot rfl ⟨rfl, rfl⟩ 1 (by decide +kernel) ⟨by decide, by decide⟩ rfl rfl (Nat.le_of_ble_eq_true rfl) dX8_same_8 rfl (kd_ie ?_)
    refine kw_ifne_b (tgt := 16) hC dX8_same_11 rfl (by decide) ⟨fun c11 => ?_, fun c11 => ?_⟩
    · have hla := hL a (by omega) (by omega)
      have hlb := hL b (by omega) (by omega)
      refine kw_aload_n hC dX8_same_16 rfl 0 rfl ?_
      refine kw_iload_n hC dX8_same_17 rfl 1 rfl ?_
      refine kw_callV hC (c1_X8_load hD (by omega) (by omega) (by exact hla)) gX8_same_X8_load ⟨_, rfl⟩ rfl (by decide) (by decide) rfl ⟨rfl, rfl⟩ 1 (by decide +kernel) ⟨by decide, by decide⟩ rfl rfl (Nat.le_of_ble_eq_true rfl) dX8_same_18 rfl (kd_ve ?_)
      refine kw_aload_n hC dX8_same_21 rfl 0 rfl ?_
      refine kw_callV hC (c1_X8_formOfW hD (by exact hla)) gX8_same_X8_formOfW ⟨_, rfl⟩ rfl (by decide) (by decide) rfl ⟨rfl, rfl⟩ 0 (by decide +kernel) ⟨by decide, by decide⟩ rfl rfl (Nat.le_of_ble_eq_true rfl) dX8_same_22 rfl (kd_ie ?_)
      refine kw_ifne_b (tgt := 31) hC dX8_same_25 rfl (by decide) ⟨fun c25 => ?_, fun c25 => False.elim (by exact c25 trivial)⟩
      refine kw_aload_n hC dX8_same_31 rfl 0 rfl ?_
      refine kw_callV hC (c1_X8_wToV hD (by rfl)) gX8_same_X8_wToV ⟨_, rfl⟩ rfl (by decide) (by decide) rfl ⟨rfl, rfl⟩ 0 (by decide +kernel) ⟨by decide, by decide⟩ rfl rfl (Nat.le_of_ble_eq_true rfl) dX8_same_32 rfl (kd_ve ?_)
      refine kw_aload_n hC dX8_same_35 rfl 0 rfl ?_
      refine kw_iload_n hC dX8_same_36 rfl 2 rfl ?_
      refine kw_callV hC (c1_X8_load hD (by omega) (by omega) (by exact hlb)) gX8_same_X8_load ⟨_, rfl⟩ rfl (by decide) (by decide) rfl ⟨rfl, rfl⟩ 1 (by decide +kernel) ⟨by decide, by decide⟩ rfl rfl (Nat.le_of_ble_eq_true rfl) dX8_same_37 rfl (kd_ve ?_)
      refine kw_aload_n hC dX8_same_40 rfl 0 rfl ?_
      refine kw_callV hC (c1_X8_formOfW hD (by exact hlb)) gX8_same_X8_formOfW ⟨_, rfl⟩ rfl (by decide) (by decide) rfl ⟨rfl, rfl⟩ 0 (by decide +kernel) ⟨by decide, by decide⟩ rfl rfl (Nat.le_of_ble_eq_true rfl) dX8_same_41 rfl (kd_ie ?_)
      refine kw_ifne_b (tgt := 50) hC dX8_same_44 rfl (by decide) ⟨fun c44 => ?_, fun c44 => False.elim (by exact c44 trivial)⟩
      refine kw_aload_n hC dX8_same_50 rfl 0 rfl ?_
      refine kg_30_12 hC w8 f126 dX8_same_51 rfl (by decide) (by decide) ?_
      refine kw_chi (z' := 0) (by exact rfl) ?_
      refine kw_aload_n hC dX8_same_54 rfl 0 rfl ?_
      refine kg_30_14 hC w8 f57 dX8_same_55 rfl (by decide) (by decide) ?_
      refine kw_chi (z' := 0) (by exact rfl) ?_
      refine kw_icmp_ne (tgt := 65) hC dX8_same_58 rfl (by decide) (by omega) (by omega) ⟨fun c58 => False.elim (by omega), fun c58 => ?_⟩
      refine kw_iconst hC dX8_same_61 rfl ?_
      refine kw_goto (tgt := 66) hC dX8_same_62 rfl (by decide) ?_
      refine kw_istore_n (lv' := [(3, _), (0, _), (1, _), (2, _)]) hC dX8_same_66 rfl (by decide) rfl ?_
      refine kw_iconst hC dX8_same_67 rfl ?_
      refine kw_istore (lv' := [(4, _), (3, _), (0, _), (1, _), (2, _)]) hC dX8_same_68 rfl (by decide) rfl ?_
      refine kw_iload hC dX8_same_70 rfl 0 rfl ?_
      refine kw_aload_n hC dX8_same_72 rfl 2 rfl ?_
      refine kg_30_14 hC w8 f57 dX8_same_73 rfl (by decide) (by decide) ?_
      refine kw_chi (z' := 0) (by exact rfl) ?_
      refine kw_icmp_ge (tgt := 112) hC dX8_same_76 rfl (by decide) (by omega) (by omega) ⟨fun c76 => ?_, fun c76 => False.elim (by omega)⟩
      refine kw_iload_n hC dX8_same_112 rfl 1 rfl ?_
      refine kw_if_eq (tgt := 120) hC dX8_same_113 rfl (by decide) (by omega) ⟨fun c113 => False.elim (by omega), fun c113 => ?_⟩
      refine kw_iconst hC dX8_same_116 rfl ?_
      refine kw_goto (tgt := 121) hC dX8_same_117 rfl (by decide) ?_
      exact hR.1 rfl _ _ _ _ dX8_same_121 ⟨_, rfl, by unfold q_2o; (repeat' split) <;> omega⟩
    · refine kw_iconst hC dX8_same_14 rfl ?_
      exact hR.1 rfl _ _ _ _ dX8_same_15 ⟨_, rfl, by unfold q_2o; (repeat' split) <;> omega⟩

set_option maxHeartbeats 4000000 in
set_option maxRecDepth 100000 in
/-- on a new object -/
theorem c1_X8_downs {g : wG} (hD : wD g) {S : wSt} {a b : Int} (ha : -2147483648 ≤ a ∧ a ≤ 2147483647) (hb : -2147483648 ≤ b ∧ b ≤ 2147483647) (hF : nM S) (l : Launch) : Kt l yX8_downs wsX8_downs ({ frames := 2, cells := 0, slots := 0, locals := 45 } : Room) g S [vr g 30 0, vi a, vi b] (pI (fun r _ => r = q_1 a)) := by
  refine Kt.of (cc := cX8_downs) (nL := 6) (ret := (some .int)) (own := RX8) rfl hD (by decide) rfl (Nat.le_of_ble_eq_true rfl) ⟨rfl, rfl⟩ ?_
  intro E hC hR
  have f11 : Cond.fieldLink RX8 11 "MirrorBenchModel" "mirrors" "I" ∈ wsX8_downs := by decide +kernel
  have w8 : ∀ w ∈ wsX80, w ∈ wsX8_downs := by decide +kernel
  show Wk E g 6 S 0 [(0, vr g 30 0), (1, vi a), (2, vi b)] []
  obtain ⟨hm, hk, hL, hN⟩ := hF
  refine kw_iload_n hC dX8_downs_0 rfl 1 rfl ?_
  refine kw_callS hC (c_X8_isSlot hD (by omega)) gX8_downs_X8_isSlot rfl ⟨rfl, rfl⟩ 1 (by decide +kernel) ⟨by decide, by decide⟩ rfl rfl (Nat.le_of_ble_eq_true rfl) dX8_downs_1 rfl (kd_ie ?_)
  refine kw_ifne_b (tgt := 9) hC dX8_downs_4 rfl (by decide) ⟨fun c4 => ?_, fun c4 => ?_⟩
  · have hla := hL a (by omega) (by omega)
    refine kw_aload_n hC dX8_downs_9 rfl 0 rfl ?_
    refine kw_iload_n hC dX8_downs_10 rfl 1 rfl ?_
    refine kw_callV hC (c1_X8_load hD (by omega) (by omega) (by exact hla)) gX8_downs_X8_load ⟨_, rfl⟩ rfl (by decide) (by decide) rfl ⟨rfl, rfl⟩ 1 (by decide +kernel) ⟨by decide, by decide⟩ rfl rfl (Nat.le_of_ble_eq_true rfl) dX8_downs_11 rfl (kd_ve ?_)
    refine kw_aload_n hC dX8_downs_14 rfl 0 rfl ?_
    refine kw_callV hC (c1_X8_shortOf hD (by exact hla)) gX8_downs_X8_shortOf ⟨_, rfl⟩ rfl (by decide) (by decide) rfl ⟨rfl, rfl⟩ 0 (by decide +kernel) ⟨by decide, by decide⟩ rfl rfl (Nat.le_of_ble_eq_true rfl) dX8_downs_15 rfl (kd_ie ?_)
    refine kw_ifne_b (tgt := 24) hC dX8_downs_18 rfl (by decide) ⟨fun c18 => ?_, fun c18 => False.elim (by exact c18 trivial)⟩
    refine kw_iconst hC dX8_downs_24 rfl ?_
    refine kw_istore_n (lv' := [(3, _), (0, _), (1, _), (2, _)]) hC dX8_downs_25 rfl (by decide) rfl ?_
    refine kw_iconst hC dX8_downs_26 rfl ?_
    refine kw_istore (lv' := [(4, _), (3, _), (0, _), (1, _), (2, _)]) hC dX8_downs_27 rfl (by decide) rfl ?_
    refine kw_iload hC dX8_downs_29 rfl 0 rfl ?_
    refine kw_aload_n hC dX8_downs_31 rfl 2 rfl ?_
    refine kg_30_0 hC w8 f11 dX8_downs_32 rfl (by decide) (by decide) ?_
    refine kw_chi (z' := 0) (by exact hm) ?_
    refine kw_icmp_ge (tgt := 91) hC dX8_downs_35 rfl (by decide) (by omega) (by omega) ⟨fun c35 => ?_, fun c35 => False.elim (by omega)⟩
    refine kw_iload_n hC dX8_downs_91 rfl 1 rfl ?_
    exact hR.1 rfl _ _ _ _ dX8_downs_92 ⟨_, rfl, by unfold q_1; (repeat' split) <;> omega⟩
  · refine kw_iconst hC dX8_downs_7 rfl ?_
    exact hR.1 rfl _ _ _ _ dX8_downs_8 ⟨_, rfl, by unfold q_1; (repeat' split) <;> omega⟩

set_option maxHeartbeats 4000000 in
set_option maxRecDepth 100000 in
/-- on a new object -/
theorem c1_X8_does {g : wG} (hD : wD g) {S : wSt} {a b c : Int} (ha : -2147483648 ≤ a ∧ a ≤ 2147483647) (hb : -2147483648 ≤ b ∧ b ≤ 2147483647) (hc : -2147483648 ≤ c ∧ c ≤ 2147483647) (hF : nM S) (l : Launch) : Kt l yX8_does wsX8_does ({ frames := 2, cells := 0, slots := 0, locals := 47 } : Room) g S [vr g 30 0, vi a, vi b, vi c] (pL (fun r _ => r = (-10000000000001))) := by
  refine Kt.of (cc := cX8_does) (nL := 4) (ret := (some .long)) (own := RX8) rfl hD (by decide) rfl (Nat.le_of_ble_eq_true rfl) ⟨rfl, rfl⟩ ?_
  intro E hC hR
  have l141 : Cond.constantLong RX8 141 (Int64.ofInt (-10000000000001)) ∈ wsX8_does := by decide +kernel
  show Wk E g 4 S 0 [(0, vr g 30 0), (1, vi a), (2, vi b), (3, vi c)] []
  obtain ⟨hm, hk, hL, hN⟩ := hF
  refine kw_iload_n hC dX8_does_0 rfl 1 rfl ?_
  refine kw_callS hC (c_X8_isSlot hD (by omega)) gX8_does_X8_isSlot rfl ⟨rfl, rfl⟩ 1 (by decide +kernel) ⟨by decide, by decide⟩ rfl rfl (Nat.le_of_ble_eq_true rfl) dX8_does_1 rfl (kd_ie ?_)
  refine kw_ifeq_b (tgt := 25) hC dX8_does_4 rfl (by decide) ⟨fun c4 => ?_, fun c4 => ?_⟩
  · refine kw_ldc2 (z := -10000000000001) hC dX8_does_25 rfl l141 ?_
    exact hR.2.2.1 rfl _ _ _ _ dX8_does_28 ⟨_, rfl, rfl⟩
  · refine kw_aload_n hC dX8_does_7 rfl 0 rfl ?_
    refine kw_iload_n hC dX8_does_8 rfl 2 rfl ?_
    refine kw_i2l hC dX8_does_9 rfl (by omega) ?_
    refine kw_callV hC (c_X8_isMirror hD (by omega) (by omega) (by omega)) gX8_does_X8_isMirror ⟨_, rfl⟩ rfl (by decide) (by decide) rfl ⟨rfl, rfl⟩ 1 (by decide +kernel) ⟨by decide, by decide⟩ rfl rfl (Nat.le_of_ble_eq_true rfl) dX8_does_10 rfl (kd_ie ?_)
    refine kw_ifeq_b (tgt := 25) hC dX8_does_13 rfl (by decide) ⟨fun c13 => ?_, fun c13 => False.elim (by omega)⟩
    refine kw_ldc2 (z := -10000000000001) hC dX8_does_25 rfl l141 ?_
    exact hR.2.2.1 rfl _ _ _ _ dX8_does_28 ⟨_, rfl, rfl⟩

set_option maxHeartbeats 4000000 in
set_option maxRecDepth 100000 in
/-- on a new object -/
theorem c1_X8_order {g : wG} (hD : wD g) {S : wSt} {a : Int} (ha : -2147483648 ≤ a ∧ a ≤ 2147483647) (hF : nM S) (l : Launch) : Kt l yX8_order wsX8_order ({ frames := 2, cells := 0, slots := 0, locals := 45 } : Room) g S [vr g 30 0, vi a] (pI (fun r _ => r = q_1o a)) := by
  refine Kt.of (cc := cX8_order) (nL := 6) (ret := (some .int)) (own := RX8) rfl hD (by decide) rfl (Nat.le_of_ble_eq_true rfl) ⟨rfl, rfl⟩ ?_
  intro E hC hR
  have f11 : Cond.fieldLink RX8 11 "MirrorBenchModel" "mirrors" "I" ∈ wsX8_order := by decide +kernel
  have f81 : Cond.fieldLink RX8 81 "MirrorBenchModel" "isGreat" "Z" ∈ wsX8_order := by decide +kernel
  have w8 : ∀ w ∈ wsX80, w ∈ wsX8_order := by decide +kernel
  show Wk E g 6 S 0 [(0, vr g 30 0), (1, vi a)] []
  obtain ⟨hm, hk, hL, hN⟩ := hF
  refine kw_iload_n hC dX8_order_0 rfl 1 rfl ?_
  refine kw_callS hC (c_X8_isSlot hD (by omega)) gX8_order_X8_isSlot rfl ⟨rfl, rfl⟩ 1 (by decide +kernel) ⟨by decide, by decide⟩ rfl rfl (Nat.le_of_ble_eq_true rfl) dX8_order_1 rfl (kd_ie ?_)
  refine kw_ifne_b (tgt := 9) hC dX8_order_4 rfl (by decide) ⟨fun c4 => ?_, fun c4 => ?_⟩
  · have hla := hL a (by omega) (by omega)
    refine kw_aload_n hC dX8_order_9 rfl 0 rfl ?_
    refine kw_iload_n hC dX8_order_10 rfl 1 rfl ?_
    refine kw_callV hC (c1_X8_load hD (by omega) (by omega) (by exact hla)) gX8_order_X8_load ⟨_, rfl⟩ rfl (by decide) (by decide) rfl ⟨rfl, rfl⟩ 1 (by decide +kernel) ⟨by decide, by decide⟩ rfl rfl (Nat.le_of_ble_eq_true rfl) dX8_order_11 rfl (kd_ve ?_)
    refine kw_aload_n hC dX8_order_14 rfl 0 rfl ?_
    refine kw_iconst hC dX8_order_15 rfl ?_
    refine kp_30_16 hC w8 f81 dX8_order_16 rfl (by decide) (by decide) (by omega) ?_
    refine kw_iconst hC dX8_order_19 rfl ?_
    refine kw_istore_n (lv' := [(2, _), (0, _), (1, _)]) hC dX8_order_20 rfl (by decide) rfl ?_
    refine kw_iload_n hC dX8_order_21 rfl 0 rfl ?_
    refine kw_aload_n hC dX8_order_22 rfl 1 rfl ?_
    refine kg_30_0 hC w8 f11 dX8_order_23 rfl (by decide) (by decide) ?_
    refine kw_chi (z' := 0) (by exact hm) ?_
    refine kw_icmp_ge (tgt := 70) hC dX8_order_26 rfl (by decide) (by omega) (by omega) ⟨fun c26 => ?_, fun c26 => False.elim (by omega)⟩
    refine kw_iconst hC dX8_order_70 rfl ?_
    refine kw_istore_n (lv' := [(2, _), (0, _), (1, _)]) hC dX8_order_71 rfl (by decide) rfl ?_
    refine kw_iload_n hC dX8_order_72 rfl 0 rfl ?_
    refine kw_bipush hC dX8_order_73 rfl (by decide) ?_
    refine kw_icmp_gt (tgt := 211) hC dX8_order_75 rfl (by decide) (by omega) (by omega) ⟨fun c75 => False.elim (by omega), fun c75 => ?_⟩
    refine kw_iconst hC dX8_order_78 rfl ?_
    refine kw_istore_n (lv' := [(3, _), (2, _), (0, _), (1, _)]) hC dX8_order_79 rfl (by decide) rfl ?_
    refine kw_iconst hC dX8_order_80 rfl ?_
    refine kw_istore (lv' := [(4, _), (3, _), (2, _), (0, _), (1, _)]) hC dX8_order_81 rfl (by decide) rfl ?_
    refine kw_iload hC dX8_order_83 rfl 0 rfl ?_
    refine kw_aload_n hC dX8_order_85 rfl 3 rfl ?_
    refine kg_30_0 hC w8 f11 dX8_order_86 rfl (by decide) (by decide) ?_
    refine kw_chi (z' := 0) (by exact hm) ?_
    refine kw_icmp_ge (tgt := 199) hC dX8_order_89 rfl (by decide) (by omega) (by omega) ⟨fun c89 => ?_, fun c89 => False.elim (by omega)⟩
    refine kw_iload_n hC dX8_order_199 rfl 1 rfl ?_
    refine kw_if_eq (tgt := 205) hC dX8_order_200 rfl (by decide) (by omega) ⟨fun c200 => False.elim (by omega), fun c200 => ?_⟩
    refine kw_iload_n hC dX8_order_203 rfl 2 rfl ?_
    exact hR.1 rfl _ _ _ _ dX8_order_204 ⟨_, rfl, by unfold q_1o; (repeat' split) <;> omega⟩
  · refine kw_iconst hC dX8_order_7 rfl ?_
    exact hR.1 rfl _ _ _ _ dX8_order_8 ⟨_, rfl, by unfold q_1o; (repeat' split) <;> omega⟩

set_option maxHeartbeats 4000000 in
set_option maxRecDepth 100000 in
/-- on a new object -/
theorem c1_X8_below {g : wG} (hD : wD g) {S : wSt} {a b : Int} (ha : -2147483648 ≤ a ∧ a ≤ 2147483647) (hb : -2147483648 ≤ b ∧ b ≤ 2147483647) (hF : nM S) (l : Launch) : Kt l yX8_below wsX8_below ({ frames := 2, cells := 0, slots := 0, locals := 45 } : Room) g S [vr g 30 0, vi a, vi b] (pI (fun r _ => r = q_2o a b)) := by
  refine Kt.of (cc := cX8_below) (nL := 5) (ret := (some .int)) (own := RX8) rfl hD (by decide) rfl (Nat.le_of_ble_eq_true rfl) ⟨rfl, rfl⟩ ?_
  intro E hC hR
  have f57 : Cond.fieldLink RX8 57 "MirrorBenchModel" "wMany" "I" ∈ wsX8_below := by decide +kernel
  have f92 : Cond.fieldLink RX8 92 "MirrorBenchModel" "rMany" "I" ∈ wsX8_below := by decide +kernel
  have f126 : Cond.fieldLink RX8 126 "MirrorBenchModel" "vMany" "I" ∈ wsX8_below := by decide +kernel
  have w8 : ∀ w ∈ wsX80, w ∈ wsX8_below := by decide +kernel
  show Wk E g 5 S 0 [(0, vr g 30 0), (1, vi a), (2, vi b)] []
  obtain ⟨hm, hk, hL, hN⟩ := hF
  refine kw_iload_n hC dX8_below_0 rfl 1 rfl ?_
  refine kw_callS hC (c_X8_isSlot hD (by omega)) gX8_below_X8_isSlot rfl ⟨rfl, rfl⟩ 1 (by decide +kernel) ⟨by decide, by decide⟩ rfl rfl (Nat.le_of_ble_eq_true rfl) dX8_below_1 rfl (kd_ie ?_)
  refine kw_ifeq_b (tgt := 14) hC dX8_below_4 rfl (by decide) ⟨fun c4 => ?_, fun c4 => ?_⟩
  · refine kw_iconst hC dX8_below_14 rfl ?_
    exact hR.1 rfl _ _ _ _ dX8_below_15 ⟨_, rfl, by unfold q_2o; (repeat' split) <;> omega⟩
  · refine kw_iload_n hC dX8_below_7 rfl 2 rfl ?_
    refine kw_callS hC (c_X8_isSlot hD (by omega)) gX8_below_X8_isSlot rfl ⟨rfl, rfl⟩ 1 (by decide +kernel) ⟨by decide, by decide⟩ rfl rfl (Nat.le_of_ble_eq_true rfl) dX8_below_8 rfl (kd_ie ?_)
    refine kw_ifne_b (tgt := 16) hC dX8_below_11 rfl (by decide) ⟨fun c11 => ?_, fun c11 => ?_⟩
    · have hla := hL a (by omega) (by omega)
      have hlb := hL b (by omega) (by omega)
      refine kw_aload_n hC dX8_below_16 rfl 0 rfl ?_
      refine kw_iload_n hC dX8_below_17 rfl 1 rfl ?_
      refine kw_callV hC (c1_X8_load hD (by omega) (by omega) (by exact hla)) gX8_below_X8_load ⟨_, rfl⟩ rfl (by decide) (by decide) rfl ⟨rfl, rfl⟩ 1 (by decide +kernel) ⟨by decide, by decide⟩ rfl rfl (Nat.le_of_ble_eq_true rfl) dX8_below_18 rfl (kd_ve ?_)
      refine kw_aload_n hC dX8_below_21 rfl 0 rfl ?_
      refine kw_callV hC (c1_X8_shortOf hD (by exact hla)) gX8_below_X8_shortOf ⟨_, rfl⟩ rfl (by decide) (by decide) rfl ⟨rfl, rfl⟩ 0 (by decide +kernel) ⟨by decide, by decide⟩ rfl rfl (Nat.le_of_ble_eq_true rfl) dX8_below_22 rfl (kd_ie ?_)
      refine kw_ifne_b (tgt := 31) hC dX8_below_25 rfl (by decide) ⟨fun c25 => ?_, fun c25 => False.elim (by exact c25 trivial)⟩
      refine kw_aload_n hC dX8_below_31 rfl 0 rfl ?_
      refine kw_callV hC (c1_X8_rToW hD (by rfl)) gX8_below_X8_rToW ⟨_, rfl⟩ rfl (by decide) (by decide) rfl ⟨rfl, rfl⟩ 0 (by decide +kernel) ⟨by decide, by decide⟩ rfl rfl (Nat.le_of_ble_eq_true rfl) dX8_below_32 rfl (kd_ve ?_)
      refine kw_aload_n hC dX8_below_35 rfl 0 rfl ?_
      refine kw_callV hC (c1_X8_wToV hD (by rfl)) gX8_below_X8_wToV ⟨_, rfl⟩ rfl (by decide) (by decide) rfl ⟨rfl, rfl⟩ 0 (by decide +kernel) ⟨by decide, by decide⟩ rfl rfl (Nat.le_of_ble_eq_true rfl) dX8_below_36 rfl (kd_ve ?_)
      refine kw_aload_n hC dX8_below_39 rfl 0 rfl ?_
      refine kw_iload_n hC dX8_below_40 rfl 2 rfl ?_
      refine kw_callV hC (c1_X8_load hD (by omega) (by omega) (by exact hlb)) gX8_below_X8_load ⟨_, rfl⟩ rfl (by decide) (by decide) rfl ⟨rfl, rfl⟩ 1 (by decide +kernel) ⟨by decide, by decide⟩ rfl rfl (Nat.le_of_ble_eq_true rfl) dX8_below_41 rfl (kd_ve ?_)
      refine kw_aload_n hC dX8_below_44 rfl 0 rfl ?_
      refine kw_callV hC (c1_X8_shortOf hD (by exact hlb)) gX8_below_X8_shortOf ⟨_, rfl⟩ rfl (by decide) (by decide) rfl ⟨rfl, rfl⟩ 0 (by decide +kernel) ⟨by decide, by decide⟩ rfl rfl (Nat.le_of_ble_eq_true rfl) dX8_below_45 rfl (kd_ie ?_)
      refine kw_ifne_b (tgt := 54) hC dX8_below_48 rfl (by decide) ⟨fun c48 => ?_, fun c48 => False.elim (by exact c48 trivial)⟩
      refine kw_aload_n hC dX8_below_54 rfl 0 rfl ?_
      refine kw_callV hC (c1_X8_rToW hD (by rfl)) gX8_below_X8_rToW ⟨_, rfl⟩ rfl (by decide) (by decide) rfl ⟨rfl, rfl⟩ 0 (by decide +kernel) ⟨by decide, by decide⟩ rfl rfl (Nat.le_of_ble_eq_true rfl) dX8_below_55 rfl (kd_ve ?_)
      refine kw_aload_n hC dX8_below_58 rfl 0 rfl ?_
      refine kw_aload_n hC dX8_below_59 rfl 0 rfl ?_
      refine kg_30_12 hC w8 f126 dX8_below_60 rfl (by decide) (by decide) ?_
      refine kw_chi (z' := 0) (by exact rfl) ?_
      refine kp_30_8 hC w8 f92 dX8_below_63 rfl (by decide) (by decide) ?_
      refine kw_iconst hC dX8_below_66 rfl ?_
      refine kw_istore_n (lv' := [(3, _), (0, _), (1, _), (2, _)]) hC dX8_below_67 rfl (by decide) rfl ?_
      refine kw_iload_n hC dX8_below_68 rfl 0 rfl ?_
      refine kw_aload_n hC dX8_below_69 rfl 1 rfl ?_
      refine kg_30_12 hC w8 f126 dX8_below_70 rfl (by decide) (by decide) ?_
      refine kw_chi (z' := 0) (by exact rfl) ?_
      refine kw_icmp_ge (tgt := 94) hC dX8_below_73 rfl (by decide) (by omega) (by omega) ⟨fun c73 => ?_, fun c73 => False.elim (by omega)⟩
      refine kw_aload_n hC dX8_below_94 rfl 1 rfl ?_
      refine kg_30_14 hC w8 f57 dX8_below_95 rfl (by decide) (by decide) ?_
      refine kw_chi (z' := 0) (by exact rfl) ?_
      refine kw_iconst hC dX8_below_98 rfl ?_
      refine kw_isub hC dX8_below_99 rfl ?_
      refine kw_istore_n (lv' := [(3, _), (0, _), (1, _), (2, _)]) hC dX8_below_100 rfl (by decide) rfl ?_
      refine kw_iload_n hC dX8_below_101 rfl 0 rfl ?_
      refine kw_if_lt (tgt := 144) hC dX8_below_102 rfl (by decide) (by omega) ⟨fun c102 => ?_, fun c102 => False.elim (by omega)⟩
      refine kw_aload_n hC dX8_below_144 rfl 1 rfl ?_
      refine kg_30_8 hC w8 f92 dX8_below_145 rfl (by decide) (by decide) ?_
      refine kw_chi (z' := 0) (by exact rfl) ?_
      refine kw_if_ne (tgt := 155) hC dX8_below_148 rfl (by decide) (by omega) ⟨fun c148 => False.elim (by omega), fun c148 => ?_⟩
      refine kw_iconst hC dX8_below_151 rfl ?_
      refine kw_goto (tgt := 156) hC dX8_below_152 rfl (by decide) ?_
      exact hR.1 rfl _ _ _ _ dX8_below_156 ⟨_, rfl, by unfold q_2o; (repeat' split) <;> omega⟩
    · refine kw_iconst hC dX8_below_14 rfl ?_
      exact hR.1 rfl _ _ _ _ dX8_below_15 ⟨_, rfl, by unfold q_2o; (repeat' split) <;> omega⟩

set_option maxHeartbeats 4000000 in
set_option maxRecDepth 100000 in
/-- without mirrors -/
theorem c1_X8_findRoots {g : wG} (hD : wD g) {S : wSt} {a : Int} (a0 : 1 ≤ a) (a1 : a ≤ 40) (hm : S 30 0 0 = 0) (l : Launch) : Kt l yX8_findRoots wsX8_findRoots ({ frames := 0, cells := 0, slots := 0, locals := 0 } : Room) g S [vr g 30 0, vi a] (pI (fun r S' => r = bz True ∧ S' 30 0 20 = 0 ∧ S' 30 0 21 = 0)) := by
  refine Kt.of (cc := cX8_findRoots) (nL := 7) (ret := (some .boolean)) (own := RX8) rfl hD (by decide) rfl (Nat.le_of_ble_eq_true rfl) ⟨rfl, rfl⟩ ?_
  intro E hC hR
  have f11 : Cond.fieldLink RX8 11 "MirrorBenchModel" "mirrors" "I" ∈ wsX8_findRoots := by decide +kernel
  have f151 : Cond.fieldLink RX8 151 "MirrorBenchModel" "many" "I" ∈ wsX8_findRoots := by decide +kernel
  have f160 : Cond.fieldLink RX8 160 "MirrorBenchModel" "whole" "I" ∈ wsX8_findRoots := by decide +kernel
  have w8 : ∀ w ∈ wsX80, w ∈ wsX8_findRoots := by decide +kernel
  show Wk E g 7 S 0 [(0, vr g 30 0), (1, vi a)] []
  refine kw_aload_n hC dX8_findRoots_0 rfl 0 rfl ?_
  refine kw_iconst hC dX8_findRoots_1 rfl ?_
  refine kp_30_20 hC w8 f151 dX8_findRoots_2 rfl (by decide) (by decide) ?_
  refine kw_aload_n hC dX8_findRoots_5 rfl 0 rfl ?_
  refine kw_iconst hC dX8_findRoots_6 rfl ?_
  refine kp_30_21 hC w8 f160 dX8_findRoots_7 rfl (by decide) (by decide) ?_
  refine kw_iconst hC dX8_findRoots_10 rfl ?_
  refine kw_istore_n (lv' := [(2, _), (0, _), (1, _)]) hC dX8_findRoots_11 rfl (by decide) rfl ?_
  have hL12 : ∀ (n : Nat) (x : Int) (S2 : wSt), (1 ≤ x) → (x ≤ a + 1) → (S2 30 0 0 = 0) → (S2 30 0 20 = 0) → (S2 30 0 21 = 0) → (a + 1 - x < (n : Int)) → Wk E g 7 S2 12 [(0, vr g 30 0), (1, vi a), (2, vi x)] [] := by
    intro n
    induction n with
    | zero => intro x S2 hx0 hx1 h2 h3 h4 hxn; exact absurd hxn (by omega)
    | succ n ih12 =>
      intro x S2 hx0 hx1 h2 h3 h4 hxn
      refine kw_iload_n hC dX8_findRoots_12 rfl 2 rfl ?_
      refine kw_iload_n hC dX8_findRoots_13 rfl 1 rfl ?_
      refine kw_icmp_gt (tgt := 189) hC dX8_findRoots_14 rfl (by decide) (by omega) (by omega) ⟨fun c14 => ?_, fun c14 => ?_⟩
      · refine kw_iconst hC dX8_findRoots_189 rfl ?_
        exact hR.2.1 rfl _ _ _ _ dX8_findRoots_190 (by omega) ⟨_, rfl, (bz_t trivial).symm, h3, h4⟩
      · refine kw_aload_n hC dX8_findRoots_17 rfl 0 rfl ?_
        refine kg_30_20 hC w8 f151 dX8_findRoots_18 rfl (by decide) (by decide) ?_
        refine kw_chi (z' := 0) (by exact h3) ?_
        refine kw_istore_n (lv' := [(3, _), (0, _), (1, _), (2, _)]) hC dX8_findRoots_21 rfl (by decide) rfl ?_
        refine kw_iconst hC dX8_findRoots_22 rfl ?_
        refine kw_istore (lv' := [(4, _), (3, _), (0, _), (1, _), (2, _)]) hC dX8_findRoots_23 rfl (by decide) rfl ?_
        refine kw_iload hC dX8_findRoots_25 rfl 0 rfl ?_
        refine kw_aload_n hC dX8_findRoots_27 rfl 2 rfl ?_
        refine kg_30_0 hC w8 f11 dX8_findRoots_28 rfl (by decide) (by decide) ?_
        refine kw_chi (z' := 0) (by exact h2) ?_
        refine kw_icmp_ge (tgt := 57) hC dX8_findRoots_31 rfl (by decide) (by omega) (by omega) ⟨fun c31 => ?_, fun c31 => False.elim (by omega)⟩
        refine kw_iconst hC dX8_findRoots_57 rfl ?_
        refine kw_istore (lv' := [(4, _), (3, _), (0, _), (1, _), (2, _)]) hC dX8_findRoots_58 rfl (by decide) rfl ?_
        refine kw_iload hC dX8_findRoots_60 rfl 0 rfl ?_
        refine kw_iload_n hC dX8_findRoots_62 rfl 1 rfl ?_
        refine kw_icmp_ge (tgt := 175) hC dX8_findRoots_63 rfl (by decide) (by omega) (by omega) ⟨fun c63 => ?_, fun c63 => False.elim (by omega)⟩
        refine kw_aload_n hC dX8_findRoots_175 rfl 2 rfl ?_
        refine kw_aload_n hC dX8_findRoots_176 rfl 2 rfl ?_
        refine kg_30_20 hC w8 f151 dX8_findRoots_177 rfl (by decide) (by decide) ?_
        refine kw_chi (z' := 0) (by exact h3) ?_
        refine kp_30_21 hC w8 f160 dX8_findRoots_180 rfl (by decide) (by decide) ?_
        refine kw_iinc (lv' := [(2, _), (4, _), (3, _), (0, _), (1, _)]) hC dX8_findRoots_183 rfl 4 rfl (by decide) rfl ?_
        refine kw_goto (tgt := 12) hC dX8_findRoots_186 rfl (by decide) ?_
        refine kw_lv [3, 4, 0] rfl ?_
        exact ih12 (x + 1) _ (by omega) (by omega) h2 h3 rfl (by omega)
  refine kw_lv [1, 2, 0] rfl ?_
  exact hL12 41 1 _ (by omega) (by omega) hm rfl rfl (by omega)

set_option maxHeartbeats 4000000 in
set_option maxRecDepth 100000 in
/-- on a new object -/
theorem c1_X8_roots {g : wG} (hD : wD g) {S : wSt} {a : Int} (ha : -2147483648 ≤ a ∧ a ≤ 2147483647) (hF : nM S) (l : Launch) : Kt l yX8_roots wsX8_roots ({ frames := 1, cells := 0, slots := 0, locals := 26 } : Room) g S [vr g 30 0, vi a] (pI (fun r _ => r = q_roots a)) := by
  refine Kt.of (cc := cX8_roots) (nL := 4) (ret := (some .int)) (own := RX8) rfl hD (by decide) rfl (Nat.le_of_ble_eq_true rfl) ⟨rfl, rfl⟩ ?_
  intro E hC hR
  have f151 : Cond.fieldLink RX8 151 "MirrorBenchModel" "many" "I" ∈ wsX8_roots := by decide +kernel
  have l177 : Cond.constantLong RX8 177 (Int64.ofInt (40)) ∈ wsX8_roots := by decide +kernel
  have w8 : ∀ w ∈ wsX80, w ∈ wsX8_roots := by decide +kernel
  show Wk E g 4 S 0 [(0, vr g 30 0), (1, vi a)] []
  obtain ⟨hm, hk, hL, hN⟩ := hF
  refine kw_iload_n hC dX8_roots_0 rfl 1 rfl ?_
  refine kw_i2l hC dX8_roots_1 rfl (by omega) ?_
  refine kw_lconst (z := 1) hC dX8_roots_2 rfl rfl ?_
  refine kw_ldc2 (z := 40) hC dX8_roots_3 rfl l177 ?_
  refine kw_callS hC (c_X8_in hD (by omega) (by omega) (by omega)) gX8_roots_X8_in rfl ⟨rfl, rfl⟩ 3 (by decide +kernel) ⟨by decide, by decide⟩ rfl rfl (Nat.le_of_ble_eq_true rfl) dX8_roots_6 rfl (kd_ie ?_)
  refine kw_ifne_b (tgt := 14) hC dX8_roots_9 rfl (by decide) ⟨fun c9 => ?_, fun c9 => ?_⟩
  · refine kw_aload_n hC dX8_roots_14 rfl 0 rfl ?_
    refine kw_iload_n hC dX8_roots_15 rfl 1 rfl ?_
    refine kw_callV hC (c1_X8_findRoots hD (by omega) (by omega) hm) gX8_roots_X8_findRoots ⟨_, rfl⟩ rfl (by decide) (by decide) rfl ⟨rfl, rfl⟩ 1 (by decide +kernel) ⟨by decide, by decide⟩ rfl rfl (Nat.le_of_ble_eq_true rfl) dX8_roots_16 rfl (kd_i (fun r S1 hp1 => ?_))
    obtain ⟨rfl, hp2, hp3⟩ := hp1
    refine kw_ifne_b (tgt := 25) hC dX8_roots_19 rfl (by decide) ⟨fun c19 => ?_, fun c19 => False.elim (by exact c19 trivial)⟩
    refine kw_iconst hC dX8_roots_25 rfl ?_
    refine kw_istore_n (lv' := [(2, _), (0, _), (1, _)]) hC dX8_roots_26 rfl (by decide) rfl ?_
    refine kw_iconst hC dX8_roots_27 rfl ?_
    refine kw_istore_n (lv' := [(3, _), (2, _), (0, _), (1, _)]) hC dX8_roots_28 rfl (by decide) rfl ?_
    refine kw_iload_n hC dX8_roots_29 rfl 0 rfl ?_
    refine kw_aload_n hC dX8_roots_30 rfl 2 rfl ?_
    refine kg_30_20 hC w8 f151 dX8_roots_31 rfl (by decide) (by decide) ?_
    refine kw_chi (z' := 0) (by exact hp2) ?_
    refine kw_icmp_ge (tgt := 61) hC dX8_roots_34 rfl (by decide) (by omega) (by omega) ⟨fun c34 => ?_, fun c34 => False.elim (by omega)⟩
    refine kw_iload_n hC dX8_roots_61 rfl 1 rfl ?_
    exact hR.1 rfl _ _ _ _ dX8_roots_62 ⟨_, rfl, by unfold q_roots; (repeat' split) <;> omega⟩
  · refine kw_iconst hC dX8_roots_12 rfl ?_
    exact hR.1 rfl _ _ _ _ dX8_roots_13 ⟨_, rfl, by unfold q_roots; (repeat' split) <;> omega⟩

set_option maxHeartbeats 4000000 in
set_option maxRecDepth 100000 in
/-- on a new object -/
theorem c1_X8_root {g : wG} (hD : wD g) {S : wSt} {a b : Int} (ha : -2147483648 ≤ a ∧ a ≤ 2147483647) (hb : -2147483648 ≤ b ∧ b ≤ 2147483647) (hF : nM S) (l : Launch) : Kt l yX8_root wsX8_root ({ frames := 2, cells := 0, slots := 0, locals := 47 } : Room) g S [vr g 30 0, vi a, vi b] (pI (fun r _ => r = (-1))) := by
  refine Kt.of (cc := cX8_root) (nL := 4) (ret := (some .int)) (own := RX8) rfl hD (by decide) rfl (Nat.le_of_ble_eq_true rfl) ⟨rfl, rfl⟩ ?_
  intro E hC hR
  show Wk E g 4 S 0 [(0, vr g 30 0), (1, vi a), (2, vi b)] []
  obtain ⟨hm, hk, hL, hN⟩ := hF
  refine kw_aload_n hC dX8_root_0 rfl 0 rfl ?_
  refine kw_iload_n hC dX8_root_1 rfl 2 rfl ?_
  refine kw_i2l hC dX8_root_2 rfl (by omega) ?_
  refine kw_callV hC (c_X8_isMirror hD (by omega) (by omega) (by omega)) gX8_root_X8_isMirror ⟨_, rfl⟩ rfl (by decide) (by decide) rfl ⟨rfl, rfl⟩ 1 (by decide +kernel) ⟨by decide, by decide⟩ rfl rfl (Nat.le_of_ble_eq_true rfl) dX8_root_3 rfl (kd_ie ?_)
  refine kw_ifeq_b (tgt := 13) hC dX8_root_6 rfl (by decide) ⟨fun c6 => ?_, fun c6 => False.elim (by omega)⟩
  refine kw_iconst hC dX8_root_13 rfl ?_
  exact hR.1 rfl _ _ _ _ dX8_root_14 ⟨_, rfl, rfl⟩

set_option maxHeartbeats 4000000 in
set_option maxRecDepth 100000 in
/-- without mirrors -/
theorem c1_X8_closes {g : wG} (hD : wD g) {S : wSt} (hm : S 30 0 0 = 0) (l : Launch) : Kt l yX8_closes wsX8_closes ({ frames := 0, cells := 0, slots := 0, locals := 0 } : Room) g S [vr g 30 0] (pI (fun r S' => r = 0 ∧ S' = ups S 30 0 20 0)) := by
  refine Kt.of (cc := cX8_closes) (nL := 4) (ret := (some .int)) (own := RX8) rfl hD (by decide) rfl (Nat.le_of_ble_eq_true rfl) ⟨rfl, rfl⟩ ?_
  intro E hC hR
  have f11 : Cond.fieldLink RX8 11 "MirrorBenchModel" "mirrors" "I" ∈ wsX8_closes := by decide +kernel
  have f151 : Cond.fieldLink RX8 151 "MirrorBenchModel" "many" "I" ∈ wsX8_closes := by decide +kernel
  have w8 : ∀ w ∈ wsX80, w ∈ wsX8_closes := by decide +kernel
  show Wk E g 4 S 0 [(0, vr g 30 0)] []
  refine kw_aload_n hC dX8_closes_0 rfl 0 rfl ?_
  refine kw_iconst hC dX8_closes_1 rfl ?_
  refine kp_30_20 hC w8 f151 dX8_closes_2 rfl (by decide) (by decide) ?_
  refine kw_iconst hC dX8_closes_5 rfl ?_
  refine kw_istore_n (lv' := [(1, _), (0, _)]) hC dX8_closes_6 rfl (by decide) rfl ?_
  refine kw_iload_n hC dX8_closes_7 rfl 0 rfl ?_
  refine kw_aload_n hC dX8_closes_8 rfl 1 rfl ?_
  refine kg_30_0 hC w8 f11 dX8_closes_9 rfl (by decide) (by decide) ?_
  refine kw_chi (z' := 0) (by exact hm) ?_
  refine kw_icmp_ge (tgt := 35) hC dX8_closes_12 rfl (by decide) (by omega) (by omega) ⟨fun c12 => ?_, fun c12 => False.elim (by omega)⟩
  refine kw_iconst hC dX8_closes_35 rfl ?_
  refine kw_istore_n (lv' := [(1, _), (0, _)]) hC dX8_closes_36 rfl (by decide) rfl ?_
  refine kw_iload_n hC dX8_closes_37 rfl 0 rfl ?_
  refine kw_aload_n hC dX8_closes_38 rfl 1 rfl ?_
  refine kg_30_20 hC w8 f151 dX8_closes_39 rfl (by decide) (by decide) ?_
  refine kw_chi (z' := 0) (by exact rfl) ?_
  refine kw_icmp_ge (tgt := 145) hC dX8_closes_42 rfl (by decide) (by omega) (by omega) ⟨fun c42 => ?_, fun c42 => False.elim (by omega)⟩
  refine kw_aload_n hC dX8_closes_145 rfl 1 rfl ?_
  refine kg_30_20 hC w8 f151 dX8_closes_146 rfl (by decide) (by decide) ?_
  refine kw_chi (z' := 0) (by exact rfl) ?_
  exact hR.1 rfl _ _ _ _ dX8_closes_149 ⟨_, rfl, rfl, rfl⟩

set_option maxHeartbeats 4000000 in
set_option maxRecDepth 100000 in
/-- without mirrors -/
theorem c1_X8_ends {g : wG} (hD : wD g) {S : wSt} (hm : S 30 0 0 = 0) (l : Launch) : Kt l yX8_ends wsX8_ends ({ frames := 1, cells := 0, slots := 0, locals := 23 } : Room) g S [vr g 30 0] (pI (fun r S' => r = 0 ∧ S' = ups S 30 0 20 0)) := by
  refine Kt.of (cc := cX8_ends) (nL := 2) (ret := (some .int)) (own := RX8) rfl hD (by decide) rfl (Nat.le_of_ble_eq_true rfl) ⟨rfl, rfl⟩ ?_
  intro E hC hR
  show Wk E g 2 S 0 [(0, vr g 30 0)] []
  refine kw_aload_n hC dX8_ends_0 rfl 0 rfl ?_
  refine kw_callV hC (c1_X8_closes hD hm) gX8_ends_X8_closes ⟨_, rfl⟩ rfl (by decide) (by decide) rfl ⟨rfl, rfl⟩ 0 (by decide +kernel) ⟨by decide, by decide⟩ rfl rfl (Nat.le_of_ble_eq_true rfl) dX8_ends_1 rfl (kd_ie ?_)
  refine kw_istore_n (lv' := [(1, _), (0, _)]) hC dX8_ends_4 rfl (by decide) rfl ?_
  refine kw_iload_n hC dX8_ends_5 rfl 0 rfl ?_
  refine kw_bipush hC dX8_ends_6 rfl (by decide) ?_
  refine kw_icmp_le (tgt := 16) hC dX8_ends_8 rfl (by decide) (by omega) (by omega) ⟨fun c8 => ?_, fun c8 => False.elim (by omega)⟩
  refine kw_iload_n hC dX8_ends_16 rfl 0 rfl ?_
  exact hR.1 rfl _ _ _ _ dX8_ends_17 ⟨_, rfl, rfl, rfl⟩

set_option maxHeartbeats 4000000 in
set_option maxRecDepth 100000 in
/-- on a new object -/
theorem c1_X8_count {g : wG} (hD : wD g) {S : wSt}  (hF : nM S) (l : Launch) : Kt l yX8_count wsX8_count ({ frames := 2, cells := 0, slots := 0, locals := 44 } : Room) g S [vr g 30 0] (pL (fun r _ => r = 1)) := by
  refine Kt.of (cc := cX8_count) (nL := 4) (ret := (some .long)) (own := RX8) rfl hD (by decide) rfl (Nat.le_of_ble_eq_true rfl) ⟨rfl, rfl⟩ ?_
  intro E hC hR
  have f11 : Cond.fieldLink RX8 11 "MirrorBenchModel" "mirrors" "I" ∈ wsX8_count := by decide +kernel
  have w8 : ∀ w ∈ wsX80, w ∈ wsX8_count := by decide +kernel
  show Wk E g 4 S 0 [(0, vr g 30 0)] []
  obtain ⟨hm, hk, hL, hN⟩ := hF
  refine kw_aload_n hC dX8_count_0 rfl 0 rfl ?_
  refine kw_callV hC (c1_X8_ends hD hm) gX8_count_X8_ends ⟨_, rfl⟩ rfl (by decide) (by decide) rfl ⟨rfl, rfl⟩ 0 (by decide +kernel) ⟨by decide, by decide⟩ rfl rfl (Nat.le_of_ble_eq_true rfl) dX8_count_1 rfl (kd_ie ?_)
  refine kw_if_ge (tgt := 11) hC dX8_count_4 rfl (by decide) (by omega) ⟨fun c4 => ?_, fun c4 => False.elim (by omega)⟩
  refine kw_lconst (z := 1) hC dX8_count_11 rfl rfl ?_
  refine kw_lstore_n (lv' := [(1, _), (0, _)]) hC dX8_count_12 rfl (by decide) rfl ?_
  refine kw_iconst hC dX8_count_13 rfl ?_
  refine kw_istore_n (lv' := [(3, _), (1, _), (0, _)]) hC dX8_count_14 rfl (by decide) rfl ?_
  refine kw_iload_n hC dX8_count_15 rfl 0 rfl ?_
  refine kw_aload_n hC dX8_count_16 rfl 2 rfl ?_
  refine kg_30_0 hC w8 f11 dX8_count_17 rfl (by decide) (by decide) ?_
  refine kw_chi (z' := 0) (by exact hm) ?_
  refine kw_icmp_ge (tgt := 38) hC dX8_count_20 rfl (by decide) (by omega) (by omega) ⟨fun c20 => ?_, fun c20 => False.elim (by omega)⟩
  refine kw_lload_n hC dX8_count_38 rfl 1 rfl ?_
  exact hR.2.2.1 rfl _ _ _ _ dX8_count_39 ⟨_, rfl, rfl⟩

set_option maxHeartbeats 4000000 in
set_option maxRecDepth 100000 in
/-- on a new object -/
theorem c1_X8_longest {g : wG} (hD : wD g) {S : wSt} {a : Int} (ha : -2147483648 ≤ a ∧ a ≤ 2147483647) (hF : nM S) (l : Launch) : Kt l yX8_longest wsX8_longest ({ frames := 2, cells := 0, slots := 0, locals := 45 } : Room) g S [vr g 30 0, vi a] (pI (fun r _ => r = q_1 a)) := by
  refine Kt.of (cc := cX8_longest) (nL := 5) (ret := (some .int)) (own := RX8) rfl hD (by decide) rfl (Nat.le_of_ble_eq_true rfl) ⟨rfl, rfl⟩ ?_
  intro E hC hR
  have f11 : Cond.fieldLink RX8 11 "MirrorBenchModel" "mirrors" "I" ∈ wsX8_longest := by decide +kernel
  have f57 : Cond.fieldLink RX8 57 "MirrorBenchModel" "wMany" "I" ∈ wsX8_longest := by decide +kernel
  have f81 : Cond.fieldLink RX8 81 "MirrorBenchModel" "isGreat" "Z" ∈ wsX8_longest := by decide +kernel
  have f92 : Cond.fieldLink RX8 92 "MirrorBenchModel" "rMany" "I" ∈ wsX8_longest := by decide +kernel
  have f110 : Cond.fieldLink RX8 110 "MirrorBenchModel" "fMany" "I" ∈ wsX8_longest := by decide +kernel
  have w8 : ∀ w ∈ wsX80, w ∈ wsX8_longest := by decide +kernel
  show Wk E g 5 S 0 [(0, vr g 30 0), (1, vi a)] []
  obtain ⟨hm, hk, hL, hN⟩ := hF
  refine kw_iload_n hC dX8_longest_0 rfl 1 rfl ?_
  refine kw_callS hC (c_X8_isSlot hD (by omega)) gX8_longest_X8_isSlot rfl ⟨rfl, rfl⟩ 1 (by decide +kernel) ⟨by decide, by decide⟩ rfl rfl (Nat.le_of_ble_eq_true rfl) dX8_longest_1 rfl (kd_ie ?_)
  refine kw_ifne_b (tgt := 9) hC dX8_longest_4 rfl (by decide) ⟨fun c4 => ?_, fun c4 => ?_⟩
  · refine kw_aload_n hC dX8_longest_9 rfl 0 rfl ?_
    refine kw_callV hC (c1_X8_ends hD hm) gX8_longest_X8_ends ⟨_, rfl⟩ rfl (by decide) (by decide) rfl ⟨rfl, rfl⟩ 0 (by decide +kernel) ⟨by decide, by decide⟩ rfl rfl (Nat.le_of_ble_eq_true rfl) dX8_longest_10 rfl (kd_ie ?_)
    refine kw_if_ge (tgt := 19) hC dX8_longest_13 rfl (by decide) (by omega) ⟨fun c13 => ?_, fun c13 => False.elim (by omega)⟩
    refine kw_aload_n hC dX8_longest_19 rfl 0 rfl ?_
    refine kw_iconst hC dX8_longest_20 rfl ?_
    refine kp_30_8 hC w8 f92 dX8_longest_21 rfl (by decide) (by decide) ?_
    refine kw_aload_n hC dX8_longest_24 rfl 0 rfl ?_
    refine kw_iconst hC dX8_longest_25 rfl ?_
    refine kp_30_16 hC w8 f81 dX8_longest_26 rfl (by decide) (by decide) (by omega) ?_
    refine kw_iconst hC dX8_longest_29 rfl ?_
    refine kw_istore_n (lv' := [(2, _), (0, _), (1, _)]) hC dX8_longest_30 rfl (by decide) rfl ?_
    refine kw_iload_n hC dX8_longest_31 rfl 0 rfl ?_
    refine kw_aload_n hC dX8_longest_32 rfl 1 rfl ?_
    refine kg_30_0 hC w8 f11 dX8_longest_33 rfl (by decide) (by decide) ?_
    refine kw_chi (z' := 0) (by exact hm) ?_
    refine kw_icmp_ge (tgt := 78) hC dX8_longest_36 rfl (by decide) (by omega) (by omega) ⟨fun c36 => ?_, fun c36 => False.elim (by omega)⟩
    refine kw_aload_n hC dX8_longest_78 rfl 1 rfl ?_
    refine kw_callV hC (c1_X8_formOfR hD (by rfl)) gX8_longest_X8_formOfR ⟨_, rfl⟩ rfl (by decide) (by decide) rfl ⟨rfl, rfl⟩ 0 (by decide +kernel) ⟨by decide, by decide⟩ rfl rfl (Nat.le_of_ble_eq_true rfl) dX8_longest_79 rfl (kd_ie ?_)
    refine kw_istore_n (lv' := [(3, _), (2, _), (0, _), (1, _)]) hC dX8_longest_82 rfl (by decide) rfl ?_
    refine kw_aload_n hC dX8_longest_83 rfl 2 rfl ?_
    refine kw_aload_n hC dX8_longest_84 rfl 2 rfl ?_
    refine kg_30_10 hC w8 f110 dX8_longest_85 rfl (by decide) (by decide) ?_
    refine kw_chi (z' := 0) (by exact rfl) ?_
    refine kp_30_14 hC w8 f57 dX8_longest_88 rfl (by decide) (by decide) ?_
    refine kw_iconst hC dX8_longest_91 rfl ?_
    refine kw_istore (lv' := [(4, _), (3, _), (2, _), (0, _), (1, _)]) hC dX8_longest_92 rfl (by decide) rfl ?_
    refine kw_iload hC dX8_longest_94 rfl 0 rfl ?_
    refine kw_aload_n hC dX8_longest_96 rfl 3 rfl ?_
    refine kg_30_10 hC w8 f110 dX8_longest_97 rfl (by decide) (by decide) ?_
    refine kw_chi (z' := 0) (by exact rfl) ?_
    refine kw_icmp_ge (tgt := 123) hC dX8_longest_100 rfl (by decide) (by omega) (by omega) ⟨fun c100 => ?_, fun c100 => False.elim (by omega)⟩
    refine kw_aload_n hC dX8_longest_123 rfl 3 rfl ?_
    refine kw_iload_n hC dX8_longest_124 rfl 4 rfl ?_
    refine kw_callV hC (c1_X8_store hD (by omega) (by omega) (by rfl)) gX8_longest_X8_store ⟨_, rfl⟩ rfl (by decide) (by decide) rfl ⟨rfl, rfl⟩ 1 (by decide +kernel) ⟨by decide, by decide⟩ rfl rfl (Nat.le_of_ble_eq_true rfl) dX8_longest_125 rfl (kd_ie ?_)
    exact hR.1 rfl _ _ _ _ dX8_longest_128 ⟨_, rfl, by unfold q_1; (repeat' split) <;> omega⟩
  · refine kw_iconst hC dX8_longest_7 rfl ?_
    exact hR.1 rfl _ _ _ _ dX8_longest_8 ⟨_, rfl, by unfold q_1; (repeat' split) <;> omega⟩

set_option maxHeartbeats 4000000 in
set_option maxRecDepth 100000 in
/-- without mirrors -/
theorem c1_X8_findForms {g : wG} (hD : wD g) {S : wSt} {a : Int} (a0 : 0 ≤ a) (a1 : a ≤ 12) (hm : S 30 0 0 = 0) (l : Launch) : Kt l yX8_findForms wsX8_findForms ({ frames := 0, cells := 0, slots := 0, locals := 0 } : Room) g S [vr g 30 0, vi a] (pI (fun r S' => r = bz True ∧ S' 30 0 26 = (if a = 0 then 1 else 0) ∧ S' 46 = S 46)) := by
  refine Kt.of (cc := cX8_findForms) (nL := 7) (ret := (some .boolean)) (own := RX8) rfl hD (by decide) rfl (Nat.le_of_ble_eq_true rfl) ⟨rfl, rfl⟩ ?_
  intro E hC hR
  have f11 : Cond.fieldLink RX8 11 "MirrorBenchModel" "mirrors" "I" ∈ wsX8_findForms := by decide +kernel
  have f206 : Cond.fieldLink RX8 206 "MirrorBenchModel" "formMany" "I" ∈ wsX8_findForms := by decide +kernel
  have w8 : ∀ w ∈ wsX80, w ∈ wsX8_findForms := by decide +kernel
  show Wk E g 7 S 0 [(0, vr g 30 0), (1, vi a)] []
  refine kw_aload_n hC dX8_findForms_0 rfl 0 rfl ?_
  refine kw_iconst hC dX8_findForms_1 rfl ?_
  refine kp_30_26 hC w8 f206 dX8_findForms_2 rfl (by decide) (by decide) ?_
  refine kw_iconst hC dX8_findForms_5 rfl ?_
  refine kw_istore_n (lv' := [(2, _), (0, _), (1, _)]) hC dX8_findForms_6 rfl (by decide) rfl ?_
  have hL7 : ∀ (n : Nat) (x : Int) (S2 : wSt), (0 ≤ x) → (x ≤ a) → (S2 30 0 0 = 0) → (S2 30 0 26 = (if x = 0 then 1 else 0)) → (S2 46 = S 46) → (a - x < (n : Int)) → Wk E g 7 S2 7 [(0, vr g 30 0), (1, vi a), (2, vi x)] [] := by
    intro n
    induction n with
    | zero => intro x S2 hx0 hx1 h2 h3 h4 hxn; exact absurd hxn (by omega)
    | succ n ih7 =>
      intro x S2 hx0 hx1 h2 h3 h4 hxn
      have h5 : 0 ≤ S2 30 0 26 ∧ S2 30 0 26 ≤ 1 := by rw [h3]; split <;> omega
      refine kw_iload_n hC dX8_findForms_7 rfl 2 rfl ?_
      refine kw_iload_n hC dX8_findForms_8 rfl 1 rfl ?_
      refine kw_icmp_ge (tgt := 196) hC dX8_findForms_9 rfl (by decide) (by omega) (by omega) ⟨fun c9 => ?_, fun c9 => ?_⟩
      · refine kw_iconst hC dX8_findForms_196 rfl ?_
        exact hR.2.1 rfl _ _ _ _ dX8_findForms_197 (by omega) ⟨_, rfl, (bz_t trivial).symm, by rw [h3]; (repeat' split) <;> omega, h4⟩
      · refine kw_iconst hC dX8_findForms_12 rfl ?_
        refine kw_istore_n (lv' := [(3, _), (0, _), (1, _), (2, _)]) hC dX8_findForms_13 rfl (by decide) rfl ?_
        refine kw_iconst hC dX8_findForms_14 rfl ?_
        refine kw_istore (lv' := [(4, _), (3, _), (0, _), (1, _), (2, _)]) hC dX8_findForms_15 rfl (by decide) rfl ?_
        have hL17 : ∀ (n8 : Nat) (y : Int), (0 ≤ y) → (y ≤ 1) → (1 - y < (n8 : Int)) → Wk E g 7 S2 17 [(0, vr g 30 0), (1, vi a), (2, vi x), (3, vi 0), (4, vi y)] [] := by
          intro n8
          induction n8 with
          | zero => intro y hy0 hy1 hyn; exact absurd hyn (by omega)
          | succ n8 ih17 =>
            intro y hy0 hy1 hyn
            refine kw_iload hC dX8_findForms_17 rfl 4 rfl ?_
            refine kw_aload_n hC dX8_findForms_19 rfl 0 rfl ?_
            refine kg_30_26 hC w8 f206 dX8_findForms_20 rfl (by decide) (by decide) ?_
            refine kw_icmp_ge (tgt := 153) hC dX8_findForms_23 rfl (by decide) (by omega) (by omega) ⟨fun c23 => ?_, fun c23 => ?_⟩
            · refine kw_iconst hC dX8_findForms_153 rfl ?_
              refine kw_istore (lv' := [(4, _), (0, _), (1, _), (2, _), (3, _)]) hC dX8_findForms_154 rfl (by decide) rfl ?_
              refine kw_iload hC dX8_findForms_156 rfl 0 rfl ?_
              refine kw_bipush hC dX8_findForms_158 rfl (by decide) ?_
              refine kw_iload_n hC dX8_findForms_160 rfl 4 rfl ?_
              refine kw_imul hC dX8_findForms_161 rfl ?_
              refine kw_icmp_ge (tgt := 185) hC dX8_findForms_162 rfl (by decide) (by omega) (by omega) ⟨fun c162 => ?_, fun c162 => False.elim (by omega)⟩
              refine kw_aload_n hC dX8_findForms_185 rfl 1 rfl ?_
              refine kw_iload_n hC dX8_findForms_186 rfl 4 rfl ?_
              refine kp_30_26 hC w8 f206 dX8_findForms_187 rfl (by decide) (by decide) ?_
              refine kw_iinc (lv' := [(2, _), (4, _), (0, _), (1, _), (3, _)]) hC dX8_findForms_190 rfl 3 rfl (by decide) rfl ?_
              refine kw_goto (tgt := 7) hC dX8_findForms_193 rfl (by decide) ?_
              refine kw_lv [2, 3, 0] rfl ?_
              exact ih7 (x + 1) _ (by omega) (by omega) h2 (by rw [if_neg (by omega)]; rfl) h4 (by omega)
            · refine kw_iconst hC dX8_findForms_26 rfl ?_
              refine kw_istore (lv' := [(5, _), (0, _), (1, _), (2, _), (3, _), (4, _)]) hC dX8_findForms_27 rfl (by decide) rfl ?_
              refine kw_iload hC dX8_findForms_29 rfl 0 rfl ?_
              refine kw_aload_n hC dX8_findForms_31 rfl 1 rfl ?_
              refine kg_30_0 hC w8 f11 dX8_findForms_32 rfl (by decide) (by decide) ?_
              refine kw_chi (z' := 0) (by exact h2) ?_
              refine kw_icmp_ge (tgt := 147) hC dX8_findForms_35 rfl (by decide) (by omega) (by omega) ⟨fun c35 => ?_, fun c35 => False.elim (by omega)⟩
              refine kw_iinc (lv' := [(4, _), (5, _), (0, _), (1, _), (2, _), (3, _)]) hC dX8_findForms_147 rfl 5 rfl (by decide) rfl ?_
              refine kw_goto (tgt := 17) hC dX8_findForms_150 rfl (by decide) ?_
              refine kw_lv [2, 3, 4, 5, 0] rfl ?_
              exact ih17 (y + 1) (by omega) (by omega) (by omega)
        refine kw_lv [2, 3, 4, 1, 0] rfl ?_
        exact hL17 2 0 (by omega) (by omega) (by omega)
  refine kw_lv [1, 2, 0] rfl ?_
  exact hL7 13 0 _ (by omega) (by omega) hm rfl rfl (by omega)

set_option maxHeartbeats 4000000 in
set_option maxRecDepth 100000 in
/-- on a new object -/
theorem c1_X8_forms {g : wG} (hD : wD g) {S : wSt} {a : Int} (ha : -2147483648 ≤ a ∧ a ≤ 2147483647) (hF : nM S) (l : Launch) : Kt l yX8_forms wsX8_forms ({ frames := 1, cells := 0, slots := 0, locals := 26 } : Room) g S [vr g 30 0, vi a] (pI (fun r _ => r = q_forms a)) := by
  refine Kt.of (cc := cX8_forms) (nL := 2) (ret := (some .int)) (own := RX8) rfl hD (by decide) rfl (Nat.le_of_ble_eq_true rfl) ⟨rfl, rfl⟩ ?_
  intro E hC hR
  have f206 : Cond.fieldLink RX8 206 "MirrorBenchModel" "formMany" "I" ∈ wsX8_forms := by decide +kernel
  have l218 : Cond.constantLong RX8 218 (Int64.ofInt (12)) ∈ wsX8_forms := by decide +kernel
  have w8 : ∀ w ∈ wsX80, w ∈ wsX8_forms := by decide +kernel
  show Wk E g 2 S 0 [(0, vr g 30 0), (1, vi a)] []
  obtain ⟨hm, hk, hL, hN⟩ := hF
  refine kw_iload_n hC dX8_forms_0 rfl 1 rfl ?_
  refine kw_i2l hC dX8_forms_1 rfl (by omega) ?_
  refine kw_lconst (z := 0) hC dX8_forms_2 rfl rfl ?_
  refine kw_ldc2 (z := 12) hC dX8_forms_3 rfl l218 ?_
  refine kw_callS hC (c_X8_in hD (by omega) (by omega) (by omega)) gX8_forms_X8_in rfl ⟨rfl, rfl⟩ 3 (by decide +kernel) ⟨by decide, by decide⟩ rfl rfl (Nat.le_of_ble_eq_true rfl) dX8_forms_6 rfl (kd_ie ?_)
  refine kw_ifne_b (tgt := 14) hC dX8_forms_9 rfl (by decide) ⟨fun c9 => ?_, fun c9 => ?_⟩
  · refine kw_aload_n hC dX8_forms_14 rfl 0 rfl ?_
    refine kw_iload_n hC dX8_forms_15 rfl 1 rfl ?_
    refine kw_callV hC (c1_X8_findForms hD (by omega) (by omega) hm) gX8_forms_X8_findForms ⟨_, rfl⟩ rfl (by decide) (by decide) rfl ⟨rfl, rfl⟩ 1 (by decide +kernel) ⟨by decide, by decide⟩ rfl rfl (Nat.le_of_ble_eq_true rfl) dX8_forms_16 rfl (kd_i (fun r S1 hp1 => ?_))
    obtain ⟨rfl, hp2, -⟩ := hp1
    refine kw_ifeq_b (tgt := 29) hC dX8_forms_19 rfl (by decide) ⟨fun c19 => False.elim (by exact c19 trivial), fun c19 => ?_⟩
    refine kw_aload_n hC dX8_forms_22 rfl 0 rfl ?_
    refine kg_30_26 hC w8 f206 dX8_forms_23 rfl (by decide) (by decide) ?_
    refine kw_goto (tgt := 31) hC dX8_forms_26 rfl (by decide) ?_
    exact hR.1 rfl _ _ _ _ dX8_forms_31 ⟨_, rfl, by unfold q_forms; (repeat' split) <;> omega⟩
  · refine kw_iconst hC dX8_forms_12 rfl ?_
    exact hR.1 rfl _ _ _ _ dX8_forms_13 ⟨_, rfl, by unfold q_forms; (repeat' split) <;> omega⟩

set_option maxHeartbeats 4000000 in
set_option maxRecDepth 100000 in
/-- on a new object -/
theorem c1_X8_next {g : wG} (hD : wD g) {S : wSt} {a b c : Int} (ha : -2147483648 ≤ a ∧ a ≤ 2147483647) (hb : -2147483648 ≤ b ∧ b ≤ 2147483647) (hc : -2147483648 ≤ c ∧ c ≤ 2147483647) (hF : nM S) (l : Launch) : Kt l yX8_next wsX8_next ({ frames := 2, cells := 0, slots := 0, locals := 45 } : Room) g S [vr g 30 0, vi a, vi b, vi c] (pI (fun r _ => r = q_next a b c)) := by
  refine Kt.of (cc := cX8_next) (nL := 5) (ret := (some .int)) (own := RX8) rfl hD (by decide) rfl (Nat.le_of_ble_eq_true rfl) ⟨rfl, rfl⟩ ?_
  intro E hC hR
  have f57 : Cond.fieldLink RX8 57 "MirrorBenchModel" "wMany" "I" ∈ wsX8_next := by decide +kernel
  have f206 : Cond.fieldLink RX8 206 "MirrorBenchModel" "formMany" "I" ∈ wsX8_next := by decide +kernel
  have l218 : Cond.constantLong RX8 218 (Int64.ofInt (12)) ∈ wsX8_next := by decide +kernel
  have w8 : ∀ w ∈ wsX80, w ∈ wsX8_next := by decide +kernel
  show Wk E g 5 S 0 [(0, vr g 30 0), (1, vi a), (2, vi b), (3, vi c)] []
  obtain ⟨hm, hk, hL, hN⟩ := hF
  refine kw_iload_n hC dX8_next_0 rfl 1 rfl ?_
  refine kw_i2l hC dX8_next_1 rfl (by omega) ?_
  refine kw_lconst (z := 0) hC dX8_next_2 rfl rfl ?_
  refine kw_ldc2 (z := 12) hC dX8_next_3 rfl l218 ?_
  refine kw_callS hC (c_X8_in hD (by omega) (by omega) (by omega)) gX8_next_X8_in rfl ⟨rfl, rfl⟩ 3 (by decide +kernel) ⟨by decide, by decide⟩ rfl rfl (Nat.le_of_ble_eq_true rfl) dX8_next_6 rfl (kd_ie ?_)
  refine kw_ifeq_b (tgt := 43) hC dX8_next_9 rfl (by decide) ⟨fun c9 => ?_, fun c9 => ?_⟩
  · refine kw_iconst hC dX8_next_43 rfl ?_
    exact hR.1 rfl _ _ _ _ dX8_next_44 ⟨_, rfl, by unfold q_next; (repeat' split) <;> omega⟩
  · refine kw_iload_n hC dX8_next_12 rfl 3 rfl ?_
    refine kw_callS hC (c_X8_isSlot hD (by omega)) gX8_next_X8_isSlot rfl ⟨rfl, rfl⟩ 1 (by decide +kernel) ⟨by decide, by decide⟩ rfl rfl (Nat.le_of_ble_eq_true rfl) dX8_next_13 rfl (kd_ie ?_)
    refine kw_ifeq_b (tgt := 43) hC dX8_next_16 rfl (by decide) ⟨fun c16 => ?_, fun c16 => ?_⟩
    · refine kw_iconst hC dX8_next_43 rfl ?_
      exact hR.1 rfl _ _ _ _ dX8_next_44 ⟨_, rfl, by unfold q_next; (repeat' split) <;> omega⟩
    · refine kw_aload_n hC dX8_next_19 rfl 0 rfl ?_
      refine kw_iload_n hC dX8_next_20 rfl 1 rfl ?_
      refine kw_callV hC (c1_X8_findForms hD (by omega) (by omega) hm) gX8_next_X8_findForms ⟨_, rfl⟩ rfl (by decide) (by decide) rfl ⟨rfl, rfl⟩ 1 (by decide +kernel) ⟨by decide, by decide⟩ rfl rfl (Nat.le_of_ble_eq_true rfl) dX8_next_21 rfl (kd_i (fun r S1 hp1 => ?_))
      obtain ⟨rfl, hp2, -⟩ := hp1
      have hp3 : 0 ≤ S1 30 0 26 ∧ S1 30 0 26 ≤ 1 := by rw [hp2]; split <;> omega
      have hp4 : ¬ a = 0 → S1 30 0 26 = 0 := fun h => by rw [hp2, if_neg h]
      refine kw_ifeq_b (tgt := 43) hC dX8_next_24 rfl (by decide) ⟨fun c24 => False.elim (by exact c24 trivial), fun c24 => ?_⟩
      refine kw_iload_n hC dX8_next_27 rfl 2 rfl ?_
      refine kw_i2l hC dX8_next_28 rfl (by omega) ?_
      refine kw_lconst (z := 0) hC dX8_next_29 rfl rfl ?_
      refine kw_aload_n hC dX8_next_30 rfl 0 rfl ?_
      refine kg_30_26 hC w8 f206 dX8_next_31 rfl (by decide) (by decide) ?_
      refine kw_iconst hC dX8_next_34 rfl ?_
      refine kw_isub hC dX8_next_35 rfl ?_
      refine kw_i2l hC dX8_next_36 rfl (by omega) ?_
      refine kw_callS hC (c_X8_in hD (by omega) (by omega) (by omega)) gX8_next_X8_in rfl ⟨rfl, rfl⟩ 3 (by decide +kernel) ⟨by decide, by decide⟩ rfl rfl (Nat.le_of_ble_eq_true rfl) dX8_next_37 rfl (kd_ie ?_)
      refine kw_ifne_b (tgt := 45) hC dX8_next_40 rfl (by decide) ⟨fun c40 => ?_, fun c40 => ?_⟩
      · obtain rfl : a = 0 := Classical.byContradiction (fun h => by have := hp4 h; omega)
        have hb0 : b = 0 := by omega
        refine kw_aload_n hC dX8_next_45 rfl 0 rfl ?_
        refine kw_iload_n hC dX8_next_46 rfl 1 rfl ?_
        refine kp_30_14 hC w8 f57 dX8_next_47 rfl (by decide) (by decide) ?_
        refine kw_iconst hC dX8_next_50 rfl ?_
        refine kw_istore (lv' := [(4, _), (0, _), (1, _), (2, _), (3, _)]) hC dX8_next_51 rfl (by decide) rfl ?_
        refine kw_iload hC dX8_next_53 rfl 0 rfl ?_
        refine kw_iload_n hC dX8_next_55 rfl 2 rfl ?_
        refine kw_icmp_ge (tgt := 84) hC dX8_next_56 rfl (by decide) (by omega) (by omega) ⟨fun c56 => ?_, fun c56 => False.elim (by omega)⟩
        refine kw_aload_n hC dX8_next_84 rfl 1 rfl ?_
        refine kw_iload_n hC dX8_next_85 rfl 4 rfl ?_
        refine kw_callV hC (c1_X8_store hD (by omega) (by omega) (by rfl)) gX8_next_X8_store ⟨_, rfl⟩ rfl (by decide) (by decide) rfl ⟨rfl, rfl⟩ 1 (by decide +kernel) ⟨by decide, by decide⟩ rfl rfl (Nat.le_of_ble_eq_true rfl) dX8_next_86 rfl (kd_ie ?_)
        exact hR.1 rfl _ _ _ _ dX8_next_89 ⟨_, rfl, by unfold q_next; (repeat' split) <;> omega⟩
      · refine kw_iconst hC dX8_next_43 rfl ?_
        exact hR.1 rfl _ _ _ _ dX8_next_44 ⟨_, rfl, by unfold q_next; (repeat' split) <;> omega⟩

set_option maxHeartbeats 4000000 in
set_option maxRecDepth 100000 in
/-- on a new object -/
theorem c1_X8_parts {g : wG} (hD : wD g) {S : wSt} {a b c d : Int} (ha : -2147483648 ≤ a ∧ a ≤ 2147483647) (hb : -2147483648 ≤ b ∧ b ≤ 2147483647) (hc : -2147483648 ≤ c ∧ c ≤ 2147483647) (hd : -2147483648 ≤ d ∧ d ≤ 2147483647) (hF : nM S) (l : Launch) : Kt l yX8_parts wsX8_parts ({ frames := 2, cells := 0, slots := 0, locals := 45 } : Room) g S [vr g 30 0, vi a, vi b, vi c, vi d] (pI (fun r _ => r = q_parts a c d)) := by
  refine Kt.of (cc := cX8_parts) (nL := 10) (ret := (some .int)) (own := RX8) rfl hD (by decide) rfl (Nat.le_of_ble_eq_true rfl) ⟨rfl, rfl⟩ ?_
  intro E hC hR
  have f11 : Cond.fieldLink RX8 11 "MirrorBenchModel" "mirrors" "I" ∈ wsX8_parts := by decide +kernel
  have f57 : Cond.fieldLink RX8 57 "MirrorBenchModel" "wMany" "I" ∈ wsX8_parts := by decide +kernel
  have f92 : Cond.fieldLink RX8 92 "MirrorBenchModel" "rMany" "I" ∈ wsX8_parts := by decide +kernel
  have f126 : Cond.fieldLink RX8 126 "MirrorBenchModel" "vMany" "I" ∈ wsX8_parts := by decide +kernel
  have w8 : ∀ w ∈ wsX80, w ∈ wsX8_parts := by decide +kernel
  show Wk E g 10 S 0 [(0, vr g 30 0), (1, vi a), (2, vi b), (3, vi c), (4, vi d)] []
  obtain ⟨hm, hk, hL, hN⟩ := hF
  refine kw_iload_n hC dX8_parts_0 rfl 1 rfl ?_
  refine kw_callS hC (c_X8_isSlot hD (by omega)) gX8_parts_X8_isSlot rfl ⟨rfl, rfl⟩ 1 (by decide +kernel) ⟨by decide, by decide⟩ rfl rfl (Nat.le_of_ble_eq_true rfl) dX8_parts_1 rfl (kd_ie ?_)
  refine kw_ifeq_b (tgt := 28) hC dX8_parts_4 rfl (by decide) ⟨fun c4 => ?_, fun c4 => ?_⟩
  · refine kw_iconst hC dX8_parts_28 rfl ?_
    exact hR.1 rfl _ _ _ _ dX8_parts_29 ⟨_, rfl, by unfold q_parts; (repeat' split) <;> omega⟩
  · refine kw_iload_n hC dX8_parts_7 rfl 3 rfl ?_
    refine kw_callS hC (c_X8_isSlot hD (by omega)) gX8_parts_X8_isSlot rfl ⟨rfl, rfl⟩ 1 (by decide +kernel) ⟨by decide, by decide⟩ rfl rfl (Nat.le_of_ble_eq_true rfl) dX8_parts_8 rfl (kd_ie ?_)
    refine kw_ifeq_b (tgt := 28) hC dX8_parts_11 rfl (by decide) ⟨fun c11 => ?_, fun c11 => ?_⟩
    · refine kw_iconst hC dX8_parts_28 rfl ?_
      exact hR.1 rfl _ _ _ _ dX8_parts_29 ⟨_, rfl, by unfold q_parts; (repeat' split) <;> omega⟩
    · refine kw_iload hC dX8_parts_14 rfl 4 rfl ?_
      refine kw_callS hC (c_X8_isSlot hD (by omega)) gX8_parts_X8_isSlot rfl ⟨rfl, rfl⟩ 1 (by decide +kernel) ⟨by decide, by decide⟩ rfl rfl (Nat.le_of_ble_eq_true rfl) dX8_parts_16 rfl (kd_ie ?_)
      refine kw_ifeq_b (tgt := 28) hC dX8_parts_19 rfl (by decide) ⟨fun c19 => ?_, fun c19 => ?_⟩
      · refine kw_iconst hC dX8_parts_28 rfl ?_
        exact hR.1 rfl _ _ _ _ dX8_parts_29 ⟨_, rfl, by unfold q_parts; (repeat' split) <;> omega⟩
      · refine kw_iload_n hC dX8_parts_22 rfl 3 rfl ?_
        refine kw_iload hC dX8_parts_23 rfl 4 rfl ?_
        refine kw_icmp_ne (tgt := 30) hC dX8_parts_25 rfl (by decide) (by omega) (by omega) ⟨fun c25 => ?_, fun c25 => ?_⟩
        · have hla := hL a (by omega) (by omega)
          refine kw_iload_n hC dX8_parts_30 rfl 2 rfl ?_
          refine kw_istore (lv' := [(5, _), (0, _), (1, _), (2, _), (3, _), (4, _)]) hC dX8_parts_31 rfl (by decide) rfl ?_
          refine kw_iload_n hC dX8_parts_33 rfl 3 rfl ?_
          refine kw_iconst hC dX8_parts_34 rfl ?_
          refine kw_icmp_ne (tgt := 82) hC dX8_parts_35 rfl (by decide) (by omega) (by omega) ⟨fun c35 => ?_, fun c35 => ?_⟩
          · refine kw_aload_n hC dX8_parts_82 rfl 1 rfl ?_
            refine kw_iload_n hC dX8_parts_83 rfl 2 rfl ?_
            refine kw_callV hC (c1_X8_load hD (by omega) (by omega) (by exact hla)) gX8_parts_X8_load ⟨_, rfl⟩ rfl (by decide) (by decide) rfl ⟨rfl, rfl⟩ 1 (by decide +kernel) ⟨by decide, by decide⟩ rfl rfl (Nat.le_of_ble_eq_true rfl) dX8_parts_84 rfl (kd_ve ?_)
            refine kw_aload_n hC dX8_parts_87 rfl 1 rfl ?_
            refine kw_callV hC (c1_X8_shortOf hD (by exact hla)) gX8_parts_X8_shortOf ⟨_, rfl⟩ rfl (by decide) (by decide) rfl ⟨rfl, rfl⟩ 0 (by decide +kernel) ⟨by decide, by decide⟩ rfl rfl (Nat.le_of_ble_eq_true rfl) dX8_parts_88 rfl (kd_ie ?_)
            refine kw_ifne_b (tgt := 97) hC dX8_parts_91 rfl (by decide) ⟨fun c91 => ?_, fun c91 => False.elim (by exact c91 trivial)⟩
            refine kw_aload_n hC dX8_parts_97 rfl 1 rfl ?_
            refine kw_iconst hC dX8_parts_98 rfl ?_
            refine kp_30_12 hC w8 f126 dX8_parts_99 rfl (by decide) (by decide) ?_
            refine kw_iconst hC dX8_parts_102 rfl ?_
            refine kw_istore (lv' := [(6, _), (5, _), (0, _), (1, _), (2, _), (3, _), (4, _)]) hC dX8_parts_103 rfl (by decide) rfl ?_
            refine kw_iload hC dX8_parts_105 rfl 0 rfl ?_
            refine kw_aload_n hC dX8_parts_107 rfl 2 rfl ?_
            refine kg_30_0 hC w8 f11 dX8_parts_108 rfl (by decide) (by decide) ?_
            refine kw_chi (z' := 0) (by exact hm) ?_
            refine kw_icmp_ge (tgt := 191) hC dX8_parts_111 rfl (by decide) (by omega) (by omega) ⟨fun c111 => ?_, fun c111 => False.elim (by omega)⟩
            refine kw_iconst hC dX8_parts_191 rfl ?_
            refine kw_istore (lv' := [(7, _), (6, _), (5, _), (0, _), (1, _), (2, _), (3, _), (4, _)]) hC dX8_parts_192 rfl (by decide) rfl ?_
            refine kw_iload hC dX8_parts_194 rfl 0 rfl ?_
            refine kw_aload_n hC dX8_parts_196 rfl 3 rfl ?_
            refine kg_30_12 hC w8 f126 dX8_parts_197 rfl (by decide) (by decide) ?_
            refine kw_chi (z' := 0) (by exact rfl) ?_
            refine kw_icmp_ge (tgt := 223) hC dX8_parts_200 rfl (by decide) (by omega) (by omega) ⟨fun c200 => ?_, fun c200 => False.elim (by omega)⟩
            refine kw_aload_n hC dX8_parts_223 rfl 3 rfl ?_
            refine kw_aload_n hC dX8_parts_224 rfl 3 rfl ?_
            refine kg_30_12 hC w8 f126 dX8_parts_225 rfl (by decide) (by decide) ?_
            refine kw_chi (z' := 0) (by exact rfl) ?_
            refine kp_30_14 hC w8 f57 dX8_parts_228 rfl (by decide) (by decide) ?_
            refine kw_iconst hC dX8_parts_231 rfl ?_
            refine kw_istore (lv' := [(7, _), (6, _), (5, _), (0, _), (1, _), (2, _), (3, _), (4, _)]) hC dX8_parts_232 rfl (by decide) rfl ?_
            refine kw_iload hC dX8_parts_234 rfl 0 rfl ?_
            refine kw_aload_n hC dX8_parts_236 rfl 3 rfl ?_
            refine kg_30_8 hC w8 f92 dX8_parts_237 rfl (by decide) (by decide) ?_
            refine kw_chi (z' := 0) (by exact rfl) ?_
            refine kw_icmp_ge (tgt := 263) hC dX8_parts_240 rfl (by decide) (by omega) (by omega) ⟨fun c240 => ?_, fun c240 => False.elim (by omega)⟩
            refine kw_aload_n hC dX8_parts_263 rfl 3 rfl ?_
            refine kw_aload_n hC dX8_parts_264 rfl 3 rfl ?_
            refine kg_30_8 hC w8 f92 dX8_parts_265 rfl (by decide) (by decide) ?_
            refine kw_chi (z' := 0) (by exact rfl) ?_
            refine kp_30_12 hC w8 f126 dX8_parts_268 rfl (by decide) (by decide) ?_
            refine kw_aload_n hC dX8_parts_271 rfl 3 rfl ?_
            refine kw_callV hC (c1_X8_formOfW hD (by rfl)) gX8_parts_X8_formOfW ⟨_, rfl⟩ rfl (by decide) (by decide) rfl ⟨rfl, rfl⟩ 0 (by decide +kernel) ⟨by decide, by decide⟩ rfl rfl (Nat.le_of_ble_eq_true rfl) dX8_parts_272 rfl (kd_ie ?_)
            refine kw_ifne_b (tgt := 281) hC dX8_parts_275 rfl (by decide) ⟨fun c275 => ?_, fun c275 => False.elim (by exact c275 trivial)⟩
            refine kw_aload_n hC dX8_parts_281 rfl 3 rfl ?_
            refine kg_30_14 hC w8 f57 dX8_parts_282 rfl (by decide) (by decide) ?_
            refine kw_chi (z' := 0) (by exact rfl) ?_
            refine kw_istore (lv' := [(7, _), (6, _), (5, _), (0, _), (1, _), (2, _), (3, _), (4, _)]) hC dX8_parts_285 rfl (by decide) rfl ?_
            refine kw_iconst hC dX8_parts_287 rfl ?_
            refine kw_istore (lv' := [(8, _), (7, _), (6, _), (5, _), (0, _), (1, _), (2, _), (3, _), (4, _)]) hC dX8_parts_288 rfl (by decide) rfl ?_
            refine kw_iload hC dX8_parts_290 rfl 0 rfl ?_
            refine kw_aload_n hC dX8_parts_292 rfl 4 rfl ?_
            refine kg_30_14 hC w8 f57 dX8_parts_293 rfl (by decide) (by decide) ?_
            refine kw_chi (z' := 0) (by exact rfl) ?_
            refine kw_icmp_ge (tgt := 319) hC dX8_parts_296 rfl (by decide) (by omega) (by omega) ⟨fun c296 => ?_, fun c296 => False.elim (by omega)⟩
            refine kw_aload_n hC dX8_parts_319 rfl 4 rfl ?_
            refine kw_aload_n hC dX8_parts_320 rfl 4 rfl ?_
            refine kg_30_12 hC w8 f126 dX8_parts_321 rfl (by decide) (by decide) ?_
            refine kw_chi (z' := 0) (by exact rfl) ?_
            refine kp_30_14 hC w8 f57 dX8_parts_324 rfl (by decide) (by decide) ?_
            refine kw_iconst hC dX8_parts_327 rfl ?_
            refine kw_istore (lv' := [(8, _), (7, _), (6, _), (5, _), (0, _), (1, _), (2, _), (3, _), (4, _)]) hC dX8_parts_328 rfl (by decide) rfl ?_
            refine kw_iload hC dX8_parts_330 rfl 0 rfl ?_
            refine kw_aload_n hC dX8_parts_332 rfl 4 rfl ?_
            refine kg_30_12 hC w8 f126 dX8_parts_333 rfl (by decide) (by decide) ?_
            refine kw_chi (z' := 0) (by exact rfl) ?_
            refine kw_icmp_ge (tgt := 359) hC dX8_parts_336 rfl (by decide) (by omega) (by omega) ⟨fun c336 => ?_, fun c336 => False.elim (by omega)⟩
            refine kw_aload_n hC dX8_parts_359 rfl 4 rfl ?_
            refine kw_callV hC (c1_X8_formOfW hD (by rfl)) gX8_parts_X8_formOfW ⟨_, rfl⟩ rfl (by decide) (by decide) rfl ⟨rfl, rfl⟩ 0 (by decide +kernel) ⟨by decide, by decide⟩ rfl rfl (Nat.le_of_ble_eq_true rfl) dX8_parts_360 rfl (kd_ie ?_)
            refine kw_ifne_b (tgt := 369) hC dX8_parts_363 rfl (by decide) ⟨fun c363 => ?_, fun c363 => False.elim (by exact c363 trivial)⟩
            refine kw_aload_n hC dX8_parts_369 rfl 4 rfl ?_
            refine kw_iload hC dX8_parts_370 rfl 8 rfl ?_
            refine kw_callV hC (c1_X8_store hD (by omega) (by omega) (by rfl)) gX8_parts_X8_store ⟨_, rfl⟩ rfl (by decide) (by decide) rfl ⟨rfl, rfl⟩ 1 (by decide +kernel) ⟨by decide, by decide⟩ rfl rfl (Nat.le_of_ble_eq_true rfl) dX8_parts_372 rfl (kd_ie ?_)
            refine kw_istore (lv' := [(8, _), (7, _), (6, _), (5, _), (0, _), (1, _), (2, _), (3, _), (4, _)]) hC dX8_parts_375 rfl (by decide) rfl ?_
            refine kw_aload_n hC dX8_parts_377 rfl 4 rfl ?_
            refine kw_iload hC dX8_parts_378 rfl 1 rfl ?_
            refine kp_30_14 hC w8 f57 dX8_parts_380 rfl (by decide) (by decide) ?_
            refine kw_iconst hC dX8_parts_383 rfl ?_
            refine kw_istore (lv' := [(9, _), (8, _), (7, _), (6, _), (5, _), (0, _), (1, _), (2, _), (3, _), (4, _)]) hC dX8_parts_384 rfl (by decide) rfl ?_
            refine kw_iload hC dX8_parts_386 rfl 0 rfl ?_
            refine kw_iload hC dX8_parts_388 rfl 2 rfl ?_
            refine kw_icmp_ge (tgt := 413) hC dX8_parts_390 rfl (by decide) (by omega) (by omega) ⟨fun c390 => ?_, fun c390 => False.elim (by omega)⟩
            refine kw_aload_n hC dX8_parts_413 rfl 5 rfl ?_
            refine kw_iload_n hC dX8_parts_414 rfl 8 rfl ?_
            refine kw_callV hC (c1_X8_store hD (by omega) (by omega) (by rfl)) gX8_parts_X8_store ⟨_, rfl⟩ rfl (by decide) (by decide) rfl ⟨rfl, rfl⟩ 1 (by decide +kernel) ⟨by decide, by decide⟩ rfl rfl (Nat.le_of_ble_eq_true rfl) dX8_parts_415 rfl (kd_ie ?_)
            exact hR.1 rfl _ _ _ _ dX8_parts_418 ⟨_, rfl, by unfold q_parts; (repeat' split) <;> omega⟩
          · refine kw_iconst hC dX8_parts_38 rfl ?_
            refine kw_istore (lv' := [(5, _), (0, _), (1, _), (2, _), (3, _), (4, _)]) hC dX8_parts_39 rfl (by decide) rfl ?_
            refine kw_iconst hC dX8_parts_41 rfl ?_
            refine kw_istore (lv' := [(6, _), (5, _), (0, _), (1, _), (2, _), (3, _), (4, _)]) hC dX8_parts_42 rfl (by decide) rfl ?_
            refine kw_iload hC dX8_parts_44 rfl 0 rfl ?_
            refine kw_aload_n hC dX8_parts_46 rfl 2 rfl ?_
            refine kg_30_0 hC w8 f11 dX8_parts_47 rfl (by decide) (by decide) ?_
            refine kw_chi (z' := 0) (by exact hm) ?_
            refine kw_icmp_ge (tgt := 82) hC dX8_parts_50 rfl (by decide) (by omega) (by omega) ⟨fun c50 => ?_, fun c50 => False.elim (by omega)⟩
            refine kw_aload_n hC dX8_parts_82 rfl 2 rfl ?_
            refine kw_iload_n hC dX8_parts_83 rfl 3 rfl ?_
            refine kw_callV hC (c1_X8_load hD (by omega) (by omega) (by exact hla)) gX8_parts_X8_load ⟨_, rfl⟩ rfl (by decide) (by decide) rfl ⟨rfl, rfl⟩ 1 (by decide +kernel) ⟨by decide, by decide⟩ rfl rfl (Nat.le_of_ble_eq_true rfl) dX8_parts_84 rfl (kd_ve ?_)
            refine kw_aload_n hC dX8_parts_87 rfl 2 rfl ?_
            refine kw_callV hC (c1_X8_shortOf hD (by exact hla)) gX8_parts_X8_shortOf ⟨_, rfl⟩ rfl (by decide) (by decide) rfl ⟨rfl, rfl⟩ 0 (by decide +kernel) ⟨by decide, by decide⟩ rfl rfl (Nat.le_of_ble_eq_true rfl) dX8_parts_88 rfl (kd_ie ?_)
            refine kw_ifne_b (tgt := 97) hC dX8_parts_91 rfl (by decide) ⟨fun c91 => ?_, fun c91 => False.elim (by exact c91 trivial)⟩
            refine kw_aload_n hC dX8_parts_97 rfl 2 rfl ?_
            refine kw_iconst hC dX8_parts_98 rfl ?_
            refine kp_30_12 hC w8 f126 dX8_parts_99 rfl (by decide) (by decide) ?_
            refine kw_iconst hC dX8_parts_102 rfl ?_
            refine kw_istore (lv' := [(6, _), (5, _), (0, _), (1, _), (2, _), (3, _), (4, _)]) hC dX8_parts_103 rfl (by decide) rfl ?_
            refine kw_iload hC dX8_parts_105 rfl 0 rfl ?_
            refine kw_aload_n hC dX8_parts_107 rfl 2 rfl ?_
            refine kg_30_0 hC w8 f11 dX8_parts_108 rfl (by decide) (by decide) ?_
            refine kw_chi (z' := 0) (by exact hm) ?_
            refine kw_icmp_ge (tgt := 191) hC dX8_parts_111 rfl (by decide) (by omega) (by omega) ⟨fun c111 => ?_, fun c111 => False.elim (by omega)⟩
            refine kw_iconst hC dX8_parts_191 rfl ?_
            refine kw_istore (lv' := [(7, _), (6, _), (5, _), (0, _), (1, _), (2, _), (3, _), (4, _)]) hC dX8_parts_192 rfl (by decide) rfl ?_
            refine kw_iload hC dX8_parts_194 rfl 0 rfl ?_
            refine kw_aload_n hC dX8_parts_196 rfl 3 rfl ?_
            refine kg_30_12 hC w8 f126 dX8_parts_197 rfl (by decide) (by decide) ?_
            refine kw_chi (z' := 0) (by exact rfl) ?_
            refine kw_icmp_ge (tgt := 223) hC dX8_parts_200 rfl (by decide) (by omega) (by omega) ⟨fun c200 => ?_, fun c200 => False.elim (by omega)⟩
            refine kw_aload_n hC dX8_parts_223 rfl 3 rfl ?_
            refine kw_aload_n hC dX8_parts_224 rfl 3 rfl ?_
            refine kg_30_12 hC w8 f126 dX8_parts_225 rfl (by decide) (by decide) ?_
            refine kw_chi (z' := 0) (by exact rfl) ?_
            refine kp_30_14 hC w8 f57 dX8_parts_228 rfl (by decide) (by decide) ?_
            refine kw_iconst hC dX8_parts_231 rfl ?_
            refine kw_istore (lv' := [(7, _), (6, _), (5, _), (0, _), (1, _), (2, _), (3, _), (4, _)]) hC dX8_parts_232 rfl (by decide) rfl ?_
            refine kw_iload hC dX8_parts_234 rfl 0 rfl ?_
            refine kw_aload_n hC dX8_parts_236 rfl 3 rfl ?_
            refine kg_30_8 hC w8 f92 dX8_parts_237 rfl (by decide) (by decide) ?_
            refine kw_chi (z' := 0) (by exact rfl) ?_
            refine kw_icmp_ge (tgt := 263) hC dX8_parts_240 rfl (by decide) (by omega) (by omega) ⟨fun c240 => ?_, fun c240 => False.elim (by omega)⟩
            refine kw_aload_n hC dX8_parts_263 rfl 3 rfl ?_
            refine kw_aload_n hC dX8_parts_264 rfl 3 rfl ?_
            refine kg_30_8 hC w8 f92 dX8_parts_265 rfl (by decide) (by decide) ?_
            refine kw_chi (z' := 0) (by exact rfl) ?_
            refine kp_30_12 hC w8 f126 dX8_parts_268 rfl (by decide) (by decide) ?_
            refine kw_aload_n hC dX8_parts_271 rfl 3 rfl ?_
            refine kw_callV hC (c1_X8_formOfW hD (by rfl)) gX8_parts_X8_formOfW ⟨_, rfl⟩ rfl (by decide) (by decide) rfl ⟨rfl, rfl⟩ 0 (by decide +kernel) ⟨by decide, by decide⟩ rfl rfl (Nat.le_of_ble_eq_true rfl) dX8_parts_272 rfl (kd_ie ?_)
            refine kw_ifne_b (tgt := 281) hC dX8_parts_275 rfl (by decide) ⟨fun c275 => ?_, fun c275 => False.elim (by exact c275 trivial)⟩
            refine kw_aload_n hC dX8_parts_281 rfl 3 rfl ?_
            refine kg_30_14 hC w8 f57 dX8_parts_282 rfl (by decide) (by decide) ?_
            refine kw_chi (z' := 0) (by exact rfl) ?_
            refine kw_istore (lv' := [(7, _), (6, _), (5, _), (0, _), (1, _), (2, _), (3, _), (4, _)]) hC dX8_parts_285 rfl (by decide) rfl ?_
            refine kw_iconst hC dX8_parts_287 rfl ?_
            refine kw_istore (lv' := [(8, _), (7, _), (6, _), (5, _), (0, _), (1, _), (2, _), (3, _), (4, _)]) hC dX8_parts_288 rfl (by decide) rfl ?_
            refine kw_iload hC dX8_parts_290 rfl 0 rfl ?_
            refine kw_aload_n hC dX8_parts_292 rfl 4 rfl ?_
            refine kg_30_14 hC w8 f57 dX8_parts_293 rfl (by decide) (by decide) ?_
            refine kw_chi (z' := 0) (by exact rfl) ?_
            refine kw_icmp_ge (tgt := 319) hC dX8_parts_296 rfl (by decide) (by omega) (by omega) ⟨fun c296 => ?_, fun c296 => False.elim (by omega)⟩
            refine kw_aload_n hC dX8_parts_319 rfl 4 rfl ?_
            refine kw_aload_n hC dX8_parts_320 rfl 4 rfl ?_
            refine kg_30_12 hC w8 f126 dX8_parts_321 rfl (by decide) (by decide) ?_
            refine kw_chi (z' := 0) (by exact rfl) ?_
            refine kp_30_14 hC w8 f57 dX8_parts_324 rfl (by decide) (by decide) ?_
            refine kw_iconst hC dX8_parts_327 rfl ?_
            refine kw_istore (lv' := [(8, _), (7, _), (6, _), (5, _), (0, _), (1, _), (2, _), (3, _), (4, _)]) hC dX8_parts_328 rfl (by decide) rfl ?_
            refine kw_iload hC dX8_parts_330 rfl 0 rfl ?_
            refine kw_aload_n hC dX8_parts_332 rfl 4 rfl ?_
            refine kg_30_12 hC w8 f126 dX8_parts_333 rfl (by decide) (by decide) ?_
            refine kw_chi (z' := 0) (by exact rfl) ?_
            refine kw_icmp_ge (tgt := 359) hC dX8_parts_336 rfl (by decide) (by omega) (by omega) ⟨fun c336 => ?_, fun c336 => False.elim (by omega)⟩
            refine kw_aload_n hC dX8_parts_359 rfl 4 rfl ?_
            refine kw_callV hC (c1_X8_formOfW hD (by rfl)) gX8_parts_X8_formOfW ⟨_, rfl⟩ rfl (by decide) (by decide) rfl ⟨rfl, rfl⟩ 0 (by decide +kernel) ⟨by decide, by decide⟩ rfl rfl (Nat.le_of_ble_eq_true rfl) dX8_parts_360 rfl (kd_ie ?_)
            refine kw_ifne_b (tgt := 369) hC dX8_parts_363 rfl (by decide) ⟨fun c363 => ?_, fun c363 => False.elim (by exact c363 trivial)⟩
            refine kw_aload_n hC dX8_parts_369 rfl 4 rfl ?_
            refine kw_iload hC dX8_parts_370 rfl 8 rfl ?_
            refine kw_callV hC (c1_X8_store hD (by omega) (by omega) (by rfl)) gX8_parts_X8_store ⟨_, rfl⟩ rfl (by decide) (by decide) rfl ⟨rfl, rfl⟩ 1 (by decide +kernel) ⟨by decide, by decide⟩ rfl rfl (Nat.le_of_ble_eq_true rfl) dX8_parts_372 rfl (kd_ie ?_)
            refine kw_istore (lv' := [(8, _), (7, _), (6, _), (5, _), (0, _), (1, _), (2, _), (3, _), (4, _)]) hC dX8_parts_375 rfl (by decide) rfl ?_
            refine kw_aload_n hC dX8_parts_377 rfl 4 rfl ?_
            refine kw_iload hC dX8_parts_378 rfl 1 rfl ?_
            refine kp_30_14 hC w8 f57 dX8_parts_380 rfl (by decide) (by decide) ?_
            refine kw_iconst hC dX8_parts_383 rfl ?_
            refine kw_istore (lv' := [(9, _), (8, _), (7, _), (6, _), (5, _), (0, _), (1, _), (2, _), (3, _), (4, _)]) hC dX8_parts_384 rfl (by decide) rfl ?_
            refine kw_iload hC dX8_parts_386 rfl 0 rfl ?_
            refine kw_iload hC dX8_parts_388 rfl 2 rfl ?_
            refine kw_icmp_ge (tgt := 413) hC dX8_parts_390 rfl (by decide) (by omega) (by omega) ⟨fun c390 => ?_, fun c390 => False.elim (by omega)⟩
            refine kw_aload_n hC dX8_parts_413 rfl 5 rfl ?_
            refine kw_iload_n hC dX8_parts_414 rfl 8 rfl ?_
            refine kw_callV hC (c1_X8_store hD (by omega) (by omega) (by rfl)) gX8_parts_X8_store ⟨_, rfl⟩ rfl (by decide) (by decide) rfl ⟨rfl, rfl⟩ 1 (by decide +kernel) ⟨by decide, by decide⟩ rfl rfl (Nat.le_of_ble_eq_true rfl) dX8_parts_415 rfl (kd_ie ?_)
            exact hR.1 rfl _ _ _ _ dX8_parts_418 ⟨_, rfl, by unfold q_parts; (repeat' split) <;> omega⟩
        · refine kw_iconst hC dX8_parts_28 rfl ?_
          exact hR.1 rfl _ _ _ _ dX8_parts_29 ⟨_, rfl, by unfold q_parts; (repeat' split) <;> omega⟩

set_option maxHeartbeats 4000000 in
set_option maxRecDepth 100000 in
/-- of empty words -/
theorem c1_X8_findWay {g : wG} (hD : wD g) {S : wSt} {a b : Int} (a0 : 0 ≤ a) (a1 : a < 8) (b0 : 0 ≤ b) (b1 : b < 8) (hla : S 46 0 a = 0) (hlb : S 46 0 b = 0) (l : Launch) : Kt l yX8_findWay wsX8_findWay ({ frames := 2, cells := 0, slots := 0, locals := 43 } : Room) g S [vr g 30 0, vi a, vi b] (pI (fun r S' => r = 0 ∧ S' = fwS (ups S 30 0 14 0))) := by
  refine Kt.of (cc := cX8_findWay) (nL := 3) (ret := (some .int)) (own := RX8) rfl hD (by decide) rfl (Nat.le_of_ble_eq_true rfl) ⟨rfl, rfl⟩ ?_
  intro E hC hR
  have f43 : Cond.fieldLink RX8 43 "MirrorBenchModel" "lengths" "[I" ∈ wsX8_findWay := by decide +kernel
  have w8 : ∀ w ∈ wsX80, w ∈ wsX8_findWay := by decide +kernel
  show Wk E g 3 S 0 [(0, vr g 30 0), (1, vi a), (2, vi b)] []
  refine kw_aload_n hC dX8_findWay_0 rfl 0 rfl ?_
  refine kg_30_6 hC w8 f43 dX8_findWay_1 rfl (by decide) (by decide) ?_
  refine kw_iload_n hC dX8_findWay_4 rfl 1 rfl ?_
  refine ka_46 hC dX8_findWay_5 rfl (by decide) (by decide) (by omega) (by omega) ?_
  refine kw_aload_n hC dX8_findWay_6 rfl 0 rfl ?_
  refine kg_30_6 hC w8 f43 dX8_findWay_7 rfl (by decide) (by decide) ?_
  refine kw_iload_n hC dX8_findWay_10 rfl 2 rfl ?_
  refine ka_46 hC dX8_findWay_11 rfl (by decide) (by decide) (by omega) (by omega) ?_
  refine kw_iadd hC dX8_findWay_12 rfl ?_
  refine kw_bipush hC dX8_findWay_13 rfl (by decide) ?_
  refine kw_icmp_le (tgt := 21) hC dX8_findWay_15 rfl (by decide) (by omega) (by omega) ⟨fun c15 => ?_, fun c15 => False.elim (by omega)⟩
  refine kw_aload_n hC dX8_findWay_21 rfl 0 rfl ?_
  refine kw_iload_n hC dX8_findWay_22 rfl 1 rfl ?_
  refine kw_callV hC (c1_X8_loadBack hD (by omega) (by omega) (by exact hla)) gX8_findWay_X8_loadBack ⟨_, rfl⟩ rfl (by decide) (by decide) rfl ⟨rfl, rfl⟩ 1 (by decide +kernel) ⟨by decide, by decide⟩ rfl rfl (Nat.le_of_ble_eq_true rfl) dX8_findWay_23 rfl (kd_ve ?_)
  refine kw_aload_n hC dX8_findWay_26 rfl 0 rfl ?_
  refine kw_iload_n hC dX8_findWay_27 rfl 2 rfl ?_
  refine kw_callV hC (c1_X8_loadMore hD (by omega) (by omega) (by exact hlb)) gX8_findWay_X8_loadMore ⟨_, rfl⟩ rfl (by decide) (by decide) rfl ⟨rfl, rfl⟩ 1 (by decide +kernel) ⟨by decide, by decide⟩ rfl rfl (Nat.le_of_ble_eq_true rfl) dX8_findWay_28 rfl (kd_ve ?_)
  refine kw_aload_n hC dX8_findWay_31 rfl 0 rfl ?_
  refine kw_callV hC (c1_X8_formOfW hD (by rfl)) gX8_findWay_X8_formOfW ⟨_, rfl⟩ rfl (by decide) (by decide) rfl ⟨rfl, rfl⟩ 0 (by decide +kernel) ⟨by decide, by decide⟩ rfl rfl (Nat.le_of_ble_eq_true rfl) dX8_findWay_32 rfl (kd_ie ?_)
  refine kw_ifeq_b (tgt := 42) hC dX8_findWay_35 rfl (by decide) ⟨fun c35 => False.elim (by exact c35 trivial), fun c35 => ?_⟩
  refine kw_iconst hC dX8_findWay_38 rfl ?_
  refine kw_goto (tgt := 44) hC dX8_findWay_39 rfl (by decide) ?_
  exact hR.1 rfl _ _ _ _ dX8_findWay_44 ⟨_, rfl, rfl, rfl⟩

set_option maxHeartbeats 4000000 in
set_option maxRecDepth 100000 in
/-- on a new object -/
theorem c1_X8_way {g : wG} (hD : wD g) {S : wSt} {a b c : Int} (ha : -2147483648 ≤ a ∧ a ≤ 2147483647) (hb : -2147483648 ≤ b ∧ b ≤ 2147483647) (hc : -2147483648 ≤ c ∧ c ≤ 2147483647) (hF : nM S) (l : Launch) : Kt l yX8_way wsX8_way ({ frames := 3, cells := 0, slots := 0, locals := 65 } : Room) g S [vr g 30 0, vi a, vi b, vi c] (pI (fun r _ => r = q_3 a b c)) := by
  refine Kt.of (cc := cX8_way) (nL := 5) (ret := (some .int)) (own := RX8) rfl hD (by decide) rfl (Nat.le_of_ble_eq_true rfl) ⟨rfl, rfl⟩ ?_
  intro E hC hR
  show Wk E g 5 S 0 [(0, vr g 30 0), (1, vi a), (2, vi b), (3, vi c)] []
  obtain ⟨hm, hk, hL, hN⟩ := hF
  refine kw_iload_n hC dX8_way_0 rfl 1 rfl ?_
  refine kw_callS hC (c_X8_isSlot hD (by omega)) gX8_way_X8_isSlot rfl ⟨rfl, rfl⟩ 1 (by decide +kernel) ⟨by decide, by decide⟩ rfl rfl (Nat.le_of_ble_eq_true rfl) dX8_way_1 rfl (kd_ie ?_)
  refine kw_ifeq_b (tgt := 21) hC dX8_way_4 rfl (by decide) ⟨fun c4 => ?_, fun c4 => ?_⟩
  · refine kw_iconst hC dX8_way_21 rfl ?_
    exact hR.1 rfl _ _ _ _ dX8_way_22 ⟨_, rfl, by unfold q_3; (repeat' split) <;> omega⟩
  · refine kw_iload_n hC dX8_way_7 rfl 2 rfl ?_
    refine kw_callS hC (c_X8_isSlot hD (by omega)) gX8_way_X8_isSlot rfl ⟨rfl, rfl⟩ 1 (by decide +kernel) ⟨by decide, by decide⟩ rfl rfl (Nat.le_of_ble_eq_true rfl) dX8_way_8 rfl (kd_ie ?_)
    refine kw_ifeq_b (tgt := 21) hC dX8_way_11 rfl (by decide) ⟨fun c11 => ?_, fun c11 => ?_⟩
    · refine kw_iconst hC dX8_way_21 rfl ?_
      exact hR.1 rfl _ _ _ _ dX8_way_22 ⟨_, rfl, by unfold q_3; (repeat' split) <;> omega⟩
    · refine kw_iload_n hC dX8_way_14 rfl 3 rfl ?_
      refine kw_callS hC (c_X8_isSlot hD (by omega)) gX8_way_X8_isSlot rfl ⟨rfl, rfl⟩ 1 (by decide +kernel) ⟨by decide, by decide⟩ rfl rfl (Nat.le_of_ble_eq_true rfl) dX8_way_15 rfl (kd_ie ?_)
      refine kw_ifne_b (tgt := 23) hC dX8_way_18 rfl (by decide) ⟨fun c18 => ?_, fun c18 => ?_⟩
      · have hla := hL a (by omega) (by omega)
        have hlb := hL b (by omega) (by omega)
        refine kw_aload_n hC dX8_way_23 rfl 0 rfl ?_
        refine kw_iload_n hC dX8_way_24 rfl 1 rfl ?_
        refine kw_iload_n hC dX8_way_25 rfl 2 rfl ?_
        refine kw_callV hC (c1_X8_findWay hD (by omega) (by omega) (by omega) (by omega) (by exact hla) (by exact hlb)) gX8_way_X8_findWay ⟨_, rfl⟩ rfl (by decide) (by decide) rfl ⟨rfl, rfl⟩ 2 (by decide +kernel) ⟨by decide, by decide⟩ rfl rfl (Nat.le_of_ble_eq_true rfl) dX8_way_26 rfl (kd_ie ?_)
        refine kw_istore (lv' := [(4, _), (0, _), (1, _), (2, _), (3, _)]) hC dX8_way_29 rfl (by decide) rfl ?_
        refine kw_iload hC dX8_way_31 rfl 0 rfl ?_
        refine kw_if_ge (tgt := 41) hC dX8_way_33 rfl (by decide) (by omega) ⟨fun c33 => ?_, fun c33 => False.elim (by omega)⟩
        refine kw_aload_n hC dX8_way_41 rfl 1 rfl ?_
        refine kw_iload_n hC dX8_way_42 rfl 4 rfl ?_
        refine kw_callV hC (c1_X8_store hD (by omega) (by omega) (by rfl)) gX8_way_X8_store ⟨_, rfl⟩ rfl (by decide) (by decide) rfl ⟨rfl, rfl⟩ 1 (by decide +kernel) ⟨by decide, by decide⟩ rfl rfl (Nat.le_of_ble_eq_true rfl) dX8_way_43 rfl (kd_ie ?_)
        exact hR.1 rfl _ _ _ _ dX8_way_46 ⟨_, rfl, by unfold q_3; (repeat' split) <;> omega⟩
      · refine kw_iconst hC dX8_way_21 rfl ?_
        exact hR.1 rfl _ _ _ _ dX8_way_22 ⟨_, rfl, by unfold q_3; (repeat' split) <;> omega⟩

set_option maxHeartbeats 4000000 in
set_option maxRecDepth 100000 in
/-- on a new object -/
theorem c1_X8_wall {g : wG} (hD : wD g) {S : wSt} {a b c d : Int} (ha : -2147483648 ≤ a ∧ a ≤ 2147483647) (hb : -2147483648 ≤ b ∧ b ≤ 2147483647) (hc : -2147483648 ≤ c ∧ c ≤ 2147483647) (hd : -2147483648 ≤ d ∧ d ≤ 2147483647) (hF : nM S) (l : Launch) : Kt l yX8_wall wsX8_wall ({ frames := 2, cells := 0, slots := 0, locals := 47 } : Room) g S [vr g 30 0, vi a, vi b, vi c, vi d] (pL (fun r _ => r = (-10000000000001))) := by
  refine Kt.of (cc := cX8_wall) (nL := 8) (ret := (some .long)) (own := RX8) rfl hD (by decide) rfl (Nat.le_of_ble_eq_true rfl) ⟨rfl, rfl⟩ ?_
  intro E hC hR
  have l141 : Cond.constantLong RX8 141 (Int64.ofInt (-10000000000001)) ∈ wsX8_wall := by decide +kernel
  show Wk E g 8 S 0 [(0, vr g 30 0), (1, vi a), (2, vi b), (3, vi c), (4, vi d)] []
  obtain ⟨hm, hk, hL, hN⟩ := hF
  refine kw_iload_n hC dX8_wall_0 rfl 1 rfl ?_
  refine kw_callS hC (c_X8_isSlot hD (by omega)) gX8_wall_X8_isSlot rfl ⟨rfl, rfl⟩ 1 (by decide +kernel) ⟨by decide, by decide⟩ rfl rfl (Nat.le_of_ble_eq_true rfl) dX8_wall_1 rfl (kd_ie ?_)
  refine kw_ifeq_b (tgt := 24) hC dX8_wall_4 rfl (by decide) ⟨fun c4 => ?_, fun c4 => ?_⟩
  · refine kw_ldc2 (z := -10000000000001) hC dX8_wall_24 rfl l141 ?_
    exact hR.2.2.1 rfl _ _ _ _ dX8_wall_27 ⟨_, rfl, rfl⟩
  · refine kw_iload_n hC dX8_wall_7 rfl 2 rfl ?_
    refine kw_callS hC (c_X8_isSlot hD (by omega)) gX8_wall_X8_isSlot rfl ⟨rfl, rfl⟩ 1 (by decide +kernel) ⟨by decide, by decide⟩ rfl rfl (Nat.le_of_ble_eq_true rfl) dX8_wall_8 rfl (kd_ie ?_)
    refine kw_ifeq_b (tgt := 24) hC dX8_wall_11 rfl (by decide) ⟨fun c11 => ?_, fun c11 => ?_⟩
    · refine kw_ldc2 (z := -10000000000001) hC dX8_wall_24 rfl l141 ?_
      exact hR.2.2.1 rfl _ _ _ _ dX8_wall_27 ⟨_, rfl, rfl⟩
    · refine kw_aload_n hC dX8_wall_14 rfl 0 rfl ?_
      refine kw_iload hC dX8_wall_15 rfl 4 rfl ?_
      refine kw_i2l hC dX8_wall_17 rfl (by omega) ?_
      refine kw_callV hC (c_X8_isMirror hD (by omega) (by omega) (by omega)) gX8_wall_X8_isMirror ⟨_, rfl⟩ rfl (by decide) (by decide) rfl ⟨rfl, rfl⟩ 1 (by decide +kernel) ⟨by decide, by decide⟩ rfl rfl (Nat.le_of_ble_eq_true rfl) dX8_wall_18 rfl (kd_ie ?_)
      refine kw_ifne_b (tgt := 28) hC dX8_wall_21 rfl (by decide) ⟨fun c21 => False.elim (by omega), fun c21 => ?_⟩
      refine kw_ldc2 (z := -10000000000001) hC dX8_wall_24 rfl l141 ?_
      exact hR.2.2.1 rfl _ _ _ _ dX8_wall_27 ⟨_, rfl, rfl⟩

set_option maxHeartbeats 4000000 in
set_option maxRecDepth 100000 in
/-- on a new object -/
theorem c1_X8_leaf {g : wG} (hD : wD g) {S : wSt} {a b c : Int} (ha : -2147483648 ≤ a ∧ a ≤ 2147483647) (hb : -2147483648 ≤ b ∧ b ≤ 2147483647) (hc : -2147483648 ≤ c ∧ c ≤ 2147483647) (hF : nM S) (l : Launch) : Kt l yX8_leaf wsX8_leaf ({ frames := 2, cells := 0, slots := 0, locals := 45 } : Room) g S [vr g 30 0, vi a, vi b, vi c] (pI (fun r _ => r = q_leaf a b c)) := by
  refine Kt.of (cc := cX8_leaf) (nL := 5) (ret := (some .int)) (own := RX8) rfl hD (by decide) rfl (Nat.le_of_ble_eq_true rfl) ⟨rfl, rfl⟩ ?_
  intro E hC hR
  have f234 : Cond.fieldLink RX8 234 "MirrorBenchModel" "lanes" "[I" ∈ wsX8_leaf := by decide +kernel
  have f237 : Cond.fieldLink RX8 237 "MirrorBenchModel" "sizes" "[I" ∈ wsX8_leaf := by decide +kernel
  have f240 : Cond.fieldLink RX8 240 "MirrorBenchModel" "items" "[J" ∈ wsX8_leaf := by decide +kernel
  have l28 : Cond.constantLong RX8 28 (Int64.ofInt (2)) ∈ wsX8_leaf := by decide +kernel
  have w8 : ∀ w ∈ wsX80, w ∈ wsX8_leaf := by decide +kernel
  show Wk E g 5 S 0 [(0, vr g 30 0), (1, vi a), (2, vi b), (3, vi c)] []
  obtain ⟨hm, hk, hL, hN⟩ := hF
  refine kw_iload_n hC dX8_leaf_0 rfl 1 rfl ?_
  refine kw_callS hC (c_X8_isLeaf hD (by omega)) gX8_leaf_X8_isLeaf rfl ⟨rfl, rfl⟩ 1 (by decide +kernel) ⟨by decide, by decide⟩ rfl rfl (Nat.le_of_ble_eq_true rfl) dX8_leaf_1 rfl (kd_ie ?_)
  refine kw_ifeq_b (tgt := 25) hC dX8_leaf_4 rfl (by decide) ⟨fun c4 => ?_, fun c4 => ?_⟩
  · refine kw_iconst hC dX8_leaf_25 rfl ?_
    exact hR.1 rfl _ _ _ _ dX8_leaf_26 ⟨_, rfl, by unfold q_leaf; (repeat' split) <;> omega⟩
  · refine kw_iload_n hC dX8_leaf_7 rfl 2 rfl ?_
    refine kw_i2l hC dX8_leaf_8 rfl (by omega) ?_
    refine kw_lconst (z := 0) hC dX8_leaf_9 rfl rfl ?_
    refine kw_ldc2 (z := 2) hC dX8_leaf_10 rfl l28 ?_
    refine kw_callS hC (c_X8_in hD (by omega) (by omega) (by omega)) gX8_leaf_X8_in rfl ⟨rfl, rfl⟩ 3 (by decide +kernel) ⟨by decide, by decide⟩ rfl rfl (Nat.le_of_ble_eq_true rfl) dX8_leaf_13 rfl (kd_ie ?_)
    refine kw_ifeq_b (tgt := 25) hC dX8_leaf_16 rfl (by decide) ⟨fun c16 => ?_, fun c16 => ?_⟩
    · refine kw_iconst hC dX8_leaf_25 rfl ?_
      exact hR.1 rfl _ _ _ _ dX8_leaf_26 ⟨_, rfl, by unfold q_leaf; (repeat' split) <;> omega⟩
    · refine kw_iload_n hC dX8_leaf_19 rfl 3 rfl ?_
      refine kw_bipush hC dX8_leaf_20 rfl (by decide) ?_
      refine kw_icmp_le (tgt := 27) hC dX8_leaf_22 rfl (by decide) (by omega) (by omega) ⟨fun c22 => ?_, fun c22 => ?_⟩
      · refine kw_iload_n hC dX8_leaf_27 rfl 3 rfl ?_
        refine kw_if_ge (tgt := 34) hC dX8_leaf_28 rfl (by decide) (by omega) ⟨fun c28 => ?_, fun c28 => ?_⟩
        · refine kw_aload_n hC dX8_leaf_34 rfl 0 rfl ?_
          refine kg_30_29 hC w8 f234 dX8_leaf_35 rfl (by decide) (by decide) ?_
          refine kw_iload_n hC dX8_leaf_38 rfl 1 rfl ?_
          refine kw_iload_n hC dX8_leaf_39 rfl 2 rfl ?_
          refine ks_69 hC dX8_leaf_40 rfl (by decide) (by decide) (by omega) (by omega) ?_
          refine kw_aload_n hC dX8_leaf_41 rfl 0 rfl ?_
          refine kg_30_30 hC w8 f237 dX8_leaf_42 rfl (by decide) (by decide) ?_
          refine kw_iload_n hC dX8_leaf_45 rfl 1 rfl ?_
          refine kw_iload_n hC dX8_leaf_46 rfl 3 rfl ?_
          refine ks_70 hC dX8_leaf_47 rfl (by decide) (by decide) (by omega) (by omega) ?_
          refine kw_iconst hC dX8_leaf_48 rfl ?_
          refine kw_istore (lv' := [(4, _), (0, _), (1, _), (2, _), (3, _)]) hC dX8_leaf_49 rfl (by decide) rfl ?_
          have hL51 : ∀ (n : Nat) (x : Int) (S2 : wSt), (0 ≤ x) → (x ≤ 40) → (40 - x < (n : Int)) → Wk E g 5 S2 51 [(0, vr g 30 0), (1, vi a), (2, vi b), (3, vi c), (4, vi x)] [] := by
            intro n
            induction n with
            | zero => intro x S2 hx0 hx1 hxn; exact absurd hxn (by omega)
            | succ n ih51 =>
              intro x S2 hx0 hx1 hxn
              refine kw_iload hC dX8_leaf_51 rfl 4 rfl ?_
              refine kw_bipush hC dX8_leaf_53 rfl (by decide) ?_
              refine kw_icmp_ge (tgt := 77) hC dX8_leaf_55 rfl (by decide) (by omega) (by omega) ⟨fun c55 => ?_, fun c55 => ?_⟩
              · refine kw_iload_n hC dX8_leaf_77 rfl 3 rfl ?_
                exact hR.1 rfl _ _ _ _ dX8_leaf_78 ⟨_, rfl, by unfold q_leaf; (repeat' split) <;> omega⟩
              · refine kw_aload_n hC dX8_leaf_58 rfl 0 rfl ?_
                refine kg_30_31 hC w8 f240 dX8_leaf_59 rfl (by decide) (by decide) ?_
                refine kw_bipush hC dX8_leaf_62 rfl (by decide) ?_
                refine kw_iload_n hC dX8_leaf_64 rfl 1 rfl ?_
                refine kw_imul hC dX8_leaf_65 rfl ?_
                refine kw_iload hC dX8_leaf_66 rfl 4 rfl ?_
                refine kw_iadd hC dX8_leaf_68 rfl ?_
                refine kw_lconst (z := 0) hC dX8_leaf_69 rfl rfl ?_
                refine ks_71 hC dX8_leaf_70 rfl (by decide) (by decide) (by omega) (by omega) ?_
                refine kw_iinc (lv' := [(4, _), (0, _), (1, _), (2, _), (3, _)]) hC dX8_leaf_71 rfl 4 rfl (by decide) rfl ?_
                refine kw_goto (tgt := 51) hC dX8_leaf_74 rfl (by decide) ?_
                refine kw_lv [1, 2, 3, 4, 0] rfl ?_
                exact ih51 (x + 1) _ (by omega) (by omega) (by omega)
          refine kw_lv [1, 2, 3, 4, 0] rfl ?_
          exact hL51 41 0 _ (by omega) (by omega) (by omega)
        · refine kw_bipush hC dX8_leaf_31 rfl (by decide) ?_
          exact hR.1 rfl _ _ _ _ dX8_leaf_33 ⟨_, rfl, by unfold q_leaf; (repeat' split) <;> omega⟩
      · refine kw_iconst hC dX8_leaf_25 rfl ?_
        exact hR.1 rfl _ _ _ _ dX8_leaf_26 ⟨_, rfl, by unfold q_leaf; (repeat' split) <;> omega⟩

set_option maxHeartbeats 4000000 in
set_option maxRecDepth 100000 in
/-- on a new object -/
theorem c1_X8_drop {g : wG} (hD : wD g) {S : wSt} {a : Int} (ha : -2147483648 ≤ a ∧ a ≤ 2147483647) (hF : nM S) (l : Launch) : Kt l yX8_drop wsX8_drop ({ frames := 2, cells := 0, slots := 0, locals := 45 } : Room) g S [vr g 30 0, vi a] (pI (fun r _ => r = q_drop a)) := by
  refine Kt.of (cc := cX8_drop) (nL := 2) (ret := (some .int)) (own := RX8) rfl hD (by decide) rfl (Nat.le_of_ble_eq_true rfl) ⟨rfl, rfl⟩ ?_
  intro E hC hR
  have f234 : Cond.fieldLink RX8 234 "MirrorBenchModel" "lanes" "[I" ∈ wsX8_drop := by decide +kernel
  have w8 : ∀ w ∈ wsX80, w ∈ wsX8_drop := by decide +kernel
  show Wk E g 2 S 0 [(0, vr g 30 0), (1, vi a)] []
  obtain ⟨hm, hk, hL, hN⟩ := hF
  refine kw_iload_n hC dX8_drop_0 rfl 1 rfl ?_
  refine kw_callS hC (c_X8_isLeaf hD (by omega)) gX8_drop_X8_isLeaf rfl ⟨rfl, rfl⟩ 1 (by decide +kernel) ⟨by decide, by decide⟩ rfl rfl (Nat.le_of_ble_eq_true rfl) dX8_drop_1 rfl (kd_ie ?_)
  refine kw_ifne_b (tgt := 9) hC dX8_drop_4 rfl (by decide) ⟨fun c4 => ?_, fun c4 => ?_⟩
  · have hlb := hN a (by omega) (by omega)
    refine kw_aload_n hC dX8_drop_9 rfl 0 rfl ?_
    refine kg_30_29 hC w8 f234 dX8_drop_10 rfl (by decide) (by decide) ?_
    refine kw_iload_n hC dX8_drop_13 rfl 1 rfl ?_
    refine ka_69 hC dX8_drop_14 rfl (by decide) (by decide) (by omega) (by omega) ?_
    refine kw_if_ge (tgt := 21) hC dX8_drop_15 rfl (by decide) (by omega) ⟨fun c15 => False.elim (by omega), fun c15 => ?_⟩
    refine kw_bipush hC dX8_drop_18 rfl (by decide) ?_
    exact hR.1 rfl _ _ _ _ dX8_drop_20 ⟨_, rfl, by unfold q_drop; (repeat' split) <;> omega⟩
  · refine kw_iconst hC dX8_drop_7 rfl ?_
    exact hR.1 rfl _ _ _ _ dX8_drop_8 ⟨_, rfl, by unfold q_drop; (repeat' split) <;> omega⟩

set_option maxHeartbeats 4000000 in
set_option maxRecDepth 100000 in
/-- on a new object -/
theorem c1_X8_item {g : wG} (hD : wD g) {S : wSt} {a b c d : Int} (ha : -2147483648 ≤ a ∧ a ≤ 2147483647) (hb : -2147483648 ≤ b ∧ b ≤ 2147483647) (hc : -2147483648 ≤ c ∧ c ≤ 2147483647) (hd : -9223372036854775808 ≤ d ∧ d ≤ 9223372036854775807) (hF : nM S) (l : Launch) : Kt l yX8_item wsX8_item ({ frames := 2, cells := 0, slots := 0, locals := 45 } : Room) g S [vr g 30 0, vi a, vi b, vi c, vl d] (pI (fun r _ => r = q_item a b)) := by
  refine Kt.of (cc := cX8_item) (nL := 6) (ret := (some .int)) (own := RX8) rfl hD (by decide) rfl (Nat.le_of_ble_eq_true rfl) ⟨rfl, rfl⟩ ?_
  intro E hC hR
  have f234 : Cond.fieldLink RX8 234 "MirrorBenchModel" "lanes" "[I" ∈ wsX8_item := by decide +kernel
  have l28 : Cond.constantLong RX8 28 (Int64.ofInt (2)) ∈ wsX8_item := by decide +kernel
  have w8 : ∀ w ∈ wsX80, w ∈ wsX8_item := by decide +kernel
  show Wk E g 6 S 0 [(0, vr g 30 0), (1, vi a), (2, vi b), (3, vi c), (4, vl d)] []
  obtain ⟨hm, hk, hL, hN⟩ := hF
  refine kw_iload_n hC dX8_item_0 rfl 1 rfl ?_
  refine kw_callS hC (c_X8_isLeaf hD (by omega)) gX8_item_X8_isLeaf rfl ⟨rfl, rfl⟩ 1 (by decide +kernel) ⟨by decide, by decide⟩ rfl rfl (Nat.le_of_ble_eq_true rfl) dX8_item_1 rfl (kd_ie ?_)
  refine kw_ifeq_b (tgt := 19) hC dX8_item_4 rfl (by decide) ⟨fun c4 => ?_, fun c4 => ?_⟩
  · refine kw_iconst hC dX8_item_19 rfl ?_
    exact hR.1 rfl _ _ _ _ dX8_item_20 ⟨_, rfl, by unfold q_item; (repeat' split) <;> omega⟩
  · refine kw_iload_n hC dX8_item_7 rfl 2 rfl ?_
    refine kw_i2l hC dX8_item_8 rfl (by omega) ?_
    refine kw_lconst (z := 0) hC dX8_item_9 rfl rfl ?_
    refine kw_ldc2 (z := 2) hC dX8_item_10 rfl l28 ?_
    refine kw_callS hC (c_X8_in hD (by omega) (by omega) (by omega)) gX8_item_X8_in rfl ⟨rfl, rfl⟩ 3 (by decide +kernel) ⟨by decide, by decide⟩ rfl rfl (Nat.le_of_ble_eq_true rfl) dX8_item_13 rfl (kd_ie ?_)
    refine kw_ifne_b (tgt := 21) hC dX8_item_16 rfl (by decide) ⟨fun c16 => ?_, fun c16 => ?_⟩
    · have hlb := hN a (by omega) (by omega)
      refine kw_aload_n hC dX8_item_21 rfl 0 rfl ?_
      refine kg_30_29 hC w8 f234 dX8_item_22 rfl (by decide) (by decide) ?_
      refine kw_iload_n hC dX8_item_25 rfl 1 rfl ?_
      refine ka_69 hC dX8_item_26 rfl (by decide) (by decide) (by omega) (by omega) ?_
      refine kw_if_ge (tgt := 33) hC dX8_item_27 rfl (by decide) (by omega) ⟨fun c27 => False.elim (by omega), fun c27 => ?_⟩
      refine kw_bipush hC dX8_item_30 rfl (by decide) ?_
      exact hR.1 rfl _ _ _ _ dX8_item_32 ⟨_, rfl, by unfold q_item; (repeat' split) <;> omega⟩
    · refine kw_iconst hC dX8_item_19 rfl ?_
      exact hR.1 rfl _ _ _ _ dX8_item_20 ⟨_, rfl, by unfold q_item; (repeat' split) <;> omega⟩

set_option maxHeartbeats 4000000 in
set_option maxRecDepth 100000 in
/-- on a new object -/
theorem c1_X8_copy {g : wG} (hD : wD g) {S : wSt} {a b c d e : Int} (ha : -2147483648 ≤ a ∧ a ≤ 2147483647) (hb : -2147483648 ≤ b ∧ b ≤ 2147483647) (hc : -2147483648 ≤ c ∧ c ≤ 2147483647) (hd : -2147483648 ≤ d ∧ d ≤ 2147483647) (he : -2147483648 ≤ e ∧ e ≤ 2147483647) (hF : nM S) (l : Launch) : Kt l yX8_copy wsX8_copy ({ frames := 2, cells := 0, slots := 0, locals := 45 } : Room) g S [vr g 30 0, vi a, vi b, vi c, vi d, vi e] (pI (fun r _ => r = q_copy a c)) := by
  refine Kt.of (cc := cX8_copy) (nL := 7) (ret := (some .int)) (own := RX8) rfl hD (by decide) rfl (Nat.le_of_ble_eq_true rfl) ⟨rfl, rfl⟩ ?_
  intro E hC hR
  have f234 : Cond.fieldLink RX8 234 "MirrorBenchModel" "lanes" "[I" ∈ wsX8_copy := by decide +kernel
  have w8 : ∀ w ∈ wsX80, w ∈ wsX8_copy := by decide +kernel
  show Wk E g 7 S 0 [(0, vr g 30 0), (1, vi a), (2, vi b), (3, vi c), (4, vi d), (5, vi e)] []
  obtain ⟨hm, hk, hL, hN⟩ := hF
  refine kw_iload_n hC dX8_copy_0 rfl 1 rfl ?_
  refine kw_callS hC (c_X8_isLeaf hD (by omega)) gX8_copy_X8_isLeaf rfl ⟨rfl, rfl⟩ 1 (by decide +kernel) ⟨by decide, by decide⟩ rfl rfl (Nat.le_of_ble_eq_true rfl) dX8_copy_1 rfl (kd_ie ?_)
  refine kw_ifeq_b (tgt := 14) hC dX8_copy_4 rfl (by decide) ⟨fun c4 => ?_, fun c4 => ?_⟩
  · refine kw_iconst hC dX8_copy_14 rfl ?_
    exact hR.1 rfl _ _ _ _ dX8_copy_15 ⟨_, rfl, by unfold q_copy; (repeat' split) <;> omega⟩
  · refine kw_iload_n hC dX8_copy_7 rfl 3 rfl ?_
    refine kw_callS hC (c_X8_isLeaf hD (by omega)) gX8_copy_X8_isLeaf rfl ⟨rfl, rfl⟩ 1 (by decide +kernel) ⟨by decide, by decide⟩ rfl rfl (Nat.le_of_ble_eq_true rfl) dX8_copy_8 rfl (kd_ie ?_)
    refine kw_ifne_b (tgt := 16) hC dX8_copy_11 rfl (by decide) ⟨fun c11 => ?_, fun c11 => ?_⟩
    · have hlb := hN a (by omega) (by omega)
      refine kw_aload_n hC dX8_copy_16 rfl 0 rfl ?_
      refine kg_30_29 hC w8 f234 dX8_copy_17 rfl (by decide) (by decide) ?_
      refine kw_iload_n hC dX8_copy_20 rfl 1 rfl ?_
      refine ka_69 hC dX8_copy_21 rfl (by decide) (by decide) (by omega) (by omega) ?_
      refine kw_if_lt (tgt := 34) hC dX8_copy_22 rfl (by decide) (by omega) ⟨fun c22 => ?_, fun c22 => False.elim (by omega)⟩
      refine kw_bipush hC dX8_copy_34 rfl (by decide) ?_
      exact hR.1 rfl _ _ _ _ dX8_copy_36 ⟨_, rfl, by unfold q_copy; (repeat' split) <;> omega⟩
    · refine kw_iconst hC dX8_copy_14 rfl ?_
      exact hR.1 rfl _ _ _ _ dX8_copy_15 ⟨_, rfl, by unfold q_copy; (repeat' split) <;> omega⟩
