/-- the class's object is new -/
def nC (S : wSt) : Prop := S 3 16 2 = 0 ∧ (∀ i, 0 ≤ i → i < 12 → S 1 i 1 = 0) ∧ (∀ i, 0 ≤ i → i < 4 → S 6 i 1 = 0 ∧ S 6 i 2 = 0) ∧ (S 8 0 1 = 0 ∧ S 8 0 2 = 0) ∧ (S 12 0 4 = 0 ∧ S 12 0 5 = 0 ∧ ∀ j, 0 ≤ j → j < 42 → S 15 0 j = 0) ∧ (S 16 0 4 = 0 ∧ S 16 0 5 = 0 ∧ S 18 0 0 = 1)

set_option maxHeartbeats 4000000 in
set_option maxRecDepth 100000 in
/-- of an empty word -/
theorem c1_X5_makeShort {g : wG} (hD : wD g) {S : wSt} {a b : Int} (h0 : 0 ≤ a) (h1 : a < 12) (g0 : 0 ≤ b) (g1 : b < 12) (ha : S 1 a 1 = 0) (l : Launch) : Kt l yX5_makeShort wsX5_makeShort ({ frames := 0, cells := 0, slots := 0, locals := 0 } : Room) g S [vr g 10 0, vr g 1 a, vr g 1 b] (pI (fun r S' => r = bz True ∧ S' = ups S 1 b 1 0)) := by
  refine Kt.of (cc := cX5_makeShort) (nL := 5) (ret := (some .boolean)) (own := RX5) rfl hD (by decide) rfl (Nat.le_of_ble_eq_true rfl) ⟨rfl, rfl⟩ ?_
  intro E hC hR
  have f30 : Cond.fieldLink RX5 30 "MirrorBench$Word" "length" "I" ∈ wsX5_makeShort := by decide +kernel
  have w6 : ∀ w ∈ wsX60, w ∈ wsX5_makeShort := by decide +kernel
  show Wk E g 5 S 0 [(0, vr g 10 0), (1, vr g 1 a), (2, vr g 1 b)] []
  refine kw_aload_n hC dX5_makeShort_0 rfl 2 rfl ?_
  refine kw_iconst hC dX5_makeShort_1 rfl ?_
  refine kp_1_1 hC w6 f30 dX5_makeShort_2 rfl (by omega) (by omega) ?_
  refine kw_iconst hC dX5_makeShort_5 rfl ?_
  refine kw_istore_n (lv' := [(3, _), (0, _), (1, _), (2, _)]) hC dX5_makeShort_6 rfl (by decide) rfl ?_
  refine kw_iload_n hC dX5_makeShort_7 rfl 0 rfl ?_
  refine kw_aload_n hC dX5_makeShort_8 rfl 2 rfl ?_
  refine kg_1_1 hC w6 f30 dX5_makeShort_9 rfl (by omega) (by omega) ?_
  refine kw_chi (z' := 0) (by by_cases h : a = b <;> simp [ups, h, ha]) ?_
  refine kw_icmp_ge (tgt := 68) hC dX5_makeShort_12 rfl (by decide) (by omega) (by omega) ⟨fun c12 => ?_, fun c12 => False.elim (by omega)⟩
  refine kw_iconst hC dX5_makeShort_68 rfl ?_
  exact hR.2.1 rfl _ _ _ _ dX5_makeShort_69 (by omega) ⟨_, rfl, (bz_t trivial).symm, rfl⟩

set_option maxHeartbeats 4000000 in
set_option maxRecDepth 100000 in
/-- of an empty word -/
theorem c1_X5_moveDowns {g : wG} (hD : wD g) {S : wSt} {a b z : Int} (h0 : 0 ≤ a) (h1 : a < 12) (g0 : 0 ≤ b) (g1 : b < 12) (ha : S 1 a 1 = 0) (l : Launch) : Kt l yX5_moveDowns wsX5_moveDowns ({ frames := 0, cells := 0, slots := 0, locals := 0 } : Room) g S [vr g 10 0, vr g 1 a, vi z, vr g 1 b] (pI (fun r S' => r = bz True ∧ S' = S)) := by
  refine Kt.of (cc := cX5_moveDowns) (nL := 6) (ret := (some .boolean)) (own := RX5) rfl hD (by decide) rfl (Nat.le_of_ble_eq_true rfl) ⟨rfl, rfl⟩ ?_
  intro E hC hR
  have f30 : Cond.fieldLink RX5 30 "MirrorBench$Word" "length" "I" ∈ wsX5_moveDowns := by decide +kernel
  have w6 : ∀ w ∈ wsX60, w ∈ wsX5_moveDowns := by decide +kernel
  show Wk E g 6 S 0 [(0, vr g 10 0), (1, vr g 1 a), (2, vi z), (3, vr g 1 b)] []
  refine kw_aload_n hC dX5_moveDowns_0 rfl 1 rfl ?_
  refine kg_1_1 hC w6 f30 dX5_moveDowns_1 rfl (by omega) (by omega) ?_
  refine kw_chi (z' := 0) (by exact ha) ?_
  refine kw_istore (lv' := [(4, _), (0, _), (1, _), (2, _), (3, _)]) hC dX5_moveDowns_4 rfl (by decide) rfl ?_
  refine kw_iload hC dX5_moveDowns_6 rfl 0 rfl ?_
  refine kw_if_le (tgt := 48) hC dX5_moveDowns_8 rfl (by decide) (by omega) ⟨fun c8 => ?_, fun c8 => False.elim (by omega)⟩
  refine kw_iconst hC dX5_moveDowns_48 rfl ?_
  exact hR.2.1 rfl _ _ _ _ dX5_moveDowns_49 (by omega) ⟨_, rfl, (bz_t trivial).symm, rfl⟩

set_option maxHeartbeats 4000000 in
set_option maxRecDepth 100000 in
/-- of an empty word -/
theorem c1_X5_makeForm {g : wG} (hD : wD g) {S : wSt} {a b : Int} (h0 : 0 ≤ a) (h1 : a < 12) (g0 : 0 ≤ b) (g1 : b < 11) (hwa : S 1 a 1 = 0) (l : Launch) : Kt l yX5_makeForm wsX5_makeForm ({ frames := 1, cells := 0, slots := 0, locals := 25 } : Room) g S [vr g 10 0, vr g 1 a, vr g 1 b] (pI (fun r S' => r = bz True ∧ S' = ups (ups S 1 11 1 0) 1 b 1 0)) := by
  refine Kt.of (cc := cX5_makeForm) (nL := 3) (ret := (some .boolean)) (own := RX5) rfl hD (by decide) rfl (Nat.le_of_ble_eq_true rfl) ⟨rfl, rfl⟩ ?_
  intro E hC hR
  have f18 : Cond.fieldLink RX5 18 "MirrorBench$Shortener" "rest" "LMirrorBench$Word;" ∈ wsX5_makeForm := by decide +kernel
  have f30 : Cond.fieldLink RX5 30 "MirrorBench$Word" "length" "I" ∈ wsX5_makeForm := by decide +kernel
  have w5 : ∀ w ∈ wsX50, w ∈ wsX5_makeForm := by decide +kernel
  have w6 : ∀ w ∈ wsX60, w ∈ wsX5_makeForm := by decide +kernel
  show Wk E g 3 S 0 [(0, vr g 10 0), (1, vr g 1 a), (2, vr g 1 b)] []
  refine kw_aload_n hC dX5_makeForm_0 rfl 0 rfl ?_
  refine kw_aload_n hC dX5_makeForm_1 rfl 1 rfl ?_
  refine kw_aload_n hC dX5_makeForm_2 rfl 0 rfl ?_
  refine kg_10_2 hC w5 f18 dX5_makeForm_3 rfl (by decide) (by decide) ?_
  refine kw_callV hC (c1_X5_makeShort hD (by omega) (by omega) (by omega) (by omega) (by first | exact hwa | exact hwb | rfl)) gX5_makeForm_X5_makeShort ⟨_, rfl⟩ rfl (by decide) (by decide) rfl ⟨rfl, rfl⟩ 2 (by decide +kernel) ⟨by decide, by decide⟩ rfl rfl (Nat.le_of_ble_eq_true rfl) dX5_makeForm_6 rfl (kd_ie ?_)
  refine kw_ifne_b (tgt := 14) hC dX5_makeForm_9 rfl (by decide) ⟨fun c9 => ?_, fun c9 => False.elim (by exact c9 trivial)⟩
  refine kw_aload_n hC dX5_makeForm_14 rfl 2 rfl ?_
  refine kw_iconst hC dX5_makeForm_15 rfl ?_
  refine kp_1_1 hC w6 f30 dX5_makeForm_16 rfl (by omega) (by omega) ?_
  refine kw_aload_n hC dX5_makeForm_19 rfl 0 rfl ?_
  refine kw_aload_n hC dX5_makeForm_20 rfl 0 rfl ?_
  refine kg_10_2 hC w5 f18 dX5_makeForm_21 rfl (by decide) (by decide) ?_
  refine kw_bipush hC dX5_makeForm_24 rfl (by decide) ?_
  refine kw_aload_n hC dX5_makeForm_26 rfl 2 rfl ?_
  refine kw_callV hC (c1_X5_moveDowns hD (by omega) (by omega) (by omega) (by omega) (by rw [ups_n _ _ (by omega), ups_s])) gX5_makeForm_X5_moveDowns ⟨_, rfl⟩ rfl (by decide) (by decide) rfl ⟨rfl, rfl⟩ 3 (by decide +kernel) ⟨by decide, by decide⟩ rfl rfl (Nat.le_of_ble_eq_true rfl) dX5_makeForm_27 rfl (kd_ie ?_)
  exact hR.2.1 rfl _ _ _ _ dX5_makeForm_30 (bz_r _) ⟨_, rfl, rfl, rfl⟩

set_option maxHeartbeats 4000000 in
set_option maxRecDepth 100000 in
/-- without roots -/
theorem c1_X4_insertTurned {g : wG} (hD : wD g) {S : wSt} {a b c : Int} (a0 : 0 ≤ a) (a1 : a ≤ 40) (e0 : S 15 0 a = 0) (e1 : S 15 0 (a + 1) = 0) (l : Launch) : Kt l yX4_insertTurned wsX4_insertTurned ({ frames := 0, cells := 0, slots := 0, locals := 0 } : Room) g S [vr g 12 0, vi a, vi b, vi c] (pI (fun r S' => r = c ∧ S' = S)) := by
  refine Kt.of (cc := cX4_insertTurned) (nL := 7) (ret := (some .int)) (own := RX4) rfl hD (by decide) rfl (Nat.le_of_ble_eq_true rfl) ⟨rfl, rfl⟩ ?_
  intro E hC hR
  have f18 : Cond.fieldLink RX4 18 "MirrorBench$RootList" "firsts" "[I" ∈ wsX4_insertTurned := by decide +kernel
  have w4 : ∀ w ∈ wsX40, w ∈ wsX4_insertTurned := by decide +kernel
  show Wk E g 7 S 0 [(0, vr g 12 0), (1, vi a), (2, vi b), (3, vi c)] []
  refine kw_iload_n hC dX4_insertTurned_0 rfl 3 rfl ?_
  refine kw_istore (lv' := [(4, _), (0, _), (1, _), (2, _), (3, _)]) hC dX4_insertTurned_1 rfl (by decide) rfl ?_
  refine kw_aload_n hC dX4_insertTurned_3 rfl 1 rfl ?_
  refine kg_12_3 hC w4 f18 dX4_insertTurned_4 rfl (by decide) (by decide) ?_
  refine kw_iload_n hC dX4_insertTurned_7 rfl 2 rfl ?_
  refine ka_15 hC dX4_insertTurned_8 rfl (by decide) (by decide) (by omega) (by omega) ?_
  refine kw_chi (z' := 0) (by exact e0) ?_
  refine kw_istore (lv' := [(5, _), (4, _), (0, _), (1, _), (2, _), (3, _)]) hC dX4_insertTurned_9 rfl (by decide) rfl ?_
  refine kw_iload hC dX4_insertTurned_11 rfl 0 rfl ?_
  refine kw_aload_n hC dX4_insertTurned_13 rfl 2 rfl ?_
  refine kg_12_3 hC w4 f18 dX4_insertTurned_14 rfl (by decide) (by decide) ?_
  refine kw_iload_n hC dX4_insertTurned_17 rfl 3 rfl ?_
  refine kw_iconst hC dX4_insertTurned_18 rfl ?_
  refine kw_iadd hC dX4_insertTurned_19 rfl ?_
  refine ka_15 hC dX4_insertTurned_20 rfl (by decide) (by decide) (by omega) (by omega) ?_
  refine kw_chi (z' := 0) (by exact e1) ?_
  refine kw_icmp_ge (tgt := 104) hC dX4_insertTurned_21 rfl (by decide) (by omega) (by omega) ⟨fun c21 => ?_, fun c21 => False.elim (by omega)⟩
  refine kw_iload hC dX4_insertTurned_104 rfl 1 rfl ?_
  exact hR.1 rfl _ _ _ _ dX4_insertTurned_106 ⟨_, rfl, rfl, rfl⟩

set_option maxHeartbeats 4000000 in
set_option maxRecDepth 100000 in
/-- without mirrors -/
theorem c1_X4_addHeight {g : wG} (hD : wD g) {S : wSt} {a : Int} (a0 : 1 ≤ a) (a1 : a ≤ 40) (hm : S 3 16 2 = 0) (hz : ∀ j, 0 ≤ j → j < 42 → S 15 0 j = 0) (l : Launch) : Kt l yX4_addHeight wsX4_addHeight ({ frames := 1, cells := 0, slots := 0, locals := 26 } : Room) g S [vr g 12 0, vi a] (pV (fun S' => S' = ups (ups S 15 0 (a + 1) 0) 12 0 4 a)) := by
  refine Kt.of (cc := cX4_addHeight) (nL := 4) (ret := none) (own := RX4) rfl hD (by decide) rfl (Nat.le_of_ble_eq_true rfl) ⟨rfl, rfl⟩ ?_
  intro E hC hR
  have f18 : Cond.fieldLink RX4 18 "MirrorBench$RootList" "firsts" "[I" ∈ wsX4_addHeight := by decide +kernel
  have f22 : Cond.fieldLink RX4 22 "MirrorBench$RootList" "set" "LMirrorBench$Mirrors;" ∈ wsX4_addHeight := by decide +kernel
  have f26 : Cond.fieldLink RX4 26 "MirrorBench$RootList" "height" "I" ∈ wsX4_addHeight := by decide +kernel
  have f46 : Cond.fieldLink RX4 46 "MirrorBench$Mirrors" "size" "I" ∈ wsX4_addHeight := by decide +kernel
  have w3 : ∀ w ∈ wsX30, w ∈ wsX4_addHeight := by decide +kernel
  have w4 : ∀ w ∈ wsX40, w ∈ wsX4_addHeight := by decide +kernel
  show Wk E g 4 S 0 [(0, vr g 12 0), (1, vi a)] []
  refine kw_aload_n hC dX4_addHeight_0 rfl 0 rfl ?_
  refine kg_12_3 hC w4 f18 dX4_addHeight_1 rfl (by decide) (by decide) ?_
  refine kw_iload_n hC dX4_addHeight_4 rfl 1 rfl ?_
  refine ka_15 hC dX4_addHeight_5 rfl (by decide) (by decide) (by omega) (by omega) ?_
  refine kw_chi (z' := 0) (by exact (hz _ (by omega) (by omega))) ?_
  refine kw_istore_n (lv' := [(2, _), (0, _), (1, _)]) hC dX4_addHeight_6 rfl (by decide) rfl ?_
  refine kw_iconst hC dX4_addHeight_7 rfl ?_
  refine kw_istore_n (lv' := [(3, _), (2, _), (0, _), (1, _)]) hC dX4_addHeight_8 rfl (by decide) rfl ?_
  refine kw_iload_n hC dX4_addHeight_9 rfl 0 rfl ?_
  refine kw_aload_n hC dX4_addHeight_10 rfl 2 rfl ?_
  refine kg_12_0 hC w4 f22 dX4_addHeight_11 rfl (by decide) (by decide) ?_
  refine kg_3_2 hC w3 f46 dX4_addHeight_14 rfl (by omega) (by omega) ?_
  refine kw_chi (z' := 0) (by exact hm) ?_
  refine kw_icmp_ge (tgt := 43) hC dX4_addHeight_17 rfl (by decide) (by omega) (by omega) ⟨fun c17 => ?_, fun c17 => False.elim (by omega)⟩
  refine kw_iconst hC dX4_addHeight_43 rfl ?_
  refine kw_istore_n (lv' := [(3, _), (2, _), (0, _), (1, _)]) hC dX4_addHeight_44 rfl (by decide) rfl ?_
  have hL45 : ∀ (n : Nat) (x : Int), (1 ≤ x) → (x ≤ a) → (a - x < (n : Int)) → Wk E g 4 S 45 [(0, vr g 12 0), (1, vi a), (2, vi 0), (3, vi x)] [] := by
    intro n
    induction n with
    | zero => intro x hx0 hx1 hxn; exact absurd hxn (by omega)
    | succ n ih45 =>
      intro x hx0 hx1 hxn
      refine kw_iload_n hC dX4_addHeight_45 rfl 3 rfl ?_
      refine kw_iload_n hC dX4_addHeight_46 rfl 1 rfl ?_
      refine kw_icmp_ge (tgt := 70) hC dX4_addHeight_47 rfl (by decide) (by omega) (by omega) ⟨fun c47 => ?_, fun c47 => ?_⟩
      · refine kw_iload_n hC dX4_addHeight_70 rfl 2 rfl ?_
        refine kw_bipush hC dX4_addHeight_71 rfl (by decide) ?_
        refine kw_icmp_ne (tgt := 82) hC dX4_addHeight_73 rfl (by decide) (by omega) (by omega) ⟨fun c73 => ?_, fun c73 => False.elim (by omega)⟩
        refine kw_aload_n hC dX4_addHeight_82 rfl 0 rfl ?_
        refine kg_12_3 hC w4 f18 dX4_addHeight_83 rfl (by decide) (by decide) ?_
        refine kw_iload_n hC dX4_addHeight_86 rfl 1 rfl ?_
        refine ka_15 hC dX4_addHeight_87 rfl (by decide) (by decide) (by omega) (by omega) ?_
        refine kw_chi (z' := 0) (by exact (hz _ (by omega) (by omega))) ?_
        refine kw_istore_n (lv' := [(3, _), (0, _), (1, _), (2, _)]) hC dX4_addHeight_88 rfl (by decide) rfl ?_
        refine kw_iload_n hC dX4_addHeight_89 rfl 0 rfl ?_
        refine kw_iload_n hC dX4_addHeight_90 rfl 3 rfl ?_
        refine kw_icmp_ge (tgt := 117) hC dX4_addHeight_91 rfl (by decide) (by omega) (by omega) ⟨fun c91 => ?_, fun c91 => False.elim (by omega)⟩
        refine kw_aload_n hC dX4_addHeight_117 rfl 1 rfl ?_
        refine kg_12_3 hC w4 f18 dX4_addHeight_118 rfl (by decide) (by decide) ?_
        refine kw_iload_n hC dX4_addHeight_121 rfl 2 rfl ?_
        refine kw_iconst hC dX4_addHeight_122 rfl ?_
        refine kw_iadd hC dX4_addHeight_123 rfl ?_
        refine kw_iload_n hC dX4_addHeight_124 rfl 3 rfl ?_
        refine ks_15 hC dX4_addHeight_125 rfl (by decide) (by decide) (by omega) (by omega) ?_
        refine kw_aload_n hC dX4_addHeight_126 rfl 1 rfl ?_
        refine kw_iload_n hC dX4_addHeight_127 rfl 2 rfl ?_
        refine kp_12_4 hC w4 f26 dX4_addHeight_128 rfl (by decide) (by decide) ?_
        exact hR.2.2.2 rfl _ _ _ dX4_addHeight_131 ⟨rfl, rfl⟩
      · refine kw_iload_n hC dX4_addHeight_50 rfl 2 rfl ?_
        refine kw_bipush hC dX4_addHeight_51 rfl (by decide) ?_
        refine kw_icmp_eq (tgt := 70) hC dX4_addHeight_53 rfl (by decide) (by omega) (by omega) ⟨fun c53 => False.elim (by omega), fun c53 => ?_⟩
        refine kw_aload_n hC dX4_addHeight_56 rfl 0 rfl ?_
        refine kw_iload_n hC dX4_addHeight_57 rfl 3 rfl ?_
        refine kw_iload_n hC dX4_addHeight_58 rfl 1 rfl ?_
        refine kw_iload_n hC dX4_addHeight_59 rfl 2 rfl ?_
        refine kw_callV hC (c1_X4_insertTurned hD (by omega) (by omega) (by exact hz _ (by omega) (by omega)) (by exact hz _ (by omega) (by omega))) gX4_addHeight_X4_insertTurned ⟨_, rfl⟩ rfl (by decide) (by decide) rfl ⟨rfl, rfl⟩ 3 (by decide +kernel) ⟨by decide, by decide⟩ rfl rfl (Nat.le_of_ble_eq_true rfl) dX4_addHeight_60 rfl (kd_ie ?_)
        refine kw_istore_n (lv' := [(2, _), (0, _), (1, _), (3, _)]) hC dX4_addHeight_63 rfl (by decide) rfl ?_
        refine kw_iinc (lv' := [(3, _), (2, _), (0, _), (1, _)]) hC dX4_addHeight_64 rfl 3 rfl (by decide) rfl ?_
        refine kw_goto (tgt := 45) hC dX4_addHeight_67 rfl (by decide) ?_
        refine kw_lv [2, 3, 1, 0] rfl ?_
        exact ih45 (x + 1) (by omega) (by omega) (by omega)
  refine kw_lv [2, 3, 1, 0] rfl ?_
  exact hL45 40 1 (by omega) (by omega) (by omega)

set_option maxHeartbeats 4000000 in
set_option maxRecDepth 100000 in
/-- without mirrors -/
theorem c1_X4_reaches {g : wG} (hD : wD g) {S : wSt} {a : Int} (a0 : 1 ≤ a) (a1 : a ≤ 40) (hm : S 3 16 2 = 0) (k1 : S 12 0 4 = 0) (k2 : S 12 0 5 = 0) (hz : ∀ j, 0 ≤ j → j < 42 → S 15 0 j = 0) (l : Launch) : Kt l yX4_reaches wsX4_reaches ({ frames := 2, cells := 0, slots := 0, locals := 49 } : Room) g S [vr g 12 0, vi a] (pI (fun r S' => r = bz True ∧ (S' 12 0 4 = a ∧ S' 12 0 5 = 0 ∧ S' 3 16 2 = 0 ∧ (∀ j, 0 ≤ j → j < 42 → S' 15 0 j = 0) ∧ (∀ k, k ≠ 12 → k ≠ 15 → S' k = S k)))) := by
  refine Kt.of (cc := cX4_reaches) (nL := 3) (ret := (some .boolean)) (own := RX4) rfl hD (by decide) rfl (Nat.le_of_ble_eq_true rfl) ⟨rfl, rfl⟩ ?_
  intro E hC hR
  have f26 : Cond.fieldLink RX4 26 "MirrorBench$RootList" "height" "I" ∈ wsX4_reaches := by decide +kernel
  have f30 : Cond.fieldLink RX4 30 "MirrorBench$RootList" "full" "Z" ∈ wsX4_reaches := by decide +kernel
  have w4 : ∀ w ∈ wsX40, w ∈ wsX4_reaches := by decide +kernel
  show Wk E g 3 S 0 [(0, vr g 12 0), (1, vi a)] []
  refine kw_aload_n hC dX4_reaches_0 rfl 0 rfl ?_
  refine kg_12_4 hC w4 f26 dX4_reaches_1 rfl (by decide) (by decide) ?_
  refine kw_chi (z' := 0) (by exact k1) ?_
  refine kw_iconst hC dX4_reaches_4 rfl ?_
  refine kw_iadd hC dX4_reaches_5 rfl ?_
  refine kw_istore_n (lv' := [(2, _), (0, _), (1, _)]) hC dX4_reaches_6 rfl (by decide) rfl ?_
  have hL7 : ∀ (n : Nat) (x : Int) (S2 : wSt), (1 ≤ x) → (x ≤ a + 1) → (S2 3 16 2 = 0) → (S2 12 0 4 = x - 1) → (S2 12 0 5 = 0) → (∀ j, 0 ≤ j → j < 42 → S2 15 0 j = 0) → (∀ k, k ≠ 12 → k ≠ 15 → S2 k = S k) → (a + 1 - x < (n : Int)) → Wk E g 3 S2 7 [(0, vr g 12 0), (1, vi a), (2, vi x)] [] := by
    intro n
    induction n with
    | zero => intro x S2 hx0 hx1 h3 h4 h5 h6 h7 hxn; exact absurd hxn (by omega)
    | succ n ih7 =>
      intro x S2 hx0 hx1 h3 h4 h5 h6 h7 hxn
      refine kw_iload_n hC dX4_reaches_7 rfl 2 rfl ?_
      refine kw_iload_n hC dX4_reaches_8 rfl 1 rfl ?_
      refine kw_icmp_gt (tgt := 30) hC dX4_reaches_9 rfl (by decide) (by omega) (by omega) ⟨fun c9 => ?_, fun c9 => ?_⟩
      · obtain rfl : x = a + 1 := by omega
        refine kw_iload_n hC dX4_reaches_30 rfl 1 rfl ?_
        refine kw_aload_n hC dX4_reaches_31 rfl 0 rfl ?_
        refine kg_12_4 hC w4 f26 dX4_reaches_32 rfl (by decide) (by decide) ?_
        refine kw_chi (z' := a) (by rw [h4]; omega) ?_
        refine kw_icmp_gt (tgt := 42) hC dX4_reaches_35 rfl (by decide) (by omega) (by omega) ⟨fun c35 => False.elim (by omega), fun c35 => ?_⟩
        refine kw_iconst hC dX4_reaches_38 rfl ?_
        refine kw_goto (tgt := 43) hC dX4_reaches_39 rfl (by decide) ?_
        exact hR.2.1 rfl _ _ _ _ dX4_reaches_43 (by omega) ⟨_, rfl, (bz_t trivial).symm, by rw [h4]; omega, h5, h3, h6, h7⟩
      · refine kw_aload_n hC dX4_reaches_12 rfl 0 rfl ?_
        refine kg_12_5 hC w4 f30 dX4_reaches_13 rfl (by decide) (by decide) ?_
        refine kw_chi (z' := 0) (by exact h5) ?_
        refine kw_if_ne (tgt := 30) hC dX4_reaches_16 rfl (by decide) (by omega) ⟨fun c16 => False.elim (by omega), fun c16 => ?_⟩
        refine kw_aload_n hC dX4_reaches_19 rfl 0 rfl ?_
        refine kw_iload_n hC dX4_reaches_20 rfl 2 rfl ?_
        refine kw_callV hC (c1_X4_addHeight hD (by omega) (by omega) h3 h6) gX4_reaches_X4_addHeight ⟨_, rfl⟩ rfl (by decide) (by decide) rfl ⟨rfl, rfl⟩ 1 (by decide +kernel) ⟨by decide, by decide⟩ rfl rfl (Nat.le_of_ble_eq_true rfl) dX4_reaches_21 rfl (kd_ve ?_)
        refine kw_iinc (lv' := [(2, _), (0, _), (1, _)]) hC dX4_reaches_24 rfl 2 rfl (by decide) rfl ?_
        refine kw_goto (tgt := 7) hC dX4_reaches_27 rfl (by decide) ?_
        refine kw_lv [1, 2, 0] rfl ?_
        exact ih7 (x + 1) _ (by omega) (by omega) h3 (by rw [ups_s]; omega) h5 (fun j j0 j1 => by rw [ups_n _ _ (by omega)]; by_cases e : j = x + 1 <;> simp [ups, e]; exact h6 j j0 j1) (fun k q1 q2 => by rw [ups_k _ _ _ _ q1, ups_k _ _ _ _ q2]; exact h7 k q1 q2) (by omega)
  refine kw_lv [1, 2, 0] rfl ?_
  exact hL7 41 1 _ (by omega) (by omega) hm (by omega) k2 hz (fun _ _ _ => rfl) (by omega)

set_option maxHeartbeats 4000000 in
set_option maxRecDepth 100000 in
/-- general -/
theorem c_X4_ofHeight {g : wG} (hD : wD g) {S : wSt} {a : Int} (a0 : 0 ≤ a) (a1 : a ≤ 40) (l : Launch) : Kt l yX4_ofHeight wsX4_ofHeight ({ frames := 0, cells := 0, slots := 0, locals := 0 } : Room) g S [vr g 12 0, vi a] (pI (fun r S' => r = S 15 0 (a + 1) - S 15 0 a ∧ S' = S)) := by
  refine Kt.of (cc := cX4_ofHeight) (nL := 2) (ret := (some .int)) (own := RX4) rfl hD (by decide) rfl (Nat.le_of_ble_eq_true rfl) ⟨rfl, rfl⟩ ?_
  intro E hC hR
  have f18 : Cond.fieldLink RX4 18 "MirrorBench$RootList" "firsts" "[I" ∈ wsX4_ofHeight := by decide +kernel
  have w4 : ∀ w ∈ wsX40, w ∈ wsX4_ofHeight := by decide +kernel
  show Wk E g 2 S 0 [(0, vr g 12 0), (1, vi a)] []
  refine kw_aload_n hC dX4_ofHeight_0 rfl 0 rfl ?_
  refine kg_12_3 hC w4 f18 dX4_ofHeight_1 rfl (by decide) (by decide) ?_
  refine kw_iload_n hC dX4_ofHeight_4 rfl 1 rfl ?_
  refine kw_iconst hC dX4_ofHeight_5 rfl ?_
  refine kw_iadd hC dX4_ofHeight_6 rfl ?_
  refine ka_15 hC dX4_ofHeight_7 rfl (by decide) (by decide) (by omega) (by omega) ?_
  refine kw_aload_n hC dX4_ofHeight_8 rfl 0 rfl ?_
  refine kg_12_3 hC w4 f18 dX4_ofHeight_9 rfl (by decide) (by decide) ?_
  refine kw_iload_n hC dX4_ofHeight_12 rfl 1 rfl ?_
  refine ka_15 hC dX4_ofHeight_13 rfl (by decide) (by decide) (by omega) (by omega) ?_
  refine kw_isub hC dX4_ofHeight_14 rfl ?_
  exact hR.1 rfl _ _ _ _ dX4_ofHeight_15 ⟨_, rfl, rfl, rfl⟩

set_option maxHeartbeats 4000000 in
set_option maxRecDepth 100000 in
/-- without mirrors -/
theorem c1_X4_countAll {g : wG} (hD : wD g) {S : wSt} (hm : S 3 16 2 = 0) (hr1 : S 12 0 4 = 0) (hr2 : S 12 0 5 = 0) (hr3 : ∀ j, 0 ≤ j → j < 42 → S 15 0 j = 0) (l : Launch) : Kt l yX4_countAll wsX4_countAll ({ frames := 3, cells := 0, slots := 0, locals := 71 } : Room) g S [vr g 12 0] (pI (fun r S' => r = 0 ∧ (S' 3 16 2 = 0 ∧ (∀ j, 0 ≤ j → j < 42 → S' 15 0 j = 0) ∧ (∀ k, k ≠ 12 → k ≠ 15 → S' k = S k)))) := by
  refine Kt.of (cc := cX4_countAll) (nL := 4) (ret := (some .int)) (own := RX4) rfl hD (by decide) rfl (Nat.le_of_ble_eq_true rfl) ⟨rfl, rfl⟩ ?_
  intro E hC hR
  have f18 : Cond.fieldLink RX4 18 "MirrorBench$RootList" "firsts" "[I" ∈ wsX4_countAll := by decide +kernel
  have w4 : ∀ w ∈ wsX40, w ∈ wsX4_countAll := by decide +kernel
  show Wk E g 4 S 0 [(0, vr g 12 0)] []
  refine kw_aload_n hC dX4_countAll_0 rfl 0 rfl ?_
  refine kw_bipush hC dX4_countAll_1 rfl (by decide) ?_
  refine kw_callV hC (c1_X4_reaches hD (by omega) (by omega) hm hr1 hr2 hr3) gX4_countAll_X4_reaches ⟨_, rfl⟩ rfl (by decide) (by decide) rfl ⟨rfl, rfl⟩ 1 (by decide +kernel) ⟨by decide, by decide⟩ rfl rfl (Nat.le_of_ble_eq_true rfl) dX4_countAll_3 rfl (kd_i (fun r S1 hp1 => ?_))
  obtain ⟨rfl, -, -, e3, e6, e7⟩ := hp1
  refine kw_ifne_b (tgt := 12) hC dX4_countAll_6 rfl (by decide) ⟨fun c6 => ?_, fun c6 => False.elim (by exact c6 trivial)⟩
  refine kw_aload_n hC dX4_countAll_12 rfl 0 rfl ?_
  refine kg_12_3 hC w4 f18 dX4_countAll_13 rfl (by decide) (by decide) ?_
  refine kw_bipush hC dX4_countAll_16 rfl (by decide) ?_
  refine ka_15 hC dX4_countAll_18 rfl (by decide) (by decide) (by omega) (by omega) ?_
  refine kw_chi (z' := 0) (by exact (e6 _ (by omega) (by omega))) ?_
  refine kw_istore_n (lv' := [(1, _), (0, _)]) hC dX4_countAll_19 rfl (by decide) rfl ?_
  refine kw_iconst hC dX4_countAll_20 rfl ?_
  refine kw_istore_n (lv' := [(2, _), (1, _), (0, _)]) hC dX4_countAll_21 rfl (by decide) rfl ?_
  refine kw_iload_n hC dX4_countAll_22 rfl 0 rfl ?_
  refine kw_iload_n hC dX4_countAll_23 rfl 1 rfl ?_
  refine kw_icmp_ge (tgt := 70) hC dX4_countAll_24 rfl (by decide) (by omega) (by omega) ⟨fun c24 => ?_, fun c24 => False.elim (by omega)⟩
  refine kw_iload_n hC dX4_countAll_70 rfl 1 rfl ?_
  exact hR.1 rfl _ _ _ _ dX4_countAll_71 ⟨_, rfl, rfl, e3, e6, e7⟩

set_option maxHeartbeats 4000000 in
set_option maxRecDepth 100000 in
/-- without roots -/
theorem c1_X4_countWords {g : wG} (hD : wD g) {S : wSt} (hz : ∀ j, 0 ≤ j → j < 42 → S 15 0 j = 0) (l : Launch) : Kt l yX4_countWords wsX4_countWords ({ frames := 1, cells := 0, slots := 0, locals := 21 } : Room) g S [vr g 12 0] (pL (fun r S' => r = 1 ∧ S' = S)) := by
  refine Kt.of (cc := cX4_countWords) (nL := 5) (ret := (some .long)) (own := RX4) rfl hD (by decide) rfl (Nat.le_of_ble_eq_true rfl) ⟨rfl, rfl⟩ ?_
  intro E hC hR
  show Wk E g 5 S 0 [(0, vr g 12 0)] []
  refine kw_lconst (z := 1) hC dX4_countWords_0 rfl rfl ?_
  refine kw_lstore_n (lv' := [(1, _), (0, _)]) hC dX4_countWords_1 rfl (by decide) rfl ?_
  refine kw_iconst hC dX4_countWords_2 rfl ?_
  refine kw_istore_n (lv' := [(3, _), (1, _), (0, _)]) hC dX4_countWords_3 rfl (by decide) rfl ?_
  have hL4 : ∀ (n : Nat) (x : Int), (1 ≤ x) → (x ≤ 12) → (12 - x < (n : Int)) → Wk E g 5 S 4 [(0, vr g 12 0), (1, vl 1), (3, vi x)] [] := by
    intro n
    induction n with
    | zero => intro x hx0 hx1 hxn; exact absurd hxn (by omega)
    | succ n ih4 =>
      intro x hx0 hx1 hxn
      refine kw_iload_n hC dX4_countWords_4 rfl 2 rfl ?_
      refine kw_bipush hC dX4_countWords_5 rfl (by decide) ?_
      refine kw_icmp_gt (tgt := 49) hC dX4_countWords_7 rfl (by decide) (by omega) (by omega) ⟨fun c7 => ?_, fun c7 => ?_⟩
      · refine kw_lload_n hC dX4_countWords_49 rfl 1 rfl ?_
        exact hR.2.2.1 rfl _ _ _ _ dX4_countWords_50 ⟨_, rfl, rfl, rfl⟩
      · refine kw_aload_n hC dX4_countWords_10 rfl 0 rfl ?_
        refine kw_iload_n hC dX4_countWords_11 rfl 2 rfl ?_
        refine kw_callV hC (c_X4_ofHeight hD (by omega) (by omega)) gX4_countWords_X4_ofHeight ⟨_, rfl⟩ rfl (by decide) (by decide) rfl ⟨rfl, rfl⟩ 1 (by decide +kernel) ⟨by decide, by decide⟩ rfl rfl (Nat.le_of_ble_eq_true rfl) dX4_countWords_12 rfl (kd_ie ?_)
        refine kw_chi (z' := 0) (by rw [hz _ (by omega) (by omega), hz _ (by omega) (by omega)]; rfl) ?_
        refine kw_aload_n hC dX4_countWords_15 rfl 0 rfl ?_
        refine kw_iload_n hC dX4_countWords_16 rfl 2 rfl ?_
        refine kw_iconst hC dX4_countWords_17 rfl ?_
        refine kw_iadd hC dX4_countWords_18 rfl ?_
        refine kw_callV hC (c_X4_ofHeight hD (by omega) (by omega)) gX4_countWords_X4_ofHeight ⟨_, rfl⟩ rfl (by decide) (by decide) rfl ⟨rfl, rfl⟩ 1 (by decide +kernel) ⟨by decide, by decide⟩ rfl rfl (Nat.le_of_ble_eq_true rfl) dX4_countWords_19 rfl (kd_ie ?_)
        refine kw_chi (z' := 0) (by rw [hz _ (by omega) (by omega), hz _ (by omega) (by omega)]; rfl) ?_
        refine kw_isub hC dX4_countWords_22 rfl ?_
        refine kw_istore (lv' := [(4, _), (0, _), (1, _), (3, _)]) hC dX4_countWords_23 rfl (by decide) rfl ?_
        refine kw_iload hC dX4_countWords_25 rfl 0 rfl ?_
        refine kw_if_le (tgt := 43) hC dX4_countWords_27 rfl (by decide) (by omega) ⟨fun c27 => ?_, fun c27 => False.elim (by omega)⟩
        refine kw_iinc (lv' := [(3, _), (4, _), (0, _), (1, _)]) hC dX4_countWords_43 rfl 3 rfl (by decide) rfl ?_
        refine kw_goto (tgt := 4) hC dX4_countWords_46 rfl (by decide) ?_
        refine kw_lv [2, 3, 0] rfl ?_
        exact ih4 (x + 1) (by omega) (by omega) (by omega)
  refine kw_lv [2, 1, 0] rfl ?_
  exact hL4 13 1 (by omega) (by omega) (by omega)

set_option maxHeartbeats 4000000 in
set_option maxRecDepth 100000 in
/-- without mirrors -/
theorem c1_X0_addLength {g : wG} (hD : wD g) {S : wSt} {a : Int} (a0 : 1 ≤ a) (a1 : a ≤ 12) (hm : S 3 16 2 = 0) (hz0 : 0 ≤ S 18 0 (a - 1)) (hz1 : S 18 0 (a - 1) ≤ 1) (l : Launch) : Kt l yX0_addLength wsX0_addLength ({ frames := 0, cells := 0, slots := 0, locals := 0 } : Room) g S [vr g 16 0, vi a] (pV (fun S' => S' = ups (ups S 18 0 a 0) 16 0 4 a)) := by
  refine Kt.of (cc := cX0_addLength) (nL := 5) (ret := none) (own := RX0) rfl hD (by decide) rfl (Nat.le_of_ble_eq_true rfl) ⟨rfl, rfl⟩ ?_
  intro E hC hR
  have f15 : Cond.fieldLink RX0 15 "MirrorBench$FormList" "counts" "[I" ∈ wsX0_addLength := by decide +kernel
  have f22 : Cond.fieldLink RX0 22 "MirrorBench$FormList" "set" "LMirrorBench$Mirrors;" ∈ wsX0_addLength := by decide +kernel
  have f26 : Cond.fieldLink RX0 26 "MirrorBench$FormList" "length" "I" ∈ wsX0_addLength := by decide +kernel
  have f48 : Cond.fieldLink RX0 48 "MirrorBench$Mirrors" "size" "I" ∈ wsX0_addLength := by decide +kernel
  have w0 : ∀ w ∈ wsX00, w ∈ wsX0_addLength := by decide +kernel
  have w3 : ∀ w ∈ wsX30, w ∈ wsX0_addLength := by decide +kernel
  show Wk E g 5 S 0 [(0, vr g 16 0), (1, vi a)] []
  refine kw_iconst hC dX0_addLength_0 rfl ?_
  refine kw_istore_n (lv' := [(2, _), (0, _), (1, _)]) hC dX0_addLength_1 rfl (by decide) rfl ?_
  refine kw_iconst hC dX0_addLength_2 rfl ?_
  refine kw_istore_n (lv' := [(3, _), (2, _), (0, _), (1, _)]) hC dX0_addLength_3 rfl (by decide) rfl ?_
  have hL4 : ∀ (n : Nat) (x : Int), (0 ≤ x) → (x ≤ 1) → (1 - x < (n : Int)) → Wk E g 5 S 4 [(0, vr g 16 0), (1, vi a), (2, vi 0), (3, vi x)] [] := by
    intro n
    induction n with
    | zero => intro x hx0 hx1 hxn; exact absurd hxn (by omega)
    | succ n ih4 =>
      intro x hx0 hx1 hxn
      refine kw_iload_n hC dX0_addLength_4 rfl 3 rfl ?_
      refine kw_aload_n hC dX0_addLength_5 rfl 0 rfl ?_
      refine kg_16_2 hC w0 f15 dX0_addLength_6 rfl (by decide) (by decide) ?_
      refine kw_iload_n hC dX0_addLength_9 rfl 1 rfl ?_
      refine kw_iconst hC dX0_addLength_10 rfl ?_
      refine kw_isub hC dX0_addLength_11 rfl ?_
      refine ka_18 hC dX0_addLength_12 rfl (by decide) (by decide) (by omega) (by omega) ?_
      refine kw_icmp_ge (tgt := 95) hC dX0_addLength_13 rfl (by decide) (by omega) (by omega) ⟨fun c13 => ?_, fun c13 => ?_⟩
      · refine kw_aload_n hC dX0_addLength_95 rfl 0 rfl ?_
        refine kg_16_2 hC w0 f15 dX0_addLength_96 rfl (by decide) (by decide) ?_
        refine kw_iload_n hC dX0_addLength_99 rfl 1 rfl ?_
        refine kw_iload_n hC dX0_addLength_100 rfl 2 rfl ?_
        refine ks_18 hC dX0_addLength_101 rfl (by decide) (by decide) (by omega) (by omega) ?_
        refine kw_aload_n hC dX0_addLength_102 rfl 0 rfl ?_
        refine kw_iload_n hC dX0_addLength_103 rfl 1 rfl ?_
        refine kp_16_4 hC w0 f26 dX0_addLength_104 rfl (by decide) (by decide) ?_
        exact hR.2.2.2 rfl _ _ _ dX0_addLength_107 ⟨rfl, rfl⟩
      · refine kw_iconst hC dX0_addLength_16 rfl ?_
        refine kw_istore (lv' := [(4, _), (0, _), (1, _), (2, _), (3, _)]) hC dX0_addLength_17 rfl (by decide) rfl ?_
        refine kw_iload hC dX0_addLength_19 rfl 0 rfl ?_
        refine kw_aload_n hC dX0_addLength_21 rfl 1 rfl ?_
        refine kg_16_0 hC w0 f22 dX0_addLength_22 rfl (by decide) (by decide) ?_
        refine kg_3_2 hC w3 f48 dX0_addLength_25 rfl (by omega) (by omega) ?_
        refine kw_chi (z' := 0) (by exact hm) ?_
        refine kw_icmp_ge (tgt := 89) hC dX0_addLength_28 rfl (by decide) (by omega) (by omega) ⟨fun c28 => ?_, fun c28 => False.elim (by omega)⟩
        refine kw_iinc (lv' := [(3, _), (4, _), (0, _), (1, _), (2, _)]) hC dX0_addLength_89 rfl 4 rfl (by decide) rfl ?_
        refine kw_goto (tgt := 4) hC dX0_addLength_92 rfl (by decide) ?_
        refine kw_lv [2, 3, 4, 0] rfl ?_
        exact ih4 (x + 1) (by omega) (by omega) (by omega)
  refine kw_lv [2, 3, 1, 0] rfl ?_
  exact hL4 2 0 (by omega) (by omega) (by omega)

set_option maxHeartbeats 4000000 in
set_option maxRecDepth 100000 in
/-- without mirrors -/
theorem c1_X0_reaches {g : wG} (hD : wD g) {S : wSt} {a : Int} (a0 : 0 ≤ a) (a1 : a ≤ 12) (hm : S 3 16 2 = 0) (k1 : S 16 0 4 = 0) (k2 : S 16 0 5 = 0) (k3 : S 18 0 0 = 1) (l : Launch) : Kt l yX0_reaches wsX0_reaches ({ frames := 1, cells := 0, slots := 0, locals := 24 } : Room) g S [vr g 16 0, vi a] (pI (fun r S' => r = bz True ∧ (S' 18 0 a = (if a = 0 then 1 else 0) ∧ (∀ k, k ≠ 16 → k ≠ 18 → S' k = S k)))) := by
  refine Kt.of (cc := cX0_reaches) (nL := 3) (ret := (some .boolean)) (own := RX0) rfl hD (by decide) rfl (Nat.le_of_ble_eq_true rfl) ⟨rfl, rfl⟩ ?_
  intro E hC hR
  have f26 : Cond.fieldLink RX0 26 "MirrorBench$FormList" "length" "I" ∈ wsX0_reaches := by decide +kernel
  have f30 : Cond.fieldLink RX0 30 "MirrorBench$FormList" "full" "Z" ∈ wsX0_reaches := by decide +kernel
  have w0 : ∀ w ∈ wsX00, w ∈ wsX0_reaches := by decide +kernel
  show Wk E g 3 S 0 [(0, vr g 16 0), (1, vi a)] []
  refine kw_aload_n hC dX0_reaches_0 rfl 0 rfl ?_
  refine kg_16_4 hC w0 f26 dX0_reaches_1 rfl (by decide) (by decide) ?_
  refine kw_chi (z' := 0) (by exact k1) ?_
  refine kw_iconst hC dX0_reaches_4 rfl ?_
  refine kw_iadd hC dX0_reaches_5 rfl ?_
  refine kw_istore_n (lv' := [(2, _), (0, _), (1, _)]) hC dX0_reaches_6 rfl (by decide) rfl ?_
  have hL7 : ∀ (n : Nat) (x : Int) (S2 : wSt), (1 ≤ x) → (x ≤ a + 1) → (S2 3 16 2 = 0) → (S2 16 0 4 = x - 1) → (S2 16 0 5 = 0) → (S2 18 0 (x - 1) = (if x - 1 = 0 then 1 else 0)) → (∀ k, k ≠ 16 → k ≠ 18 → S2 k = S k) → (a + 1 - x < (n : Int)) → Wk E g 3 S2 7 [(0, vr g 16 0), (1, vi a), (2, vi x)] [] := by
    intro n
    induction n with
    | zero => intro x S2 hx0 hx1 h3 h4 h5 h6 h7 hxn; exact absurd hxn (by omega)
    | succ n ih7 =>
      intro x S2 hx0 hx1 h3 h4 h5 h6 h7 hxn
      have hq0 : 0 ≤ S2 18 0 (x - 1) := by rw [h6]; split <;> omega
      have hq1 : S2 18 0 (x - 1) ≤ 1 := by rw [h6]; split <;> omega
      refine kw_iload_n hC dX0_reaches_7 rfl 2 rfl ?_
      refine kw_iload_n hC dX0_reaches_8 rfl 1 rfl ?_
      refine kw_icmp_gt (tgt := 30) hC dX0_reaches_9 rfl (by decide) (by omega) (by omega) ⟨fun c9 => ?_, fun c9 => ?_⟩
      · obtain rfl : x = a + 1 := by omega
        refine kw_iload_n hC dX0_reaches_30 rfl 1 rfl ?_
        refine kw_aload_n hC dX0_reaches_31 rfl 0 rfl ?_
        refine kg_16_4 hC w0 f26 dX0_reaches_32 rfl (by decide) (by decide) ?_
        refine kw_chi (z' := a) (by rw [h4]; omega) ?_
        refine kw_icmp_gt (tgt := 42) hC dX0_reaches_35 rfl (by decide) (by omega) (by omega) ⟨fun c35 => False.elim (by omega), fun c35 => ?_⟩
        refine kw_iconst hC dX0_reaches_38 rfl ?_
        refine kw_goto (tgt := 43) hC dX0_reaches_39 rfl (by decide) ?_
        exact hR.2.1 rfl _ _ _ _ dX0_reaches_43 (by omega) ⟨_, rfl, (bz_t trivial).symm, by rw [show a = a + 1 - 1 by omega]; exact h6, h7⟩
      · refine kw_aload_n hC dX0_reaches_12 rfl 0 rfl ?_
        refine kg_16_5 hC w0 f30 dX0_reaches_13 rfl (by decide) (by decide) ?_
        refine kw_chi (z' := 0) (by exact h5) ?_
        refine kw_if_ne (tgt := 30) hC dX0_reaches_16 rfl (by decide) (by omega) ⟨fun c16 => False.elim (by omega), fun c16 => ?_⟩
        refine kw_aload_n hC dX0_reaches_19 rfl 0 rfl ?_
        refine kw_iload_n hC dX0_reaches_20 rfl 2 rfl ?_
        refine kw_callV hC (c1_X0_addLength hD (by omega) (by omega) h3 hq0 hq1) gX0_reaches_X0_addLength ⟨_, rfl⟩ rfl (by decide) (by decide) rfl ⟨rfl, rfl⟩ 1 (by decide +kernel) ⟨by decide, by decide⟩ rfl rfl (Nat.le_of_ble_eq_true rfl) dX0_reaches_21 rfl (kd_ve ?_)
        refine kw_iinc (lv' := [(2, _), (0, _), (1, _)]) hC dX0_reaches_24 rfl 2 rfl (by decide) rfl ?_
        refine kw_goto (tgt := 7) hC dX0_reaches_27 rfl (by decide) ?_
        refine kw_lv [1, 2, 0] rfl ?_
        exact ih7 (x + 1) _ (by omega) (by omega) h3 (by rw [ups_s]; omega) h5 (by rw [if_neg (by omega), show x + 1 - 1 = x by omega, ups_n _ _ (by omega), ups_s]) (fun k q1 q2 => by rw [ups_k _ _ _ _ q1, ups_k _ _ _ _ q2]; exact h7 k q1 q2) (by omega)
  refine kw_lv [1, 2, 0] rfl ?_
  exact hL7 14 1 _ (by omega) (by omega) hm (by omega) k2 (by rw [show (1 : Int) - 1 = 0 by rfl]; exact k3) (fun _ _ _ => rfl) (by omega)

set_option maxHeartbeats 4000000 in
set_option maxRecDepth 100000 in
/-- general -/
theorem c_X0_ofLength {g : wG} (hD : wD g) {S : wSt} {a : Int} (a0 : 0 ≤ a) (a1 : a ≤ 12) (l : Launch) : Kt l yX0_ofLength wsX0_ofLength ({ frames := 0, cells := 0, slots := 0, locals := 0 } : Room) g S [vr g 16 0, vi a] (pI (fun r S' => r = S 18 0 a ∧ S' = S)) := by
  refine Kt.of (cc := cX0_ofLength) (nL := 2) (ret := (some .int)) (own := RX0) rfl hD (by decide) rfl (Nat.le_of_ble_eq_true rfl) ⟨rfl, rfl⟩ ?_
  intro E hC hR
  have f15 : Cond.fieldLink RX0 15 "MirrorBench$FormList" "counts" "[I" ∈ wsX0_ofLength := by decide +kernel
  have w0 : ∀ w ∈ wsX00, w ∈ wsX0_ofLength := by decide +kernel
  show Wk E g 2 S 0 [(0, vr g 16 0), (1, vi a)] []
  refine kw_aload_n hC dX0_ofLength_0 rfl 0 rfl ?_
  refine kg_16_2 hC w0 f15 dX0_ofLength_1 rfl (by decide) (by decide) ?_
  refine kw_iload_n hC dX0_ofLength_4 rfl 1 rfl ?_
  refine ka_18 hC dX0_ofLength_5 rfl (by decide) (by decide) (by omega) (by omega) ?_
  exact hR.1 rfl _ _ _ _ dX0_ofLength_6 ⟨_, rfl, rfl, rfl⟩

set_option maxHeartbeats 4000000 in
set_option maxRecDepth 100000 in
/-- of the empty form -/
theorem c1_X0_spell {g : wG} (hD : wD g) {S : wSt} {b c : Int} (g0 : 0 ≤ c) (g1 : c < 12) (l : Launch) : Kt l yX0_spell wsX0_spell ({ frames := 0, cells := 0, slots := 0, locals := 0 } : Room) g S [vr g 16 0, vi 0, vi b, vr g 1 c] (pV (fun S' => S' = ups S 1 c 1 0)) := by
  refine Kt.of (cc := cX0_spell) (nL := 7) (ret := none) (own := RX0) rfl hD (by decide) rfl (Nat.le_of_ble_eq_true rfl) ⟨rfl, rfl⟩ ?_
  intro E hC hR
  have f38 : Cond.fieldLink RX0 38 "MirrorBench$Word" "length" "I" ∈ wsX0_spell := by decide +kernel
  have w6 : ∀ w ∈ wsX60, w ∈ wsX0_spell := by decide +kernel
  show Wk E g 7 S 0 [(0, vr g 16 0), (1, vi 0), (2, vi b), (3, vr g 1 c)] []
  refine kw_iload_n hC dX0_spell_0 rfl 2 rfl ?_
  refine kw_istore (lv' := [(4, _), (0, _), (1, _), (2, _), (3, _)]) hC dX0_spell_1 rfl (by decide) rfl ?_
  refine kw_aload_n hC dX0_spell_3 rfl 4 rfl ?_
  refine kw_iload_n hC dX0_spell_4 rfl 2 rfl ?_
  refine kp_1_1 hC w6 f38 dX0_spell_5 rfl (by omega) (by omega) ?_
  refine kw_iload_n hC dX0_spell_8 rfl 2 rfl ?_
  refine kw_istore (lv' := [(5, _), (4, _), (0, _), (1, _), (2, _), (3, _)]) hC dX0_spell_9 rfl (by decide) rfl ?_
  refine kw_iload hC dX0_spell_11 rfl 0 rfl ?_
  refine kw_if_le (tgt := 52) hC dX0_spell_13 rfl (by decide) (by omega) ⟨fun c13 => ?_, fun c13 => False.elim (by omega)⟩
  exact hR.2.2.2 rfl _ _ _ dX0_spell_52 ⟨rfl, rfl⟩

set_option maxHeartbeats 4000000 in
set_option maxRecDepth 100000 in
/-- without mirrors -/
theorem c1_X3_partBits {g : wG} (hD : wD g) {S : wSt} {i : Int} (h0 : 0 ≤ i) (h1 : i < 17) (hm : S 3 i 2 = 0) (l : Launch) : Kt l yX3_partBits wsX3_partBits ({ frames := 0, cells := 0, slots := 0, locals := 0 } : Room) g S [vr g 3 i] (pI (fun r S' => r = 0 ∧ S' = S)) := by
  refine Kt.of (cc := cX3_partBits) (nL := 3) (ret := (some .int)) (own := RX3) rfl hD (by decide) rfl (Nat.le_of_ble_eq_true rfl) ⟨rfl, rfl⟩ ?_
  intro E hC hR
  have f18 : Cond.fieldLink RX3 18 "MirrorBench$Mirrors" "size" "I" ∈ wsX3_partBits := by decide +kernel
  have w3 : ∀ w ∈ wsX30, w ∈ wsX3_partBits := by decide +kernel
  show Wk E g 3 S 0 [(0, vr g 3 i)] []
  refine kw_iconst hC dX3_partBits_0 rfl ?_
  refine kw_istore_n (lv' := [(1, _), (0, _)]) hC dX3_partBits_1 rfl (by decide) rfl ?_
  refine kw_iconst hC dX3_partBits_2 rfl ?_
  refine kw_istore_n (lv' := [(2, _), (1, _), (0, _)]) hC dX3_partBits_3 rfl (by decide) rfl ?_
  refine kw_iload_n hC dX3_partBits_4 rfl 0 rfl ?_
  refine kw_aload_n hC dX3_partBits_5 rfl 2 rfl ?_
  refine kg_3_2 hC w3 f18 dX3_partBits_6 rfl (by omega) (by omega) ?_
  refine kw_chi (z' := 0) (by exact hm) ?_
  refine kw_icmp_ge (tgt := 34) hC dX3_partBits_9 rfl (by decide) (by omega) (by omega) ⟨fun c9 => ?_, fun c9 => False.elim (by omega)⟩
  refine kw_iload_n hC dX3_partBits_34 rfl 1 rfl ?_
  exact hR.1 rfl _ _ _ _ dX3_partBits_35 ⟨_, rfl, rfl, rfl⟩

set_option maxHeartbeats 4000000 in
set_option maxRecDepth 100000 in
/-- of empty words -/
theorem c1_X7_joinWay {g : wG} (hD : wD g) {S : wSt} {a b : Int} (a0 : 0 ≤ a) (a1 : a < 8) (b0 : 0 ≤ b) (b1 : b < 8) (hwa : S 1 a 1 = 0) (hwb : S 1 b 1 = 0) (l : Launch) : Kt l yX7_joinWay wsX7_joinWay ({ frames := 2, cells := 0, slots := 0, locals := 47 } : Room) g S [vr g 0 0, vi a, vi b] (pI (fun r S' => r = bz True ∧ (S' 1 10 1 = 0 ∧ sM S S'))) := by
  refine Kt.of (cc := cX7_joinWay) (nL := 3) (ret := (some .boolean)) (own := RX7) rfl hD (by decide) rfl (Nat.le_of_ble_eq_true rfl) ⟨rfl, rfl⟩ ?_
  intro E hC hR
  have f25 : Cond.fieldLink RX7 25 "MirrorBench" "slots" "[LMirrorBench$Word;" ∈ wsX7_joinWay := by decide +kernel
  have f66 : Cond.fieldLink RX7 66 "MirrorBench" "joined" "LMirrorBench$Word;" ∈ wsX7_joinWay := by decide +kernel
  have f131 : Cond.fieldLink RX7 131 "MirrorBench$Word" "length" "I" ∈ wsX7_joinWay := by decide +kernel
  have w6 : ∀ w ∈ wsX60, w ∈ wsX7_joinWay := by decide +kernel
  have w7 : ∀ w ∈ wsX70, w ∈ wsX7_joinWay := by decide +kernel
  show Wk E g 3 S 0 [(0, vr g 0 0), (1, vi a), (2, vi b)] []
  refine kw_aload_n hC dX7_joinWay_0 rfl 0 rfl ?_
  refine kg_0_2 hC w7 f25 dX7_joinWay_1 rfl (by decide) (by decide) ?_
  refine kw_iload_n hC dX7_joinWay_4 rfl 1 rfl ?_
  refine ka_20 hC dX7_joinWay_5 rfl (by decide) (by decide) (by omega) (by omega) ?_
  refine kg_1_1 hC w6 f131 dX7_joinWay_6 rfl (by omega) (by omega) ?_
  refine kw_aload_n hC dX7_joinWay_9 rfl 0 rfl ?_
  refine kg_0_2 hC w7 f25 dX7_joinWay_10 rfl (by decide) (by decide) ?_
  refine kw_iload_n hC dX7_joinWay_13 rfl 2 rfl ?_
  refine ka_20 hC dX7_joinWay_14 rfl (by decide) (by decide) (by omega) (by omega) ?_
  refine kg_1_1 hC w6 f131 dX7_joinWay_15 rfl (by omega) (by omega) ?_
  refine kw_iadd hC dX7_joinWay_18 rfl ?_
  refine kw_bipush hC dX7_joinWay_19 rfl (by decide) ?_
  refine kw_icmp_le (tgt := 26) hC dX7_joinWay_21 rfl (by decide) (by omega) (by omega) ⟨fun c21 => ?_, fun c21 => False.elim (by omega)⟩
  refine kw_aload_n hC dX7_joinWay_26 rfl 0 rfl ?_
  refine kg_0_9 hC w7 f66 dX7_joinWay_27 rfl (by decide) (by decide) ?_
  refine kw_aload_n hC dX7_joinWay_30 rfl 0 rfl ?_
  refine kg_0_2 hC w7 f25 dX7_joinWay_31 rfl (by decide) (by decide) ?_
  refine kw_iload_n hC dX7_joinWay_34 rfl 1 rfl ?_
  refine ka_20 hC dX7_joinWay_35 rfl (by decide) (by decide) (by omega) (by omega) ?_
  refine kw_callV hC (c1_X6_takeInverted hD (by omega) (by omega) (by omega) (by omega) (by exact hwa)) gX7_joinWay_X6_takeInverted ⟨_, rfl⟩ rfl (by omega) (show (_ : Int) < 12 by omega) rfl ⟨rfl, rfl⟩ 1 (by decide +kernel) ⟨by decide, by decide⟩ rfl rfl (Nat.le_of_ble_eq_true rfl) dX7_joinWay_36 rfl (kd_ve ?_)
  refine kw_aload_n hC dX7_joinWay_39 rfl 0 rfl ?_
  refine kg_0_9 hC w7 f66 dX7_joinWay_40 rfl (by decide) (by decide) ?_
  refine kw_aload_n hC dX7_joinWay_43 rfl 0 rfl ?_
  refine kg_0_2 hC w7 f25 dX7_joinWay_44 rfl (by decide) (by decide) ?_
  refine kw_iload_n hC dX7_joinWay_47 rfl 2 rfl ?_
  refine ka_20 hC dX7_joinWay_48 rfl (by decide) (by decide) (by omega) (by omega) ?_
  refine kw_callV hC (c_X6_append hD (by omega) (by omega) (by omega) (by omega) (by rw [ups_s]; omega) (by rw [ups_n _ _ (by omega)]; omega) (by rw [ups_s, ups_n _ _ (by omega)]; omega)) gX7_joinWay_X6_append ⟨_, rfl⟩ rfl (by omega) (show (_ : Int) < 12 by omega) rfl ⟨rfl, rfl⟩ 1 (by decide +kernel) ⟨by decide, by decide⟩ rfl rfl (Nat.le_of_ble_eq_true rfl) dX7_joinWay_49 rfl (kd_ve ?_)
  refine kw_iconst hC dX7_joinWay_52 rfl ?_
  exact hR.2.1 rfl _ _ _ _ dX7_joinWay_53 (by omega) ⟨_, rfl, (bz_t trivial).symm, by unfold apS; rw [ups_s, ups_s, ups_n _ _ (by omega)]; omega, sM_ap (sM_up (by decide) (sM_rfl _))⟩

set_option maxHeartbeats 4000000 in
set_option maxRecDepth 100000 in
/-- on a new object -/
theorem c1_X7_mirror {g : wG} (hD : wD g) {S : wSt} {a : Int} (ha : -2147483648 ≤ a ∧ a ≤ 2147483647) (hF : nC S) (l : Launch) : Kt l yX7_mirror wsX7_mirror ({ frames := 3, cells := 0, slots := 0, locals := 68 } : Room) g S [vr g 0 0, vi a] (pI (fun r S' => r = q_mirror a ∧ sM S S')) := by
  refine Kt.of (cc := cX7_mirror) (nL := 3) (ret := (some .int)) (own := RX7) rfl hD (by decide) rfl (Nat.le_of_ble_eq_true rfl) ⟨rfl, rfl⟩ ?_
  intro E hC hR
  have f12 : Cond.fieldLink RX7 12 "MirrorBench" "set" "LMirrorBench$Mirrors;" ∈ wsX7_mirror := by decide +kernel
  have f19 : Cond.fieldLink RX7 19 "MirrorBench" "history" "LMirrorBench$History;" ∈ wsX7_mirror := by decide +kernel
  have f83 : Cond.fieldLink RX7 83 "MirrorBench$Mirrors" "size" "I" ∈ wsX7_mirror := by decide +kernel
  have w3 : ∀ w ∈ wsX30, w ∈ wsX7_mirror := by decide +kernel
  have w7 : ∀ w ∈ wsX70, w ∈ wsX7_mirror := by decide +kernel
  show Wk E g 3 S 0 [(0, vr g 0 0), (1, vi a)] []
  obtain ⟨hm, hw, hlf, ⟨hh1, hh2⟩, ⟨hr1, hr2, hr3⟩, ⟨hf1, hf2, hf3⟩⟩ := hF
  refine kw_iload_n hC dX7_mirror_0 rfl 1 rfl ?_
  refine kw_callS hC (c_X7_isKind hD (by omega)) gX7_mirror_X7_isKind rfl ⟨rfl, rfl⟩ 1 (by decide +kernel) ⟨by decide, by decide⟩ rfl rfl (Nat.le_of_ble_eq_true rfl) dX7_mirror_1 rfl (kd_ie ?_)
  refine kw_ifne_b (tgt := 9) hC dX7_mirror_4 rfl (by decide) ⟨fun c4 => ?_, fun c4 => ?_⟩
  · refine kw_aload_n hC dX7_mirror_9 rfl 0 rfl ?_
    refine kg_0_0 hC w7 f12 dX7_mirror_10 rfl (by decide) (by decide) ?_
    refine kg_3_2 hC w3 f83 dX7_mirror_13 rfl (by omega) (by omega) ?_
    refine kw_chi (z' := 0) (by exact hm) ?_
    refine kw_bipush hC dX7_mirror_16 rfl (by decide) ?_
    refine kw_icmp_ne (tgt := 24) hC dX7_mirror_18 rfl (by decide) (by omega) (by omega) ⟨fun c18 => ?_, fun c18 => False.elim (by omega)⟩
    refine kw_aload_n hC dX7_mirror_24 rfl 0 rfl ?_
    refine kg_0_1 hC w7 f19 dX7_mirror_25 rfl (by decide) (by decide) ?_
    refine kw_aload_n hC dX7_mirror_28 rfl 0 rfl ?_
    refine kg_0_0 hC w7 f12 dX7_mirror_29 rfl (by decide) (by decide) ?_
    refine kw_callV hC (c_X1_keep hD (by omega) (by omega) (by omega) (by omega)) gX7_mirror_X1_keep ⟨_, rfl⟩ rfl (by decide) (by decide) rfl ⟨rfl, rfl⟩ 1 (by decide +kernel) ⟨by decide, by decide⟩ rfl rfl (Nat.le_of_ble_eq_true rfl) dX7_mirror_32 rfl (kd_ve ?_)
    refine kw_aload_n hC dX7_mirror_35 rfl 0 rfl ?_
    refine kg_0_0 hC w7 f12 dX7_mirror_36 rfl (by decide) (by decide) ?_
    refine kw_iload_n hC dX7_mirror_39 rfl 1 rfl ?_
    have hkp : kpS S 3 16 2 = 0 := by unfold kpS; rw [ups_n _ _ (by omega), ups_n _ _ (by omega)]; unfold teS; rw [ups_n _ _ (by omega)]; exact hm
    refine kw_callV hC (c_X3_addMirror hD (by omega) (by omega) (by omega) (by omega)) gX7_mirror_X3_addMirror ⟨_, rfl⟩ rfl (by omega) (show (_ : Int) < 17 by omega) rfl ⟨rfl, rfl⟩ 1 (by decide +kernel) ⟨by decide, by decide⟩ rfl rfl (Nat.le_of_ble_eq_true rfl) dX7_mirror_40 rfl (kd_ie ?_)
    refine kw_chi (z' := 0) hkp ?_
    refine kw_istore_n (lv' := [(2, _), (0, _), (1, _)]) hC dX7_mirror_43 rfl (by decide) rfl ?_
    refine kw_aload_n hC dX7_mirror_44 rfl 1 rfl ?_
    refine kw_callV hC (c_X7_startAnew hD ) gX7_mirror_X7_startAnew ⟨_, rfl⟩ rfl (by decide) (by decide) rfl ⟨rfl, rfl⟩ 0 (by decide +kernel) ⟨by decide, by decide⟩ rfl rfl (Nat.le_of_ble_eq_true rfl) dX7_mirror_45 rfl (kd_ve ?_)
    refine kw_iload_n hC dX7_mirror_48 rfl 0 rfl ?_
    exact hR.1 rfl _ _ _ _ dX7_mirror_49 ⟨_, rfl, by unfold q_mirror; (repeat' split) <;> omega, (by repeat (first | exact sM_rfl _ | exact hM | refine sM_up (by decide) ?_ | refine sM_cp (by decide) ?_ | refine sM_tk ?_ | refine sM_ap ?_ | refine sM_an ?_ | refine sM_fi (by decide) ?_ | refine sM_kp ?_ | refine sM_wz ?_))⟩
  · refine kw_iconst hC dX7_mirror_7 rfl ?_
    exact hR.1 rfl _ _ _ _ dX7_mirror_8 ⟨_, rfl, by unfold q_mirror; (repeat' split) <;> omega, (by repeat (first | exact sM_rfl _ | exact hM | refine sM_up (by decide) ?_ | refine sM_cp (by decide) ?_ | refine sM_tk ?_ | refine sM_ap ?_ | refine sM_an ?_ | refine sM_fi (by decide) ?_ | refine sM_kp ?_ | refine sM_wz ?_))⟩

set_option maxHeartbeats 4000000 in
set_option maxRecDepth 100000 in
/-- on a new object -/
theorem c1_X7_meet {g : wG} (hD : wD g) {S : wSt} {a b c d : Int} (ha : -2147483648 ≤ a ∧ a ≤ 2147483647) (hb : -2147483648 ≤ b ∧ b ≤ 2147483647) (hc : -2147483648 ≤ c ∧ c ≤ 2147483647) (hd : -2147483648 ≤ d ∧ d ≤ 2147483647) (hF : nC S) (l : Launch) : Kt l yX7_meet wsX7_meet ({ frames := 1, cells := 0, slots := 0, locals := 21 } : Room) g S [vr g 0 0, vi a, vi b, vi c, vi d] (pI (fun r S' => r = (-1) ∧ sM S S')) := by
  refine Kt.of (cc := cX7_meet) (nL := 5) (ret := (some .int)) (own := RX7) rfl hD (by decide) rfl (Nat.le_of_ble_eq_true rfl) ⟨rfl, rfl⟩ ?_
  intro E hC hR
  have f12 : Cond.fieldLink RX7 12 "MirrorBench" "set" "LMirrorBench$Mirrors;" ∈ wsX7_meet := by decide +kernel
  have w7 : ∀ w ∈ wsX70, w ∈ wsX7_meet := by decide +kernel
  show Wk E g 5 S 0 [(0, vr g 0 0), (1, vi a), (2, vi b), (3, vi c), (4, vi d)] []
  obtain ⟨hm, hw, hlf, ⟨hh1, hh2⟩, ⟨hr1, hr2, hr3⟩, ⟨hf1, hf2, hf3⟩⟩ := hF
  refine kw_aload_n hC dX7_meet_0 rfl 0 rfl ?_
  refine kg_0_0 hC w7 f12 dX7_meet_1 rfl (by decide) (by decide) ?_
  refine kw_iload_n hC dX7_meet_4 rfl 1 rfl ?_
  refine kw_callV hC (c_X3_has hD (by omega) (by omega) (by omega) (by omega)) gX7_meet_X3_has ⟨_, rfl⟩ rfl (by omega) (show (_ : Int) < 17 by omega) rfl ⟨rfl, rfl⟩ 1 (by decide +kernel) ⟨by decide, by decide⟩ rfl rfl (Nat.le_of_ble_eq_true rfl) dX7_meet_5 rfl (kd_ie ?_)
  refine kw_ifeq_b (tgt := 36) hC dX7_meet_8 rfl (by decide) ⟨fun c8 => ?_, fun c8 => False.elim (by omega)⟩
  refine kw_iconst hC dX7_meet_36 rfl ?_
  exact hR.1 rfl _ _ _ _ dX7_meet_37 ⟨_, rfl, rfl, (by repeat (first | exact sM_rfl _ | exact hM | refine sM_up (by decide) ?_ | refine sM_cp (by decide) ?_ | refine sM_tk ?_ | refine sM_ap ?_ | refine sM_an ?_ | refine sM_fi (by decide) ?_ | refine sM_kp ?_ | refine sM_wz ?_))⟩

set_option maxHeartbeats 4000000 in
set_option maxRecDepth 100000 in
/-- on a new object -/
theorem c1_X7_less {g : wG} (hD : wD g) {S : wSt}  (hF : nC S) (l : Launch) : Kt l yX7_less wsX7_less ({ frames := 0, cells := 0, slots := 0, locals := 0 } : Room) g S [vr g 0 0] (pI (fun r S' => r = (-2) ∧ sM S S')) := by
  refine Kt.of (cc := cX7_less) (nL := 1) (ret := (some .int)) (own := RX7) rfl hD (by decide) rfl (Nat.le_of_ble_eq_true rfl) ⟨rfl, rfl⟩ ?_
  intro E hC hR
  have f12 : Cond.fieldLink RX7 12 "MirrorBench" "set" "LMirrorBench$Mirrors;" ∈ wsX7_less := by decide +kernel
  have f83 : Cond.fieldLink RX7 83 "MirrorBench$Mirrors" "size" "I" ∈ wsX7_less := by decide +kernel
  have w3 : ∀ w ∈ wsX30, w ∈ wsX7_less := by decide +kernel
  have w7 : ∀ w ∈ wsX70, w ∈ wsX7_less := by decide +kernel
  show Wk E g 1 S 0 [(0, vr g 0 0)] []
  obtain ⟨hm, hw, hlf, ⟨hh1, hh2⟩, ⟨hr1, hr2, hr3⟩, ⟨hf1, hf2, hf3⟩⟩ := hF
  refine kw_aload_n hC dX7_less_0 rfl 0 rfl ?_
  refine kg_0_0 hC w7 f12 dX7_less_1 rfl (by decide) (by decide) ?_
  refine kg_3_2 hC w3 f83 dX7_less_4 rfl (by omega) (by omega) ?_
  refine kw_chi (z' := 0) (by exact hm) ?_
  refine kw_if_ne (tgt := 13) hC dX7_less_7 rfl (by decide) (by omega) ⟨fun c7 => False.elim (by omega), fun c7 => ?_⟩
  refine kw_bipush hC dX7_less_10 rfl (by decide) ?_
  exact hR.1 rfl _ _ _ _ dX7_less_12 ⟨_, rfl, rfl, (by repeat (first | exact sM_rfl _ | exact hM | refine sM_up (by decide) ?_ | refine sM_cp (by decide) ?_ | refine sM_tk ?_ | refine sM_ap ?_ | refine sM_an ?_ | refine sM_fi (by decide) ?_ | refine sM_kp ?_ | refine sM_wz ?_))⟩

set_option maxHeartbeats 4000000 in
set_option maxRecDepth 100000 in
/-- on a new object -/
theorem c1_X7_kind {g : wG} (hD : wD g) {S : wSt} {a b : Int} (ha : -2147483648 ≤ a ∧ a ≤ 2147483647) (hb : -2147483648 ≤ b ∧ b ≤ 2147483647) (hF : nC S) (l : Launch) : Kt l yX7_kind wsX7_kind ({ frames := 1, cells := 0, slots := 0, locals := 21 } : Room) g S [vr g 0 0, vi a, vi b] (pI (fun r S' => r = (-1) ∧ sM S S')) := by
  refine Kt.of (cc := cX7_kind) (nL := 4) (ret := (some .int)) (own := RX7) rfl hD (by decide) rfl (Nat.le_of_ble_eq_true rfl) ⟨rfl, rfl⟩ ?_
  intro E hC hR
  have f12 : Cond.fieldLink RX7 12 "MirrorBench" "set" "LMirrorBench$Mirrors;" ∈ wsX7_kind := by decide +kernel
  have w7 : ∀ w ∈ wsX70, w ∈ wsX7_kind := by decide +kernel
  show Wk E g 4 S 0 [(0, vr g 0 0), (1, vi a), (2, vi b)] []
  obtain ⟨hm, hw, hlf, ⟨hh1, hh2⟩, ⟨hr1, hr2, hr3⟩, ⟨hf1, hf2, hf3⟩⟩ := hF
  refine kw_aload_n hC dX7_kind_0 rfl 0 rfl ?_
  refine kg_0_0 hC w7 f12 dX7_kind_1 rfl (by decide) (by decide) ?_
  refine kw_iload_n hC dX7_kind_4 rfl 1 rfl ?_
  refine kw_callV hC (c_X3_has hD (by omega) (by omega) (by omega) (by omega)) gX7_kind_X3_has ⟨_, rfl⟩ rfl (by omega) (show (_ : Int) < 17 by omega) rfl ⟨rfl, rfl⟩ 1 (by decide +kernel) ⟨by decide, by decide⟩ rfl rfl (Nat.le_of_ble_eq_true rfl) dX7_kind_5 rfl (kd_ie ?_)
  refine kw_ifeq_b (tgt := 18) hC dX7_kind_8 rfl (by decide) ⟨fun c8 => ?_, fun c8 => False.elim (by omega)⟩
  refine kw_iconst hC dX7_kind_18 rfl ?_
  exact hR.1 rfl _ _ _ _ dX7_kind_19 ⟨_, rfl, rfl, (by repeat (first | exact sM_rfl _ | exact hM | refine sM_up (by decide) ?_ | refine sM_cp (by decide) ?_ | refine sM_tk ?_ | refine sM_ap ?_ | refine sM_an ?_ | refine sM_fi (by decide) ?_ | refine sM_kp ?_ | refine sM_wz ?_))⟩

set_option maxHeartbeats 4000000 in
set_option maxRecDepth 100000 in
/-- on a new object -/
theorem c1_X7_undo {g : wG} (hD : wD g) {S : wSt}  (hF : nC S) (l : Launch) : Kt l yX7_undo wsX7_undo ({ frames := 0, cells := 0, slots := 0, locals := 0 } : Room) g S [vr g 0 0] (pI (fun r S' => r = (-2) ∧ sM S S')) := by
  refine Kt.of (cc := cX7_undo) (nL := 1) (ret := (some .int)) (own := RX7) rfl hD (by decide) rfl (Nat.le_of_ble_eq_true rfl) ⟨rfl, rfl⟩ ?_
  intro E hC hR
  have f19 : Cond.fieldLink RX7 19 "MirrorBench" "history" "LMirrorBench$History;" ∈ wsX7_undo := by decide +kernel
  have f119 : Cond.fieldLink RX7 119 "MirrorBench$History" "steps" "I" ∈ wsX7_undo := by decide +kernel
  have w1 : ∀ w ∈ wsX10, w ∈ wsX7_undo := by decide +kernel
  have w7 : ∀ w ∈ wsX70, w ∈ wsX7_undo := by decide +kernel
  show Wk E g 1 S 0 [(0, vr g 0 0)] []
  obtain ⟨hm, hw, hlf, ⟨hh1, hh2⟩, ⟨hr1, hr2, hr3⟩, ⟨hf1, hf2, hf3⟩⟩ := hF
  refine kw_aload_n hC dX7_undo_0 rfl 0 rfl ?_
  refine kg_0_1 hC w7 f19 dX7_undo_1 rfl (by decide) (by decide) ?_
  refine kg_8_2 hC w1 f119 dX7_undo_4 rfl (by decide) (by decide) ?_
  refine kw_chi (z' := 0) (by exact hh2) ?_
  refine kw_if_ne (tgt := 13) hC dX7_undo_7 rfl (by decide) (by omega) ⟨fun c7 => False.elim (by omega), fun c7 => ?_⟩
  refine kw_bipush hC dX7_undo_10 rfl (by decide) ?_
  exact hR.1 rfl _ _ _ _ dX7_undo_12 ⟨_, rfl, rfl, (by repeat (first | exact sM_rfl _ | exact hM | refine sM_up (by decide) ?_ | refine sM_cp (by decide) ?_ | refine sM_tk ?_ | refine sM_ap ?_ | refine sM_an ?_ | refine sM_fi (by decide) ?_ | refine sM_kp ?_ | refine sM_wz ?_))⟩

set_option maxHeartbeats 4000000 in
set_option maxRecDepth 100000 in
/-- on a new object -/
theorem c1_X7_told {g : wG} (hD : wD g) {S : wSt} {a b c : Int} (ha : -2147483648 ≤ a ∧ a ≤ 2147483647) (hb : -2147483648 ≤ b ∧ b ≤ 2147483647) (hc : -2147483648 ≤ c ∧ c ≤ 2147483647) (hF : nC S) (l : Launch) : Kt l yX7_told wsX7_told ({ frames := 1, cells := 0, slots := 0, locals := 21 } : Room) g S [vr g 0 0, vi a, vi b, vi c] (pI (fun r S' => r = q_told a ∧ sM S S')) := by
  refine Kt.of (cc := cX7_told) (nL := 4) (ret := (some .int)) (own := RX7) rfl hD (by decide) rfl (Nat.le_of_ble_eq_true rfl) ⟨rfl, rfl⟩ ?_
  intro E hC hR
  have f12 : Cond.fieldLink RX7 12 "MirrorBench" "set" "LMirrorBench$Mirrors;" ∈ wsX7_told := by decide +kernel
  have f83 : Cond.fieldLink RX7 83 "MirrorBench$Mirrors" "size" "I" ∈ wsX7_told := by decide +kernel
  have w3 : ∀ w ∈ wsX30, w ∈ wsX7_told := by decide +kernel
  have w7 : ∀ w ∈ wsX70, w ∈ wsX7_told := by decide +kernel
  show Wk E g 4 S 0 [(0, vr g 0 0), (1, vi a), (2, vi b), (3, vi c)] []
  obtain ⟨hm, hw, hlf, ⟨hh1, hh2⟩, ⟨hr1, hr2, hr3⟩, ⟨hf1, hf2, hf3⟩⟩ := hF
  refine kw_iload_n hC dX7_told_0 rfl 1 rfl ?_
  refine kw_iconst hC dX7_told_1 rfl ?_
  refine kw_icmp_ne (tgt := 13) hC dX7_told_2 rfl (by decide) (by omega) (by omega) ⟨fun c2 => ?_, fun c2 => ?_⟩
  · refine kw_aload_n hC dX7_told_13 rfl 0 rfl ?_
    refine kg_0_0 hC w7 f12 dX7_told_14 rfl (by decide) (by decide) ?_
    refine kw_iload_n hC dX7_told_17 rfl 2 rfl ?_
    refine kw_callV hC (c_X3_has hD (by omega) (by omega) (by omega) (by omega)) gX7_told_X3_has ⟨_, rfl⟩ rfl (by omega) (show (_ : Int) < 17 by omega) rfl ⟨rfl, rfl⟩ 1 (by decide +kernel) ⟨by decide, by decide⟩ rfl rfl (Nat.le_of_ble_eq_true rfl) dX7_told_18 rfl (kd_ie ?_)
    refine kw_ifne_b (tgt := 26) hC dX7_told_21 rfl (by decide) ⟨fun c21 => False.elim (by omega), fun c21 => ?_⟩
    refine kw_iconst hC dX7_told_24 rfl ?_
    exact hR.1 rfl _ _ _ _ dX7_told_25 ⟨_, rfl, by unfold q_told; (repeat' split) <;> omega, (by repeat (first | exact sM_rfl _ | exact hM | refine sM_up (by decide) ?_ | refine sM_cp (by decide) ?_ | refine sM_tk ?_ | refine sM_ap ?_ | refine sM_an ?_ | refine sM_fi (by decide) ?_ | refine sM_kp ?_ | refine sM_wz ?_))⟩
  · refine kw_aload_n hC dX7_told_5 rfl 0 rfl ?_
    refine kg_0_0 hC w7 f12 dX7_told_6 rfl (by decide) (by decide) ?_
    refine kg_3_2 hC w3 f83 dX7_told_9 rfl (by omega) (by omega) ?_
    refine kw_chi (z' := 0) (by exact hm) ?_
    exact hR.1 rfl _ _ _ _ dX7_told_12 ⟨_, rfl, by unfold q_told; (repeat' split) <;> omega, (by repeat (first | exact sM_rfl _ | exact hM | refine sM_up (by decide) ?_ | refine sM_cp (by decide) ?_ | refine sM_tk ?_ | refine sM_ap ?_ | refine sM_an ?_ | refine sM_fi (by decide) ?_ | refine sM_kp ?_ | refine sM_wz ?_))⟩

set_option maxHeartbeats 4000000 in
set_option maxRecDepth 100000 in
/-- on a new object -/
theorem c1_X7_clear {g : wG} (hD : wD g) {S : wSt} {a : Int} (ha : -2147483648 ≤ a ∧ a ≤ 2147483647) (hF : nC S) (l : Launch) : Kt l yX7_clear wsX7_clear ({ frames := 1, cells := 0, slots := 0, locals := 20 } : Room) g S [vr g 0 0, vi a] (pI (fun r S' => r = q_1 a ∧ sM S S')) := by
  refine Kt.of (cc := cX7_clear) (nL := 3) (ret := (some .int)) (own := RX7) rfl hD (by decide) rfl (Nat.le_of_ble_eq_true rfl) ⟨rfl, rfl⟩ ?_
  intro E hC hR
  have f25 : Cond.fieldLink RX7 25 "MirrorBench" "slots" "[LMirrorBench$Word;" ∈ wsX7_clear := by decide +kernel
  have f131 : Cond.fieldLink RX7 131 "MirrorBench$Word" "length" "I" ∈ wsX7_clear := by decide +kernel
  have w6 : ∀ w ∈ wsX60, w ∈ wsX7_clear := by decide +kernel
  have w7 : ∀ w ∈ wsX70, w ∈ wsX7_clear := by decide +kernel
  show Wk E g 3 S 0 [(0, vr g 0 0), (1, vi a)] []
  obtain ⟨hm, hw, hlf, ⟨hh1, hh2⟩, ⟨hr1, hr2, hr3⟩, ⟨hf1, hf2, hf3⟩⟩ := hF
  refine kw_iload_n hC dX7_clear_0 rfl 1 rfl ?_
  refine kw_callS hC (c_X7_isSlot hD (by omega)) gX7_clear_X7_isSlot rfl ⟨rfl, rfl⟩ 1 (by decide +kernel) ⟨by decide, by decide⟩ rfl rfl (Nat.le_of_ble_eq_true rfl) dX7_clear_1 rfl (kd_ie ?_)
  refine kw_ifne_b (tgt := 9) hC dX7_clear_4 rfl (by decide) ⟨fun c4 => ?_, fun c4 => ?_⟩
  · have hwa := hw a (by omega) (by omega)
    refine kw_aload_n hC dX7_clear_9 rfl 0 rfl ?_
    refine kg_0_2 hC w7 f25 dX7_clear_10 rfl (by decide) (by decide) ?_
    refine kw_iload_n hC dX7_clear_13 rfl 1 rfl ?_
    refine ka_20 hC dX7_clear_14 rfl (by decide) (by decide) (by omega) (by omega) ?_
    refine kg_1_1 hC w6 f131 dX7_clear_15 rfl (by omega) (by omega) ?_
    refine kw_chi (z' := 0) (by exact hwa) ?_
    refine kw_istore_n (lv' := [(2, _), (0, _), (1, _)]) hC dX7_clear_18 rfl (by decide) rfl ?_
    refine kw_aload_n hC dX7_clear_19 rfl 1 rfl ?_
    refine kg_0_2 hC w7 f25 dX7_clear_20 rfl (by decide) (by decide) ?_
    refine kw_iload_n hC dX7_clear_23 rfl 2 rfl ?_
    refine ka_20 hC dX7_clear_24 rfl (by decide) (by decide) (by omega) (by omega) ?_
    refine kw_iconst hC dX7_clear_25 rfl ?_
    refine kp_1_1 hC w6 f131 dX7_clear_26 rfl (by omega) (by omega) ?_
    refine kw_iload_n hC dX7_clear_29 rfl 0 rfl ?_
    exact hR.1 rfl _ _ _ _ dX7_clear_30 ⟨_, rfl, by unfold q_1; (repeat' split) <;> omega, (by repeat (first | exact sM_rfl _ | exact hM | refine sM_up (by decide) ?_ | refine sM_cp (by decide) ?_ | refine sM_tk ?_ | refine sM_ap ?_ | refine sM_an ?_ | refine sM_fi (by decide) ?_ | refine sM_kp ?_ | refine sM_wz ?_))⟩
  · refine kw_iconst hC dX7_clear_7 rfl ?_
    exact hR.1 rfl _ _ _ _ dX7_clear_8 ⟨_, rfl, by unfold q_1; (repeat' split) <;> omega, (by repeat (first | exact sM_rfl _ | exact hM | refine sM_up (by decide) ?_ | refine sM_cp (by decide) ?_ | refine sM_tk ?_ | refine sM_ap ?_ | refine sM_an ?_ | refine sM_fi (by decide) ?_ | refine sM_kp ?_ | refine sM_wz ?_))⟩

set_option maxHeartbeats 4000000 in
set_option maxRecDepth 100000 in
/-- on a new object -/
theorem c1_X7_put {g : wG} (hD : wD g) {S : wSt} {a b : Int} (ha : -2147483648 ≤ a ∧ a ≤ 2147483647) (hb : -2147483648 ≤ b ∧ b ≤ 2147483647) (hF : nC S) (l : Launch) : Kt l yX7_put wsX7_put ({ frames := 1, cells := 0, slots := 0, locals := 21 } : Room) g S [vr g 0 0, vi a, vi b] (pI (fun r S' => r = (-1) ∧ sM S S')) := by
  refine Kt.of (cc := cX7_put) (nL := 3) (ret := (some .int)) (own := RX7) rfl hD (by decide) rfl (Nat.le_of_ble_eq_true rfl) ⟨rfl, rfl⟩ ?_
  intro E hC hR
  have f12 : Cond.fieldLink RX7 12 "MirrorBench" "set" "LMirrorBench$Mirrors;" ∈ wsX7_put := by decide +kernel
  have w7 : ∀ w ∈ wsX70, w ∈ wsX7_put := by decide +kernel
  show Wk E g 3 S 0 [(0, vr g 0 0), (1, vi a), (2, vi b)] []
  obtain ⟨hm, hw, hlf, ⟨hh1, hh2⟩, ⟨hr1, hr2, hr3⟩, ⟨hf1, hf2, hf3⟩⟩ := hF
  refine kw_iload_n hC dX7_put_0 rfl 1 rfl ?_
  refine kw_callS hC (c_X7_isSlot hD (by omega)) gX7_put_X7_isSlot rfl ⟨rfl, rfl⟩ 1 (by decide +kernel) ⟨by decide, by decide⟩ rfl rfl (Nat.le_of_ble_eq_true rfl) dX7_put_1 rfl (kd_ie ?_)
  refine kw_ifeq_b (tgt := 18) hC dX7_put_4 rfl (by decide) ⟨fun c4 => ?_, fun c4 => ?_⟩
  · refine kw_iconst hC dX7_put_18 rfl ?_
    exact hR.1 rfl _ _ _ _ dX7_put_19 ⟨_, rfl, rfl, (by repeat (first | exact sM_rfl _ | exact hM | refine sM_up (by decide) ?_ | refine sM_cp (by decide) ?_ | refine sM_tk ?_ | refine sM_ap ?_ | refine sM_an ?_ | refine sM_fi (by decide) ?_ | refine sM_kp ?_ | refine sM_wz ?_))⟩
  · refine kw_aload_n hC dX7_put_7 rfl 0 rfl ?_
    refine kg_0_0 hC w7 f12 dX7_put_8 rfl (by decide) (by decide) ?_
    refine kw_iload_n hC dX7_put_11 rfl 2 rfl ?_
    refine kw_callV hC (c_X3_has hD (by omega) (by omega) (by omega) (by omega)) gX7_put_X3_has ⟨_, rfl⟩ rfl (by omega) (show (_ : Int) < 17 by omega) rfl ⟨rfl, rfl⟩ 1 (by decide +kernel) ⟨by decide, by decide⟩ rfl rfl (Nat.le_of_ble_eq_true rfl) dX7_put_12 rfl (kd_ie ?_)
    refine kw_ifne_b (tgt := 20) hC dX7_put_15 rfl (by decide) ⟨fun c15 => False.elim (by omega), fun c15 => ?_⟩
    refine kw_iconst hC dX7_put_18 rfl ?_
    exact hR.1 rfl _ _ _ _ dX7_put_19 ⟨_, rfl, rfl, (by repeat (first | exact sM_rfl _ | exact hM | refine sM_up (by decide) ?_ | refine sM_cp (by decide) ?_ | refine sM_tk ?_ | refine sM_ap ?_ | refine sM_an ?_ | refine sM_fi (by decide) ?_ | refine sM_kp ?_ | refine sM_wz ?_))⟩

set_option maxHeartbeats 4000000 in
set_option maxRecDepth 100000 in
/-- on a new object -/
theorem c1_X7_word {g : wG} (hD : wD g) {S : wSt} {a b c d e : Int} (ha : -2147483648 ≤ a ∧ a ≤ 2147483647) (hb : -2147483648 ≤ b ∧ b ≤ 2147483647) (hc : -2147483648 ≤ c ∧ c ≤ 2147483647) (hd : -2147483648 ≤ d ∧ d ≤ 2147483647) (he : -2147483648 ≤ e ∧ e ≤ 2147483647) (hF : nC S) (l : Launch) : Kt l yX7_word wsX7_word ({ frames := 1, cells := 0, slots := 0, locals := 21 } : Room) g S [vr g 0 0, vi a, vi b, vi c, vi d, vi e] (pI (fun r S' => r = q_word a b c ∧ sM S S')) := by
  refine Kt.of (cc := cX7_word) (nL := 11) (ret := (some .int)) (own := RX7) rfl hD (by decide) rfl (Nat.le_of_ble_eq_true rfl) ⟨rfl, rfl⟩ ?_
  intro E hC hR
  have f31 : Cond.fieldLink RX7 31 "MirrorBench" "leaves" "[LMirrorBench$Leaf;" ∈ wsX7_word := by decide +kernel
  have w7 : ∀ w ∈ wsX70, w ∈ wsX7_word := by decide +kernel
  show Wk E g 11 S 0 [(0, vr g 0 0), (1, vi a), (2, vi b), (3, vi c), (4, vi d), (5, vi e)] []
  obtain ⟨hm, hw, hlf, ⟨hh1, hh2⟩, ⟨hr1, hr2, hr3⟩, ⟨hf1, hf2, hf3⟩⟩ := hF
  refine kw_iload_n hC dX7_word_0 rfl 1 rfl ?_
  refine kw_callS hC (c_X7_isSlot hD (by omega)) gX7_word_X7_isSlot rfl ⟨rfl, rfl⟩ 1 (by decide +kernel) ⟨by decide, by decide⟩ rfl rfl (Nat.le_of_ble_eq_true rfl) dX7_word_1 rfl (kd_ie ?_)
  refine kw_ifeq_b (tgt := 21) hC dX7_word_4 rfl (by decide) ⟨fun c4 => ?_, fun c4 => ?_⟩
  · refine kw_iconst hC dX7_word_21 rfl ?_
    exact hR.1 rfl _ _ _ _ dX7_word_22 ⟨_, rfl, by unfold q_word; (repeat' split) <;> omega, (by repeat (first | exact sM_rfl _ | exact hM | refine sM_up (by decide) ?_ | refine sM_cp (by decide) ?_ | refine sM_tk ?_ | refine sM_ap ?_ | refine sM_an ?_ | refine sM_fi (by decide) ?_ | refine sM_kp ?_ | refine sM_wz ?_))⟩
  · refine kw_iload_n hC dX7_word_7 rfl 2 rfl ?_
    refine kw_callS hC (c_X7_isLeaf hD (by omega)) gX7_word_X7_isLeaf rfl ⟨rfl, rfl⟩ 1 (by decide +kernel) ⟨by decide, by decide⟩ rfl rfl (Nat.le_of_ble_eq_true rfl) dX7_word_8 rfl (kd_ie ?_)
    refine kw_ifeq_b (tgt := 21) hC dX7_word_11 rfl (by decide) ⟨fun c11 => ?_, fun c11 => ?_⟩
    · refine kw_iconst hC dX7_word_21 rfl ?_
      exact hR.1 rfl _ _ _ _ dX7_word_22 ⟨_, rfl, by unfold q_word; (repeat' split) <;> omega, (by repeat (first | exact sM_rfl _ | exact hM | refine sM_up (by decide) ?_ | refine sM_cp (by decide) ?_ | refine sM_tk ?_ | refine sM_ap ?_ | refine sM_an ?_ | refine sM_fi (by decide) ?_ | refine sM_kp ?_ | refine sM_wz ?_))⟩
    · refine kw_iload_n hC dX7_word_14 rfl 3 rfl ?_
      refine kw_callS hC (c_X7_isLane hD (by omega)) gX7_word_X7_isLane rfl ⟨rfl, rfl⟩ 1 (by decide +kernel) ⟨by decide, by decide⟩ rfl rfl (Nat.le_of_ble_eq_true rfl) dX7_word_15 rfl (kd_ie ?_)
      refine kw_ifne_b (tgt := 23) hC dX7_word_18 rfl (by decide) ⟨fun c18 => ?_, fun c18 => ?_⟩
      · obtain ⟨hlb, hlc⟩ := hlf b (by omega) (by omega)
        refine kw_aload_n hC dX7_word_23 rfl 0 rfl ?_
        refine kg_0_3 hC w7 f31 dX7_word_24 rfl (by decide) (by decide) ?_
        refine kw_iload_n hC dX7_word_27 rfl 2 rfl ?_
        refine ka_21 hC dX7_word_28 rfl (by decide) (by decide) (by omega) (by omega) ?_
        refine kw_astore (lv' := [(6, _), (0, _), (1, _), (2, _), (3, _), (4, _), (5, _)]) hC dX7_word_29 rfl (by decide) rfl ?_
        refine kw_aload hC dX7_word_31 rfl 0 rfl ?_
        refine kw_iload_n hC dX7_word_33 rfl 4 rfl ?_
        refine kw_callV hC (c_X2_find hD (by omega) (by omega) (by omega) (by omega) (by omega)) gX7_word_X2_find ⟨_, rfl⟩ rfl (by omega) (show (_ : Int) < 4 by omega) rfl ⟨rfl, rfl⟩ 1 (by decide +kernel) ⟨by decide, by decide⟩ rfl rfl (Nat.le_of_ble_eq_true rfl) dX7_word_34 rfl (kd_ie ?_)
        refine kw_chi (z' := -11) (by rw [if_pos hlb]) ?_
        refine kw_istore (lv' := [(7, _), (6, _), (0, _), (1, _), (2, _), (3, _), (4, _), (5, _)]) hC dX7_word_37 rfl (by decide) rfl ?_
        refine kw_iload hC dX7_word_39 rfl 0 rfl ?_
        refine kw_if_eq (tgt := 47) hC dX7_word_41 rfl (by decide) (by omega) ⟨fun c41 => False.elim (by omega), fun c41 => ?_⟩
        refine kw_iload hC dX7_word_44 rfl 0 rfl ?_
        exact hR.1 rfl _ _ _ _ dX7_word_46 ⟨_, rfl, by unfold q_word; (repeat' split) <;> omega, (by repeat (first | exact sM_rfl _ | exact hM | refine sM_up (by decide) ?_ | refine sM_cp (by decide) ?_ | refine sM_tk ?_ | refine sM_ap ?_ | refine sM_an ?_ | refine sM_fi (by decide) ?_ | refine sM_kp ?_ | refine sM_wz ?_))⟩
      · refine kw_iconst hC dX7_word_21 rfl ?_
        exact hR.1 rfl _ _ _ _ dX7_word_22 ⟨_, rfl, by unfold q_word; (repeat' split) <;> omega, (by repeat (first | exact sM_rfl _ | exact hM | refine sM_up (by decide) ?_ | refine sM_cp (by decide) ?_ | refine sM_tk ?_ | refine sM_ap ?_ | refine sM_an ?_ | refine sM_fi (by decide) ?_ | refine sM_kp ?_ | refine sM_wz ?_))⟩

set_option maxHeartbeats 4000000 in
set_option maxRecDepth 100000 in
/-- on a new object -/
theorem c1_X7_at {g : wG} (hD : wD g) {S : wSt} {a b : Int} (ha : -2147483648 ≤ a ∧ a ≤ 2147483647) (hb : -2147483648 ≤ b ∧ b ≤ 2147483647) (hF : nC S) (l : Launch) : Kt l yX7_at wsX7_at ({ frames := 1, cells := 0, slots := 0, locals := 20 } : Room) g S [vr g 0 0, vi a, vi b] (pI (fun r S' => r = q_at a b ∧ sM S S')) := by
  refine Kt.of (cc := cX7_at) (nL := 4) (ret := (some .int)) (own := RX7) rfl hD (by decide) rfl (Nat.le_of_ble_eq_true rfl) ⟨rfl, rfl⟩ ?_
  intro E hC hR
  have f25 : Cond.fieldLink RX7 25 "MirrorBench" "slots" "[LMirrorBench$Word;" ∈ wsX7_at := by decide +kernel
  have f131 : Cond.fieldLink RX7 131 "MirrorBench$Word" "length" "I" ∈ wsX7_at := by decide +kernel
  have w6 : ∀ w ∈ wsX60, w ∈ wsX7_at := by decide +kernel
  have w7 : ∀ w ∈ wsX70, w ∈ wsX7_at := by decide +kernel
  show Wk E g 4 S 0 [(0, vr g 0 0), (1, vi a), (2, vi b)] []
  obtain ⟨hm, hw, hlf, ⟨hh1, hh2⟩, ⟨hr1, hr2, hr3⟩, ⟨hf1, hf2, hf3⟩⟩ := hF
  refine kw_iload_n hC dX7_at_0 rfl 1 rfl ?_
  refine kw_callS hC (c_X7_isSlot hD (by omega)) gX7_at_X7_isSlot rfl ⟨rfl, rfl⟩ 1 (by decide +kernel) ⟨by decide, by decide⟩ rfl rfl (Nat.le_of_ble_eq_true rfl) dX7_at_1 rfl (kd_ie ?_)
  refine kw_ifne_b (tgt := 9) hC dX7_at_4 rfl (by decide) ⟨fun c4 => ?_, fun c4 => ?_⟩
  · have hwa := hw a (by omega) (by omega)
    refine kw_aload_n hC dX7_at_9 rfl 0 rfl ?_
    refine kg_0_2 hC w7 f25 dX7_at_10 rfl (by decide) (by decide) ?_
    refine kw_iload_n hC dX7_at_13 rfl 1 rfl ?_
    refine ka_20 hC dX7_at_14 rfl (by decide) (by decide) (by omega) (by omega) ?_
    refine kw_astore_n (lv' := [(3, _), (0, _), (1, _), (2, _)]) hC dX7_at_15 rfl (by decide) rfl ?_
    refine kw_iload_n hC dX7_at_16 rfl 3 rfl ?_
    refine kw_iconst hC dX7_at_17 rfl ?_
    refine kw_icmp_ne (tgt := 26) hC dX7_at_18 rfl (by decide) (by omega) (by omega) ⟨fun c18 => ?_, fun c18 => ?_⟩
    · refine kw_iload_n hC dX7_at_26 rfl 3 rfl ?_
      refine kw_if_lt (tgt := 47) hC dX7_at_27 rfl (by decide) (by omega) ⟨fun c27 => ?_, fun c27 => ?_⟩
      · refine kw_iconst hC dX7_at_47 rfl ?_
        exact hR.1 rfl _ _ _ _ dX7_at_48 ⟨_, rfl, by unfold q_at; (repeat' split) <;> omega, (by repeat (first | exact sM_rfl _ | exact hM | refine sM_up (by decide) ?_ | refine sM_cp (by decide) ?_ | refine sM_tk ?_ | refine sM_ap ?_ | refine sM_an ?_ | refine sM_fi (by decide) ?_ | refine sM_kp ?_ | refine sM_wz ?_))⟩
      · refine kw_iload_n hC dX7_at_30 rfl 3 rfl ?_
        refine kw_aload_n hC dX7_at_31 rfl 0 rfl ?_
        refine kg_1_1 hC w6 f131 dX7_at_32 rfl (by omega) (by omega) ?_
        refine kw_icmp_ge (tgt := 47) hC dX7_at_35 rfl (by decide) (by omega) (by omega) ⟨fun c35 => ?_, fun c35 => False.elim (by omega)⟩
        refine kw_iconst hC dX7_at_47 rfl ?_
        exact hR.1 rfl _ _ _ _ dX7_at_48 ⟨_, rfl, by unfold q_at; (repeat' split) <;> omega, (by repeat (first | exact sM_rfl _ | exact hM | refine sM_up (by decide) ?_ | refine sM_cp (by decide) ?_ | refine sM_tk ?_ | refine sM_ap ?_ | refine sM_an ?_ | refine sM_fi (by decide) ?_ | refine sM_kp ?_ | refine sM_wz ?_))⟩
    · refine kw_aload_n hC dX7_at_21 rfl 0 rfl ?_
      refine kg_1_1 hC w6 f131 dX7_at_22 rfl (by omega) (by omega) ?_
      refine kw_chi (z' := 0) (by exact hwa) ?_
      exact hR.1 rfl _ _ _ _ dX7_at_25 ⟨_, rfl, by unfold q_at; (repeat' split) <;> omega, (by repeat (first | exact sM_rfl _ | exact hM | refine sM_up (by decide) ?_ | refine sM_cp (by decide) ?_ | refine sM_tk ?_ | refine sM_ap ?_ | refine sM_an ?_ | refine sM_fi (by decide) ?_ | refine sM_kp ?_ | refine sM_wz ?_))⟩
  · refine kw_iconst hC dX7_at_7 rfl ?_
    exact hR.1 rfl _ _ _ _ dX7_at_8 ⟨_, rfl, by unfold q_at; (repeat' split) <;> omega, (by repeat (first | exact sM_rfl _ | exact hM | refine sM_up (by decide) ?_ | refine sM_cp (by decide) ?_ | refine sM_tk ?_ | refine sM_ap ?_ | refine sM_an ?_ | refine sM_fi (by decide) ?_ | refine sM_kp ?_ | refine sM_wz ?_))⟩

set_option maxHeartbeats 4000000 in
set_option maxRecDepth 100000 in
/-- on a new object -/
theorem c1_X7_times {g : wG} (hD : wD g) {S : wSt} {a b c : Int} (ha : -2147483648 ≤ a ∧ a ≤ 2147483647) (hb : -2147483648 ≤ b ∧ b ≤ 2147483647) (hc : -2147483648 ≤ c ∧ c ≤ 2147483647) (hF : nC S) (l : Launch) : Kt l yX7_times wsX7_times ({ frames := 3, cells := 0, slots := 0, locals := 69 } : Room) g S [vr g 0 0, vi a, vi b, vi c] (pI (fun r S' => r = q_3 a b c ∧ sM S S')) := by
  refine Kt.of (cc := cX7_times) (nL := 4) (ret := (some .int)) (own := RX7) rfl hD (by decide) rfl (Nat.le_of_ble_eq_true rfl) ⟨rfl, rfl⟩ ?_
  intro E hC hR
  have f25 : Cond.fieldLink RX7 25 "MirrorBench" "slots" "[LMirrorBench$Word;" ∈ wsX7_times := by decide +kernel
  have f59 : Cond.fieldLink RX7 59 "MirrorBench" "made" "LMirrorBench$Word;" ∈ wsX7_times := by decide +kernel
  have f131 : Cond.fieldLink RX7 131 "MirrorBench$Word" "length" "I" ∈ wsX7_times := by decide +kernel
  have w6 : ∀ w ∈ wsX60, w ∈ wsX7_times := by decide +kernel
  have w7 : ∀ w ∈ wsX70, w ∈ wsX7_times := by decide +kernel
  show Wk E g 4 S 0 [(0, vr g 0 0), (1, vi a), (2, vi b), (3, vi c)] []
  obtain ⟨hm, hw, hlf, ⟨hh1, hh2⟩, ⟨hr1, hr2, hr3⟩, ⟨hf1, hf2, hf3⟩⟩ := hF
  refine kw_iload_n hC dX7_times_0 rfl 1 rfl ?_
  refine kw_callS hC (c_X7_isSlot hD (by omega)) gX7_times_X7_isSlot rfl ⟨rfl, rfl⟩ 1 (by decide +kernel) ⟨by decide, by decide⟩ rfl rfl (Nat.le_of_ble_eq_true rfl) dX7_times_1 rfl (kd_ie ?_)
  refine kw_ifeq_b (tgt := 21) hC dX7_times_4 rfl (by decide) ⟨fun c4 => ?_, fun c4 => ?_⟩
  · refine kw_iconst hC dX7_times_21 rfl ?_
    exact hR.1 rfl _ _ _ _ dX7_times_22 ⟨_, rfl, by unfold q_3; (repeat' split) <;> omega, (by repeat (first | exact sM_rfl _ | exact hM | refine sM_up (by decide) ?_ | refine sM_cp (by decide) ?_ | refine sM_tk ?_ | refine sM_ap ?_ | refine sM_an ?_ | refine sM_fi (by decide) ?_ | refine sM_kp ?_ | refine sM_wz ?_))⟩
  · refine kw_iload_n hC dX7_times_7 rfl 2 rfl ?_
    refine kw_callS hC (c_X7_isSlot hD (by omega)) gX7_times_X7_isSlot rfl ⟨rfl, rfl⟩ 1 (by decide +kernel) ⟨by decide, by decide⟩ rfl rfl (Nat.le_of_ble_eq_true rfl) dX7_times_8 rfl (kd_ie ?_)
    refine kw_ifeq_b (tgt := 21) hC dX7_times_11 rfl (by decide) ⟨fun c11 => ?_, fun c11 => ?_⟩
    · refine kw_iconst hC dX7_times_21 rfl ?_
      exact hR.1 rfl _ _ _ _ dX7_times_22 ⟨_, rfl, by unfold q_3; (repeat' split) <;> omega, (by repeat (first | exact sM_rfl _ | exact hM | refine sM_up (by decide) ?_ | refine sM_cp (by decide) ?_ | refine sM_tk ?_ | refine sM_ap ?_ | refine sM_an ?_ | refine sM_fi (by decide) ?_ | refine sM_kp ?_ | refine sM_wz ?_))⟩
    · refine kw_iload_n hC dX7_times_14 rfl 3 rfl ?_
      refine kw_callS hC (c_X7_isSlot hD (by omega)) gX7_times_X7_isSlot rfl ⟨rfl, rfl⟩ 1 (by decide +kernel) ⟨by decide, by decide⟩ rfl rfl (Nat.le_of_ble_eq_true rfl) dX7_times_15 rfl (kd_ie ?_)
      refine kw_ifne_b (tgt := 23) hC dX7_times_18 rfl (by decide) ⟨fun c18 => ?_, fun c18 => ?_⟩
      · have hwa := hw a (by omega) (by omega)
        have hwb := hw b (by omega) (by omega)
        refine kw_aload_n hC dX7_times_23 rfl 0 rfl ?_
        refine kg_0_2 hC w7 f25 dX7_times_24 rfl (by decide) (by decide) ?_
        refine kw_iload_n hC dX7_times_27 rfl 1 rfl ?_
        refine ka_20 hC dX7_times_28 rfl (by decide) (by decide) (by omega) (by omega) ?_
        refine kg_1_1 hC w6 f131 dX7_times_29 rfl (by omega) (by omega) ?_
        refine kw_aload_n hC dX7_times_32 rfl 0 rfl ?_
        refine kg_0_2 hC w7 f25 dX7_times_33 rfl (by decide) (by decide) ?_
        refine kw_iload_n hC dX7_times_36 rfl 2 rfl ?_
        refine ka_20 hC dX7_times_37 rfl (by decide) (by decide) (by omega) (by omega) ?_
        refine kg_1_1 hC w6 f131 dX7_times_38 rfl (by omega) (by omega) ?_
        refine kw_iadd hC dX7_times_41 rfl ?_
        refine kw_bipush hC dX7_times_42 rfl (by decide) ?_
        refine kw_icmp_le (tgt := 50) hC dX7_times_44 rfl (by decide) (by omega) (by omega) ⟨fun c44 => ?_, fun c44 => False.elim (by omega)⟩
        refine kw_aload_n hC dX7_times_50 rfl 0 rfl ?_
        refine kg_0_7 hC w7 f59 dX7_times_51 rfl (by decide) (by decide) ?_
        refine kw_aload_n hC dX7_times_54 rfl 0 rfl ?_
        refine kg_0_2 hC w7 f25 dX7_times_55 rfl (by decide) (by decide) ?_
        refine kw_iload_n hC dX7_times_58 rfl 1 rfl ?_
        refine ka_20 hC dX7_times_59 rfl (by decide) (by decide) (by omega) (by omega) ?_
        refine kw_callV hC (c_X6_take hD (by omega) (by omega) (by omega) (by omega) (by omega) (by omega)) gX7_times_X6_take ⟨_, rfl⟩ rfl (by omega) (show (_ : Int) < 12 by omega) rfl ⟨rfl, rfl⟩ 1 (by decide +kernel) ⟨by decide, by decide⟩ rfl rfl (Nat.le_of_ble_eq_true rfl) dX7_times_60 rfl (kd_ve ?_)
        refine kw_aload_n hC dX7_times_63 rfl 0 rfl ?_
        refine kg_0_7 hC w7 f59 dX7_times_64 rfl (by decide) (by decide) ?_
        refine kw_aload_n hC dX7_times_67 rfl 0 rfl ?_
        refine kg_0_2 hC w7 f25 dX7_times_68 rfl (by decide) (by decide) ?_
        refine kw_iload_n hC dX7_times_71 rfl 2 rfl ?_
        refine ka_20 hC dX7_times_72 rfl (by decide) (by decide) (by omega) (by omega) ?_
        refine kw_callV hC (c_X6_append hD (by omega) (by omega) (by omega) (by omega) (by unfold tkS; rw [ups_s]; omega) (by unfold tkS; rw [ups_n _ _ (by omega)]; exact (show 0 ≤ S 1 b 1 by omega)) (by unfold tkS; rw [ups_s, ups_n _ _ (by omega)]; exact (show S 1 a 1 + S 1 b 1 ≤ 100 by omega))) gX7_times_X6_append ⟨_, rfl⟩ rfl (by omega) (show (_ : Int) < 12 by omega) rfl ⟨rfl, rfl⟩ 1 (by decide +kernel) ⟨by decide, by decide⟩ rfl rfl (Nat.le_of_ble_eq_true rfl) dX7_times_73 rfl (kd_ve ?_)
        have hz : (apS (tkS S 8 a) 8 b) 1 8 1 = 0 := by unfold apS; rw [ups_s]; unfold tkS; rw [ups_s, ups_n _ _ (by omega)]; exact (show S 1 a 1 + S 1 b 1 = 0 by omega)
        refine kw_aload_n hC dX7_times_76 rfl 0 rfl ?_
        refine kw_aload_n hC dX7_times_77 rfl 0 rfl ?_
        refine kg_0_7 hC w7 f59 dX7_times_78 rfl (by decide) (by decide) ?_
        refine kw_iload_n hC dX7_times_81 rfl 3 rfl ?_
        refine kw_callV hC (c_X7_store hD (by omega) (by omega) (by omega) (by omega) (by omega) (by omega)) gX7_times_X7_store ⟨_, rfl⟩ rfl (by decide) (by decide) rfl ⟨rfl, rfl⟩ 2 (by decide +kernel) ⟨by decide, by decide⟩ rfl rfl (Nat.le_of_ble_eq_true rfl) dX7_times_82 rfl (kd_ie ?_)
        refine kw_chi (z' := 0) hz ?_
        exact hR.1 rfl _ _ _ _ dX7_times_85 ⟨_, rfl, by unfold q_3; (repeat' split) <;> omega, (by repeat (first | exact sM_rfl _ | exact hM | refine sM_up (by decide) ?_ | refine sM_cp (by decide) ?_ | refine sM_tk ?_ | refine sM_ap ?_ | refine sM_an ?_ | refine sM_fi (by decide) ?_ | refine sM_kp ?_ | refine sM_wz ?_))⟩
      · refine kw_iconst hC dX7_times_21 rfl ?_
        exact hR.1 rfl _ _ _ _ dX7_times_22 ⟨_, rfl, by unfold q_3; (repeat' split) <;> omega, (by repeat (first | exact sM_rfl _ | exact hM | refine sM_up (by decide) ?_ | refine sM_cp (by decide) ?_ | refine sM_tk ?_ | refine sM_ap ?_ | refine sM_an ?_ | refine sM_fi (by decide) ?_ | refine sM_kp ?_ | refine sM_wz ?_))⟩

set_option maxHeartbeats 4000000 in
set_option maxRecDepth 100000 in
/-- on a new object -/
theorem c1_X7_back {g : wG} (hD : wD g) {S : wSt} {a b : Int} (ha : -2147483648 ≤ a ∧ a ≤ 2147483647) (hb : -2147483648 ≤ b ∧ b ≤ 2147483647) (hF : nC S) (l : Launch) : Kt l yX7_back wsX7_back ({ frames := 3, cells := 0, slots := 0, locals := 69 } : Room) g S [vr g 0 0, vi a, vi b] (pI (fun r S' => r = q_2 a b ∧ sM S S')) := by
  refine Kt.of (cc := cX7_back) (nL := 3) (ret := (some .int)) (own := RX7) rfl hD (by decide) rfl (Nat.le_of_ble_eq_true rfl) ⟨rfl, rfl⟩ ?_
  intro E hC hR
  have f25 : Cond.fieldLink RX7 25 "MirrorBench" "slots" "[LMirrorBench$Word;" ∈ wsX7_back := by decide +kernel
  have f59 : Cond.fieldLink RX7 59 "MirrorBench" "made" "LMirrorBench$Word;" ∈ wsX7_back := by decide +kernel
  have w7 : ∀ w ∈ wsX70, w ∈ wsX7_back := by decide +kernel
  show Wk E g 3 S 0 [(0, vr g 0 0), (1, vi a), (2, vi b)] []
  obtain ⟨hm, hw, hlf, ⟨hh1, hh2⟩, ⟨hr1, hr2, hr3⟩, ⟨hf1, hf2, hf3⟩⟩ := hF
  refine kw_iload_n hC dX7_back_0 rfl 1 rfl ?_
  refine kw_callS hC (c_X7_isSlot hD (by omega)) gX7_back_X7_isSlot rfl ⟨rfl, rfl⟩ 1 (by decide +kernel) ⟨by decide, by decide⟩ rfl rfl (Nat.le_of_ble_eq_true rfl) dX7_back_1 rfl (kd_ie ?_)
  refine kw_ifeq_b (tgt := 14) hC dX7_back_4 rfl (by decide) ⟨fun c4 => ?_, fun c4 => ?_⟩
  · refine kw_iconst hC dX7_back_14 rfl ?_
    exact hR.1 rfl _ _ _ _ dX7_back_15 ⟨_, rfl, by unfold q_2; (repeat' split) <;> omega, (by repeat (first | exact sM_rfl _ | exact hM | refine sM_up (by decide) ?_ | refine sM_cp (by decide) ?_ | refine sM_tk ?_ | refine sM_ap ?_ | refine sM_an ?_ | refine sM_fi (by decide) ?_ | refine sM_kp ?_ | refine sM_wz ?_))⟩
  · refine kw_iload_n hC dX7_back_7 rfl 2 rfl ?_
    refine kw_callS hC (c_X7_isSlot hD (by omega)) gX7_back_X7_isSlot rfl ⟨rfl, rfl⟩ 1 (by decide +kernel) ⟨by decide, by decide⟩ rfl rfl (Nat.le_of_ble_eq_true rfl) dX7_back_8 rfl (kd_ie ?_)
    refine kw_ifne_b (tgt := 16) hC dX7_back_11 rfl (by decide) ⟨fun c11 => ?_, fun c11 => ?_⟩
    · have hwa := hw a (by omega) (by omega)
      refine kw_aload_n hC dX7_back_16 rfl 0 rfl ?_
      refine kg_0_7 hC w7 f59 dX7_back_17 rfl (by decide) (by decide) ?_
      refine kw_aload_n hC dX7_back_20 rfl 0 rfl ?_
      refine kg_0_2 hC w7 f25 dX7_back_21 rfl (by decide) (by decide) ?_
      refine kw_iload_n hC dX7_back_24 rfl 1 rfl ?_
      refine ka_20 hC dX7_back_25 rfl (by decide) (by decide) (by omega) (by omega) ?_
      refine kw_callV hC (c1_X6_takeInverted hD (by omega) (by omega) (by omega) (by omega) hwa) gX7_back_X6_takeInverted ⟨_, rfl⟩ rfl (by omega) (show (_ : Int) < 12 by omega) rfl ⟨rfl, rfl⟩ 1 (by decide +kernel) ⟨by decide, by decide⟩ rfl rfl (Nat.le_of_ble_eq_true rfl) dX7_back_26 rfl (kd_ve ?_)
      have hz : (ups S 1 8 1 (S 1 a 1)) 1 8 1 = 0 := by rw [ups_s]; exact hwa
      refine kw_aload_n hC dX7_back_29 rfl 0 rfl ?_
      refine kw_aload_n hC dX7_back_30 rfl 0 rfl ?_
      refine kg_0_7 hC w7 f59 dX7_back_31 rfl (by decide) (by decide) ?_
      refine kw_iload_n hC dX7_back_34 rfl 2 rfl ?_
      refine kw_callV hC (c_X7_store hD (by omega) (by omega) (by omega) (by omega) (by omega) (by omega)) gX7_back_X7_store ⟨_, rfl⟩ rfl (by decide) (by decide) rfl ⟨rfl, rfl⟩ 2 (by decide +kernel) ⟨by decide, by decide⟩ rfl rfl (Nat.le_of_ble_eq_true rfl) dX7_back_35 rfl (kd_ie ?_)
      refine kw_chi (z' := 0) hz ?_
      exact hR.1 rfl _ _ _ _ dX7_back_38 ⟨_, rfl, by unfold q_2; (repeat' split) <;> omega, (by repeat (first | exact sM_rfl _ | exact hM | refine sM_up (by decide) ?_ | refine sM_cp (by decide) ?_ | refine sM_tk ?_ | refine sM_ap ?_ | refine sM_an ?_ | refine sM_fi (by decide) ?_ | refine sM_kp ?_ | refine sM_wz ?_))⟩
    · refine kw_iconst hC dX7_back_14 rfl ?_
      exact hR.1 rfl _ _ _ _ dX7_back_15 ⟨_, rfl, by unfold q_2; (repeat' split) <;> omega, (by repeat (first | exact sM_rfl _ | exact hM | refine sM_up (by decide) ?_ | refine sM_cp (by decide) ?_ | refine sM_tk ?_ | refine sM_ap ?_ | refine sM_an ?_ | refine sM_fi (by decide) ?_ | refine sM_kp ?_ | refine sM_wz ?_))⟩

set_option maxHeartbeats 4000000 in
set_option maxRecDepth 100000 in
/-- on a new object -/
theorem c1_X7_without {g : wG} (hD : wD g) {S : wSt} {a b : Int} (ha : -2147483648 ≤ a ∧ a ≤ 2147483647) (hb : -2147483648 ≤ b ∧ b ≤ 2147483647) (hF : nC S) (l : Launch) : Kt l yX7_without wsX7_without ({ frames := 3, cells := 0, slots := 0, locals := 69 } : Room) g S [vr g 0 0, vi a, vi b] (pI (fun r S' => r = q_2 a b ∧ sM S S')) := by
  refine Kt.of (cc := cX7_without) (nL := 5) (ret := (some .int)) (own := RX7) rfl hD (by decide) rfl (Nat.le_of_ble_eq_true rfl) ⟨rfl, rfl⟩ ?_
  intro E hC hR
  have f25 : Cond.fieldLink RX7 25 "MirrorBench" "slots" "[LMirrorBench$Word;" ∈ wsX7_without := by decide +kernel
  have f59 : Cond.fieldLink RX7 59 "MirrorBench" "made" "LMirrorBench$Word;" ∈ wsX7_without := by decide +kernel
  have f131 : Cond.fieldLink RX7 131 "MirrorBench$Word" "length" "I" ∈ wsX7_without := by decide +kernel
  have w6 : ∀ w ∈ wsX60, w ∈ wsX7_without := by decide +kernel
  have w7 : ∀ w ∈ wsX70, w ∈ wsX7_without := by decide +kernel
  show Wk E g 5 S 0 [(0, vr g 0 0), (1, vi a), (2, vi b)] []
  obtain ⟨hm, hw, hlf, ⟨hh1, hh2⟩, ⟨hr1, hr2, hr3⟩, ⟨hf1, hf2, hf3⟩⟩ := hF
  refine kw_iload_n hC dX7_without_0 rfl 1 rfl ?_
  refine kw_callS hC (c_X7_isSlot hD (by omega)) gX7_without_X7_isSlot rfl ⟨rfl, rfl⟩ 1 (by decide +kernel) ⟨by decide, by decide⟩ rfl rfl (Nat.le_of_ble_eq_true rfl) dX7_without_1 rfl (kd_ie ?_)
  refine kw_ifeq_b (tgt := 14) hC dX7_without_4 rfl (by decide) ⟨fun c4 => ?_, fun c4 => ?_⟩
  · refine kw_iconst hC dX7_without_14 rfl ?_
    exact hR.1 rfl _ _ _ _ dX7_without_15 ⟨_, rfl, by unfold q_2; (repeat' split) <;> omega, (by repeat (first | exact sM_rfl _ | exact hM | refine sM_up (by decide) ?_ | refine sM_cp (by decide) ?_ | refine sM_tk ?_ | refine sM_ap ?_ | refine sM_an ?_ | refine sM_fi (by decide) ?_ | refine sM_kp ?_ | refine sM_wz ?_))⟩
  · refine kw_iload_n hC dX7_without_7 rfl 2 rfl ?_
    refine kw_callS hC (c_X7_isSlot hD (by omega)) gX7_without_X7_isSlot rfl ⟨rfl, rfl⟩ 1 (by decide +kernel) ⟨by decide, by decide⟩ rfl rfl (Nat.le_of_ble_eq_true rfl) dX7_without_8 rfl (kd_ie ?_)
    refine kw_ifne_b (tgt := 16) hC dX7_without_11 rfl (by decide) ⟨fun c11 => ?_, fun c11 => ?_⟩
    · have hwa := hw a (by omega) (by omega)
      refine kw_aload_n hC dX7_without_16 rfl 0 rfl ?_
      refine kg_0_2 hC w7 f25 dX7_without_17 rfl (by decide) (by decide) ?_
      refine kw_iload_n hC dX7_without_20 rfl 1 rfl ?_
      refine ka_20 hC dX7_without_21 rfl (by decide) (by decide) (by omega) (by omega) ?_
      refine kw_astore_n (lv' := [(3, _), (0, _), (1, _), (2, _)]) hC dX7_without_22 rfl (by decide) rfl ?_
      refine kw_aload_n hC dX7_without_23 rfl 1 rfl ?_
      refine kg_0_7 hC w7 f59 dX7_without_24 rfl (by decide) (by decide) ?_
      refine kw_iconst hC dX7_without_27 rfl ?_
      refine kp_1_1 hC w6 f131 dX7_without_28 rfl (by omega) (by omega) ?_
      refine kw_iconst hC dX7_without_31 rfl ?_
      refine kw_istore (lv' := [(4, _), (3, _), (0, _), (1, _), (2, _)]) hC dX7_without_32 rfl (by decide) rfl ?_
      refine kw_iload hC dX7_without_34 rfl 0 rfl ?_
      refine kw_aload_n hC dX7_without_36 rfl 1 rfl ?_
      refine kg_1_1 hC w6 f131 dX7_without_37 rfl (by omega) (by omega) ?_
      refine kw_chi (z' := 0) (by rw [ups_n _ _ (by omega)]; exact hwa) ?_
      refine kw_icmp_ge (tgt := 82) hC dX7_without_40 rfl (by decide) (by omega) (by omega) ⟨fun c40 => ?_, fun c40 => False.elim (by omega)⟩
      refine kw_aload_n hC dX7_without_82 rfl 2 rfl ?_
      refine kw_aload_n hC dX7_without_83 rfl 2 rfl ?_
      refine kg_0_7 hC w7 f59 dX7_without_84 rfl (by decide) (by decide) ?_
      refine kw_iload_n hC dX7_without_87 rfl 4 rfl ?_
      have hz : (ups S 1 8 1 0) 1 8 1 = 0 := ups_s _ _ _ _ _
      refine kw_callV hC (c_X7_store hD (by omega) (by omega) (by omega) (by omega) (by omega) (by omega)) gX7_without_X7_store ⟨_, rfl⟩ rfl (by decide) (by decide) rfl ⟨rfl, rfl⟩ 2 (by decide +kernel) ⟨by decide, by decide⟩ rfl rfl (Nat.le_of_ble_eq_true rfl) dX7_without_88 rfl (kd_ie ?_)
      refine kw_chi (z' := 0) hz ?_
      exact hR.1 rfl _ _ _ _ dX7_without_91 ⟨_, rfl, by unfold q_2; (repeat' split) <;> omega, (by repeat (first | exact sM_rfl _ | exact hM | refine sM_up (by decide) ?_ | refine sM_cp (by decide) ?_ | refine sM_tk ?_ | refine sM_ap ?_ | refine sM_an ?_ | refine sM_fi (by decide) ?_ | refine sM_kp ?_ | refine sM_wz ?_))⟩
    · refine kw_iconst hC dX7_without_14 rfl ?_
      exact hR.1 rfl _ _ _ _ dX7_without_15 ⟨_, rfl, by unfold q_2; (repeat' split) <;> omega, (by repeat (first | exact sM_rfl _ | exact hM | refine sM_up (by decide) ?_ | refine sM_cp (by decide) ?_ | refine sM_tk ?_ | refine sM_ap ?_ | refine sM_an ?_ | refine sM_fi (by decide) ?_ | refine sM_kp ?_ | refine sM_wz ?_))⟩

set_option maxHeartbeats 4000000 in
set_option maxRecDepth 100000 in
/-- on a new object -/
theorem c1_X7_cut {g : wG} (hD : wD g) {S : wSt} {a b : Int} (ha : -2147483648 ≤ a ∧ a ≤ 2147483647) (hb : -2147483648 ≤ b ∧ b ≤ 2147483647) (hF : nC S) (l : Launch) : Kt l yX7_cut wsX7_cut ({ frames := 1, cells := 0, slots := 0, locals := 21 } : Room) g S [vr g 0 0, vi a, vi b] (pI (fun r S' => r = (-1) ∧ sM S S')) := by
  refine Kt.of (cc := cX7_cut) (nL := 4) (ret := (some .int)) (own := RX7) rfl hD (by decide) rfl (Nat.le_of_ble_eq_true rfl) ⟨rfl, rfl⟩ ?_
  intro E hC hR
  have f25 : Cond.fieldLink RX7 25 "MirrorBench" "slots" "[LMirrorBench$Word;" ∈ wsX7_cut := by decide +kernel
  have w7 : ∀ w ∈ wsX70, w ∈ wsX7_cut := by decide +kernel
  show Wk E g 4 S 0 [(0, vr g 0 0), (1, vi a), (2, vi b)] []
  obtain ⟨hm, hw, hlf, ⟨hh1, hh2⟩, ⟨hr1, hr2, hr3⟩, ⟨hf1, hf2, hf3⟩⟩ := hF
  refine kw_iload_n hC dX7_cut_0 rfl 1 rfl ?_
  refine kw_callS hC (c_X7_isSlot hD (by omega)) gX7_cut_X7_isSlot rfl ⟨rfl, rfl⟩ 1 (by decide +kernel) ⟨by decide, by decide⟩ rfl rfl (Nat.le_of_ble_eq_true rfl) dX7_cut_1 rfl (kd_ie ?_)
  refine kw_ifeq_b (tgt := 20) hC dX7_cut_4 rfl (by decide) ⟨fun c4 => ?_, fun c4 => ?_⟩
  · refine kw_iconst hC dX7_cut_20 rfl ?_
    exact hR.1 rfl _ _ _ _ dX7_cut_21 ⟨_, rfl, rfl, (by repeat (first | exact sM_rfl _ | exact hM | refine sM_up (by decide) ?_ | refine sM_cp (by decide) ?_ | refine sM_tk ?_ | refine sM_ap ?_ | refine sM_an ?_ | refine sM_fi (by decide) ?_ | refine sM_kp ?_ | refine sM_wz ?_))⟩
  · have hwa := hw a (by omega) (by omega)
    refine kw_aload_n hC dX7_cut_7 rfl 0 rfl ?_
    refine kg_0_2 hC w7 f25 dX7_cut_8 rfl (by decide) (by decide) ?_
    refine kw_iload_n hC dX7_cut_11 rfl 1 rfl ?_
    refine ka_20 hC dX7_cut_12 rfl (by decide) (by decide) (by omega) (by omega) ?_
    refine kw_iload_n hC dX7_cut_13 rfl 2 rfl ?_
    refine kw_callV hC (c_X6_hasTwoFrom hD (by omega) (by omega) (by omega) (by omega) (by omega)) gX7_cut_X6_hasTwoFrom ⟨_, rfl⟩ rfl (by omega) (show (_ : Int) < 12 by omega) rfl ⟨rfl, rfl⟩ 1 (by decide +kernel) ⟨by decide, by decide⟩ rfl rfl (Nat.le_of_ble_eq_true rfl) dX7_cut_14 rfl (kd_ie ?_)
    refine kw_ifne_b (tgt := 22) hC dX7_cut_17 rfl (by decide) ⟨fun c17 => False.elim (by omega), fun c17 => ?_⟩
    refine kw_iconst hC dX7_cut_20 rfl ?_
    exact hR.1 rfl _ _ _ _ dX7_cut_21 ⟨_, rfl, rfl, (by repeat (first | exact sM_rfl _ | exact hM | refine sM_up (by decide) ?_ | refine sM_cp (by decide) ?_ | refine sM_tk ?_ | refine sM_ap ?_ | refine sM_an ?_ | refine sM_fi (by decide) ?_ | refine sM_kp ?_ | refine sM_wz ?_))⟩

set_option maxHeartbeats 4000000 in
set_option maxRecDepth 100000 in
/-- on a new object -/
theorem c1_X7_change {g : wG} (hD : wD g) {S : wSt} {a b : Int} (ha : -2147483648 ≤ a ∧ a ≤ 2147483647) (hb : -2147483648 ≤ b ∧ b ≤ 2147483647) (hF : nC S) (l : Launch) : Kt l yX7_change wsX7_change ({ frames := 1, cells := 0, slots := 0, locals := 21 } : Room) g S [vr g 0 0, vi a, vi b] (pI (fun r S' => r = (-1) ∧ sM S S')) := by
  refine Kt.of (cc := cX7_change) (nL := 8) (ret := (some .int)) (own := RX7) rfl hD (by decide) rfl (Nat.le_of_ble_eq_true rfl) ⟨rfl, rfl⟩ ?_
  intro E hC hR
  have f25 : Cond.fieldLink RX7 25 "MirrorBench" "slots" "[LMirrorBench$Word;" ∈ wsX7_change := by decide +kernel
  have w7 : ∀ w ∈ wsX70, w ∈ wsX7_change := by decide +kernel
  show Wk E g 8 S 0 [(0, vr g 0 0), (1, vi a), (2, vi b)] []
  obtain ⟨hm, hw, hlf, ⟨hh1, hh2⟩, ⟨hr1, hr2, hr3⟩, ⟨hf1, hf2, hf3⟩⟩ := hF
  refine kw_iload_n hC dX7_change_0 rfl 1 rfl ?_
  refine kw_callS hC (c_X7_isSlot hD (by omega)) gX7_change_X7_isSlot rfl ⟨rfl, rfl⟩ 1 (by decide +kernel) ⟨by decide, by decide⟩ rfl rfl (Nat.le_of_ble_eq_true rfl) dX7_change_1 rfl (kd_ie ?_)
  refine kw_ifeq_b (tgt := 20) hC dX7_change_4 rfl (by decide) ⟨fun c4 => ?_, fun c4 => ?_⟩
  · refine kw_iconst hC dX7_change_20 rfl ?_
    exact hR.1 rfl _ _ _ _ dX7_change_21 ⟨_, rfl, rfl, (by repeat (first | exact sM_rfl _ | exact hM | refine sM_up (by decide) ?_ | refine sM_cp (by decide) ?_ | refine sM_tk ?_ | refine sM_ap ?_ | refine sM_an ?_ | refine sM_fi (by decide) ?_ | refine sM_kp ?_ | refine sM_wz ?_))⟩
  · have hwa := hw a (by omega) (by omega)
    refine kw_aload_n hC dX7_change_7 rfl 0 rfl ?_
    refine kg_0_2 hC w7 f25 dX7_change_8 rfl (by decide) (by decide) ?_
    refine kw_iload_n hC dX7_change_11 rfl 1 rfl ?_
    refine ka_20 hC dX7_change_12 rfl (by decide) (by decide) (by omega) (by omega) ?_
    refine kw_iload_n hC dX7_change_13 rfl 2 rfl ?_
    refine kw_callV hC (c_X6_hasTwoFrom hD (by omega) (by omega) (by omega) (by omega) (by omega)) gX7_change_X6_hasTwoFrom ⟨_, rfl⟩ rfl (by omega) (show (_ : Int) < 12 by omega) rfl ⟨rfl, rfl⟩ 1 (by decide +kernel) ⟨by decide, by decide⟩ rfl rfl (Nat.le_of_ble_eq_true rfl) dX7_change_14 rfl (kd_ie ?_)
    refine kw_ifne_b (tgt := 22) hC dX7_change_17 rfl (by decide) ⟨fun c17 => False.elim (by omega), fun c17 => ?_⟩
    refine kw_iconst hC dX7_change_20 rfl ?_
    exact hR.1 rfl _ _ _ _ dX7_change_21 ⟨_, rfl, rfl, (by repeat (first | exact sM_rfl _ | exact hM | refine sM_up (by decide) ?_ | refine sM_cp (by decide) ?_ | refine sM_tk ?_ | refine sM_ap ?_ | refine sM_an ?_ | refine sM_fi (by decide) ?_ | refine sM_kp ?_ | refine sM_wz ?_))⟩

set_option maxHeartbeats 4000000 in
set_option maxRecDepth 100000 in
/-- on a new object -/
theorem c1_X7_shorten {g : wG} (hD : wD g) {S : wSt} {a b : Int} (ha : -2147483648 ≤ a ∧ a ≤ 2147483647) (hb : -2147483648 ≤ b ∧ b ≤ 2147483647) (hF : nC S) (l : Launch) : Kt l yX7_shorten wsX7_shorten ({ frames := 3, cells := 0, slots := 0, locals := 69 } : Room) g S [vr g 0 0, vi a, vi b] (pI (fun r S' => r = q_2 a b ∧ sM S S')) := by
  refine Kt.of (cc := cX7_shorten) (nL := 3) (ret := (some .int)) (own := RX7) rfl hD (by decide) rfl (Nat.le_of_ble_eq_true rfl) ⟨rfl, rfl⟩ ?_
  intro E hC hR
  have f25 : Cond.fieldLink RX7 25 "MirrorBench" "slots" "[LMirrorBench$Word;" ∈ wsX7_shorten := by decide +kernel
  have f40 : Cond.fieldLink RX7 40 "MirrorBench" "shortener" "LMirrorBench$Shortener;" ∈ wsX7_shorten := by decide +kernel
  have f59 : Cond.fieldLink RX7 59 "MirrorBench" "made" "LMirrorBench$Word;" ∈ wsX7_shorten := by decide +kernel
  have w7 : ∀ w ∈ wsX70, w ∈ wsX7_shorten := by decide +kernel
  show Wk E g 3 S 0 [(0, vr g 0 0), (1, vi a), (2, vi b)] []
  obtain ⟨hm, hw, hlf, ⟨hh1, hh2⟩, ⟨hr1, hr2, hr3⟩, ⟨hf1, hf2, hf3⟩⟩ := hF
  refine kw_iload_n hC dX7_shorten_0 rfl 1 rfl ?_
  refine kw_callS hC (c_X7_isSlot hD (by omega)) gX7_shorten_X7_isSlot rfl ⟨rfl, rfl⟩ 1 (by decide +kernel) ⟨by decide, by decide⟩ rfl rfl (Nat.le_of_ble_eq_true rfl) dX7_shorten_1 rfl (kd_ie ?_)
  refine kw_ifeq_b (tgt := 14) hC dX7_shorten_4 rfl (by decide) ⟨fun c4 => ?_, fun c4 => ?_⟩
  · refine kw_iconst hC dX7_shorten_14 rfl ?_
    exact hR.1 rfl _ _ _ _ dX7_shorten_15 ⟨_, rfl, by unfold q_2; (repeat' split) <;> omega, (by repeat (first | exact sM_rfl _ | exact hM | refine sM_up (by decide) ?_ | refine sM_cp (by decide) ?_ | refine sM_tk ?_ | refine sM_ap ?_ | refine sM_an ?_ | refine sM_fi (by decide) ?_ | refine sM_kp ?_ | refine sM_wz ?_))⟩
  · refine kw_iload_n hC dX7_shorten_7 rfl 2 rfl ?_
    refine kw_callS hC (c_X7_isSlot hD (by omega)) gX7_shorten_X7_isSlot rfl ⟨rfl, rfl⟩ 1 (by decide +kernel) ⟨by decide, by decide⟩ rfl rfl (Nat.le_of_ble_eq_true rfl) dX7_shorten_8 rfl (kd_ie ?_)
    refine kw_ifne_b (tgt := 16) hC dX7_shorten_11 rfl (by decide) ⟨fun c11 => ?_, fun c11 => ?_⟩
    · have hwa := hw a (by omega) (by omega)
      refine kw_aload_n hC dX7_shorten_16 rfl 0 rfl ?_
      refine kg_0_4 hC w7 f40 dX7_shorten_17 rfl (by decide) (by decide) ?_
      refine kw_aload_n hC dX7_shorten_20 rfl 0 rfl ?_
      refine kg_0_2 hC w7 f25 dX7_shorten_21 rfl (by decide) (by decide) ?_
      refine kw_iload_n hC dX7_shorten_24 rfl 1 rfl ?_
      refine ka_20 hC dX7_shorten_25 rfl (by decide) (by decide) (by omega) (by omega) ?_
      refine kw_aload_n hC dX7_shorten_26 rfl 0 rfl ?_
      refine kg_0_7 hC w7 f59 dX7_shorten_27 rfl (by decide) (by decide) ?_
      refine kw_callV hC (c1_X5_makeShort hD (by omega) (by omega) (by omega) (by omega) (by first | exact hwa | exact hwb | rfl)) gX7_shorten_X5_makeShort ⟨_, rfl⟩ rfl (by decide) (by decide) rfl ⟨rfl, rfl⟩ 2 (by decide +kernel) ⟨by decide, by decide⟩ rfl rfl (Nat.le_of_ble_eq_true rfl) dX7_shorten_30 rfl (kd_ie ?_)
      have hz : (ups S 1 8 1 0) 1 8 1 = 0 := ups_s _ _ _ _ _
      refine kw_ifeq_b (tgt := 48) hC dX7_shorten_33 rfl (by decide) ⟨fun c33 => False.elim (by exact c33 trivial), fun c33 => ?_⟩
      refine kw_aload_n hC dX7_shorten_36 rfl 0 rfl ?_
      refine kw_aload_n hC dX7_shorten_37 rfl 0 rfl ?_
      refine kg_0_7 hC w7 f59 dX7_shorten_38 rfl (by decide) (by decide) ?_
      refine kw_iload_n hC dX7_shorten_41 rfl 2 rfl ?_
      refine kw_callV hC (c_X7_store hD (by omega) (by omega) (by omega) (by omega) (by omega) (by omega)) gX7_shorten_X7_store ⟨_, rfl⟩ rfl (by decide) (by decide) rfl ⟨rfl, rfl⟩ 2 (by decide +kernel) ⟨by decide, by decide⟩ rfl rfl (Nat.le_of_ble_eq_true rfl) dX7_shorten_42 rfl (kd_ie ?_)
      refine kw_chi (z' := 0) hz ?_
      refine kw_goto (tgt := 50) hC dX7_shorten_45 rfl (by decide) ?_
      exact hR.1 rfl _ _ _ _ dX7_shorten_50 ⟨_, rfl, by unfold q_2; (repeat' split) <;> omega, (by repeat (first | exact sM_rfl _ | exact hM | refine sM_up (by decide) ?_ | refine sM_cp (by decide) ?_ | refine sM_tk ?_ | refine sM_ap ?_ | refine sM_an ?_ | refine sM_fi (by decide) ?_ | refine sM_kp ?_ | refine sM_wz ?_))⟩
    · refine kw_iconst hC dX7_shorten_14 rfl ?_
      exact hR.1 rfl _ _ _ _ dX7_shorten_15 ⟨_, rfl, by unfold q_2; (repeat' split) <;> omega, (by repeat (first | exact sM_rfl _ | exact hM | refine sM_up (by decide) ?_ | refine sM_cp (by decide) ?_ | refine sM_tk ?_ | refine sM_ap ?_ | refine sM_an ?_ | refine sM_fi (by decide) ?_ | refine sM_kp ?_ | refine sM_wz ?_))⟩

set_option maxHeartbeats 4000000 in
set_option maxRecDepth 100000 in
/-- on a new object -/
theorem c1_X7_form {g : wG} (hD : wD g) {S : wSt} {a b : Int} (ha : -2147483648 ≤ a ∧ a ≤ 2147483647) (hb : -2147483648 ≤ b ∧ b ≤ 2147483647) (hF : nC S) (l : Launch) : Kt l yX7_form wsX7_form ({ frames := 3, cells := 0, slots := 0, locals := 69 } : Room) g S [vr g 0 0, vi a, vi b] (pI (fun r S' => r = q_2 a b ∧ sM S S')) := by
  refine Kt.of (cc := cX7_form) (nL := 3) (ret := (some .int)) (own := RX7) rfl hD (by decide) rfl (Nat.le_of_ble_eq_true rfl) ⟨rfl, rfl⟩ ?_
  intro E hC hR
  have f25 : Cond.fieldLink RX7 25 "MirrorBench" "slots" "[LMirrorBench$Word;" ∈ wsX7_form := by decide +kernel
  have f40 : Cond.fieldLink RX7 40 "MirrorBench" "shortener" "LMirrorBench$Shortener;" ∈ wsX7_form := by decide +kernel
  have f59 : Cond.fieldLink RX7 59 "MirrorBench" "made" "LMirrorBench$Word;" ∈ wsX7_form := by decide +kernel
  have w7 : ∀ w ∈ wsX70, w ∈ wsX7_form := by decide +kernel
  show Wk E g 3 S 0 [(0, vr g 0 0), (1, vi a), (2, vi b)] []
  obtain ⟨hm, hw, hlf, ⟨hh1, hh2⟩, ⟨hr1, hr2, hr3⟩, ⟨hf1, hf2, hf3⟩⟩ := hF
  refine kw_iload_n hC dX7_form_0 rfl 1 rfl ?_
  refine kw_callS hC (c_X7_isSlot hD (by omega)) gX7_form_X7_isSlot rfl ⟨rfl, rfl⟩ 1 (by decide +kernel) ⟨by decide, by decide⟩ rfl rfl (Nat.le_of_ble_eq_true rfl) dX7_form_1 rfl (kd_ie ?_)
  refine kw_ifeq_b (tgt := 14) hC dX7_form_4 rfl (by decide) ⟨fun c4 => ?_, fun c4 => ?_⟩
  · refine kw_iconst hC dX7_form_14 rfl ?_
    exact hR.1 rfl _ _ _ _ dX7_form_15 ⟨_, rfl, by unfold q_2; (repeat' split) <;> omega, (by repeat (first | exact sM_rfl _ | exact hM | refine sM_up (by decide) ?_ | refine sM_cp (by decide) ?_ | refine sM_tk ?_ | refine sM_ap ?_ | refine sM_an ?_ | refine sM_fi (by decide) ?_ | refine sM_kp ?_ | refine sM_wz ?_))⟩
  · refine kw_iload_n hC dX7_form_7 rfl 2 rfl ?_
    refine kw_callS hC (c_X7_isSlot hD (by omega)) gX7_form_X7_isSlot rfl ⟨rfl, rfl⟩ 1 (by decide +kernel) ⟨by decide, by decide⟩ rfl rfl (Nat.le_of_ble_eq_true rfl) dX7_form_8 rfl (kd_ie ?_)
    refine kw_ifne_b (tgt := 16) hC dX7_form_11 rfl (by decide) ⟨fun c11 => ?_, fun c11 => ?_⟩
    · have hwa := hw a (by omega) (by omega)
      refine kw_aload_n hC dX7_form_16 rfl 0 rfl ?_
      refine kg_0_4 hC w7 f40 dX7_form_17 rfl (by decide) (by decide) ?_
      refine kw_aload_n hC dX7_form_20 rfl 0 rfl ?_
      refine kg_0_2 hC w7 f25 dX7_form_21 rfl (by decide) (by decide) ?_
      refine kw_iload_n hC dX7_form_24 rfl 1 rfl ?_
      refine ka_20 hC dX7_form_25 rfl (by decide) (by decide) (by omega) (by omega) ?_
      refine kw_aload_n hC dX7_form_26 rfl 0 rfl ?_
      refine kg_0_7 hC w7 f59 dX7_form_27 rfl (by decide) (by decide) ?_
      refine kw_callV hC (c1_X5_makeForm hD (by omega) (by omega) (by omega) (by omega) (by first | exact hwa | exact hwb | rfl)) gX7_form_X5_makeForm ⟨_, rfl⟩ rfl (by decide) (by decide) rfl ⟨rfl, rfl⟩ 2 (by decide +kernel) ⟨by decide, by decide⟩ rfl rfl (Nat.le_of_ble_eq_true rfl) dX7_form_30 rfl (kd_ie ?_)
      have hz : (ups (ups S 1 11 1 0) 1 8 1 0) 1 8 1 = 0 := ups_s _ _ _ _ _
      refine kw_ifeq_b (tgt := 48) hC dX7_form_33 rfl (by decide) ⟨fun c33 => False.elim (by exact c33 trivial), fun c33 => ?_⟩
      refine kw_aload_n hC dX7_form_36 rfl 0 rfl ?_
      refine kw_aload_n hC dX7_form_37 rfl 0 rfl ?_
      refine kg_0_7 hC w7 f59 dX7_form_38 rfl (by decide) (by decide) ?_
      refine kw_iload_n hC dX7_form_41 rfl 2 rfl ?_
      refine kw_callV hC (c_X7_store hD (by omega) (by omega) (by omega) (by omega) (by omega) (by omega)) gX7_form_X7_store ⟨_, rfl⟩ rfl (by decide) (by decide) rfl ⟨rfl, rfl⟩ 2 (by decide +kernel) ⟨by decide, by decide⟩ rfl rfl (Nat.le_of_ble_eq_true rfl) dX7_form_42 rfl (kd_ie ?_)
      refine kw_chi (z' := 0) hz ?_
      refine kw_goto (tgt := 50) hC dX7_form_45 rfl (by decide) ?_
      exact hR.1 rfl _ _ _ _ dX7_form_50 ⟨_, rfl, by unfold q_2; (repeat' split) <;> omega, (by repeat (first | exact sM_rfl _ | exact hM | refine sM_up (by decide) ?_ | refine sM_cp (by decide) ?_ | refine sM_tk ?_ | refine sM_ap ?_ | refine sM_an ?_ | refine sM_fi (by decide) ?_ | refine sM_kp ?_ | refine sM_wz ?_))⟩
    · refine kw_iconst hC dX7_form_14 rfl ?_
      exact hR.1 rfl _ _ _ _ dX7_form_15 ⟨_, rfl, by unfold q_2; (repeat' split) <;> omega, (by repeat (first | exact sM_rfl _ | exact hM | refine sM_up (by decide) ?_ | refine sM_cp (by decide) ?_ | refine sM_tk ?_ | refine sM_ap ?_ | refine sM_an ?_ | refine sM_fi (by decide) ?_ | refine sM_kp ?_ | refine sM_wz ?_))⟩

set_option maxHeartbeats 4000000 in
set_option maxRecDepth 100000 in
/-- on a new object -/
theorem c1_X7_same {g : wG} (hD : wD g) {S : wSt} {a b : Int} (ha : -2147483648 ≤ a ∧ a ≤ 2147483647) (hb : -2147483648 ≤ b ∧ b ≤ 2147483647) (hF : nC S) (l : Launch) : Kt l yX7_same wsX7_same ({ frames := 2, cells := 0, slots := 0, locals := 47 } : Room) g S [vr g 0 0, vi a, vi b] (pI (fun r S' => r = q_2o a b ∧ sM S S')) := by
  refine Kt.of (cc := cX7_same) (nL := 3) (ret := (some .int)) (own := RX7) rfl hD (by decide) rfl (Nat.le_of_ble_eq_true rfl) ⟨rfl, rfl⟩ ?_
  intro E hC hR
  have f25 : Cond.fieldLink RX7 25 "MirrorBench" "slots" "[LMirrorBench$Word;" ∈ wsX7_same := by decide +kernel
  have f40 : Cond.fieldLink RX7 40 "MirrorBench" "shortener" "LMirrorBench$Shortener;" ∈ wsX7_same := by decide +kernel
  have f59 : Cond.fieldLink RX7 59 "MirrorBench" "made" "LMirrorBench$Word;" ∈ wsX7_same := by decide +kernel
  have f63 : Cond.fieldLink RX7 63 "MirrorBench" "other" "LMirrorBench$Word;" ∈ wsX7_same := by decide +kernel
  have w7 : ∀ w ∈ wsX70, w ∈ wsX7_same := by decide +kernel
  show Wk E g 3 S 0 [(0, vr g 0 0), (1, vi a), (2, vi b)] []
  obtain ⟨hm, hw, hlf, ⟨hh1, hh2⟩, ⟨hr1, hr2, hr3⟩, ⟨hf1, hf2, hf3⟩⟩ := hF
  refine kw_iload_n hC dX7_same_0 rfl 1 rfl ?_
  refine kw_callS hC (c_X7_isSlot hD (by omega)) gX7_same_X7_isSlot rfl ⟨rfl, rfl⟩ 1 (by decide +kernel) ⟨by decide, by decide⟩ rfl rfl (Nat.le_of_ble_eq_true rfl) dX7_same_1 rfl (kd_ie ?_)
  refine kw_ifeq_b (tgt := 14) hC dX7_same_4 rfl (by decide) ⟨fun c4 => ?_, fun c4 => ?_⟩
  · refine kw_iconst hC dX7_same_14 rfl ?_
    exact hR.1 rfl _ _ _ _ dX7_same_15 ⟨_, rfl, by unfold q_2o; (repeat' split) <;> omega, (by repeat (first | exact sM_rfl _ | exact hM | refine sM_up (by decide) ?_ | refine sM_cp (by decide) ?_ | refine sM_tk ?_ | refine sM_ap ?_ | refine sM_an ?_ | refine sM_fi (by decide) ?_ | refine sM_kp ?_ | refine sM_wz ?_))⟩
  · refine kw_iload_n hC dX7_same_7 rfl 2 rfl ?_
    refine kw_callS hC (c_X7_isSlot hD (by omega)) gX7_same_X7_isSlot rfl ⟨rfl, rfl⟩ 1 (by decide +kernel) ⟨by decide, by decide⟩ rfl rfl (Nat.le_of_ble_eq_true rfl) dX7_same_8 rfl (kd_ie ?_)
    refine kw_ifne_b (tgt := 16) hC dX7_same_11 rfl (by decide) ⟨fun c11 => ?_, fun c11 => ?_⟩
    · have hwa := hw a (by omega) (by omega)
      have hwb := hw b (by omega) (by omega)
      refine kw_aload_n hC dX7_same_16 rfl 0 rfl ?_
      refine kg_0_4 hC w7 f40 dX7_same_17 rfl (by decide) (by decide) ?_
      refine kw_aload_n hC dX7_same_20 rfl 0 rfl ?_
      refine kg_0_2 hC w7 f25 dX7_same_21 rfl (by decide) (by decide) ?_
      refine kw_iload_n hC dX7_same_24 rfl 1 rfl ?_
      refine ka_20 hC dX7_same_25 rfl (by decide) (by decide) (by omega) (by omega) ?_
      refine kw_aload_n hC dX7_same_26 rfl 0 rfl ?_
      refine kg_0_7 hC w7 f59 dX7_same_27 rfl (by decide) (by decide) ?_
      refine kw_callV hC (c1_X5_makeForm hD (by omega) (by omega) (by omega) (by omega) (by first | exact hwa | exact hwb | rfl)) gX7_same_X5_makeForm ⟨_, rfl⟩ rfl (by decide) (by decide) rfl ⟨rfl, rfl⟩ 2 (by decide +kernel) ⟨by decide, by decide⟩ rfl rfl (Nat.le_of_ble_eq_true rfl) dX7_same_30 rfl (kd_ie ?_)
      refine kw_ifeq_b (tgt := 56) hC dX7_same_33 rfl (by decide) ⟨fun c33 => False.elim (by exact c33 trivial), fun c33 => ?_⟩
      refine kw_aload_n hC dX7_same_36 rfl 0 rfl ?_
      refine kg_0_4 hC w7 f40 dX7_same_37 rfl (by decide) (by decide) ?_
      refine kw_aload_n hC dX7_same_40 rfl 0 rfl ?_
      refine kg_0_2 hC w7 f25 dX7_same_41 rfl (by decide) (by decide) ?_
      refine kw_iload_n hC dX7_same_44 rfl 2 rfl ?_
      refine ka_20 hC dX7_same_45 rfl (by decide) (by decide) (by omega) (by omega) ?_
      refine kw_aload_n hC dX7_same_46 rfl 0 rfl ?_
      refine kg_0_8 hC w7 f63 dX7_same_47 rfl (by decide) (by decide) ?_
      refine kw_callV hC (c1_X5_makeForm hD (by omega) (by omega) (by omega) (by omega) (by rw [ups_n _ _ (by omega), ups_n _ _ (by omega)]; exact hwb)) gX7_same_X5_makeForm ⟨_, rfl⟩ rfl (by decide) (by decide) rfl ⟨rfl, rfl⟩ 2 (by decide +kernel) ⟨by decide, by decide⟩ rfl rfl (Nat.le_of_ble_eq_true rfl) dX7_same_50 rfl (kd_ie ?_)
      refine kw_ifne_b (tgt := 59) hC dX7_same_53 rfl (by decide) ⟨fun c53 => ?_, fun c53 => False.elim (by exact c53 trivial)⟩
      refine kw_aload_n hC dX7_same_59 rfl 0 rfl ?_
      refine kg_0_7 hC w7 f59 dX7_same_60 rfl (by decide) (by decide) ?_
      refine kw_aload_n hC dX7_same_63 rfl 0 rfl ?_
      refine kg_0_8 hC w7 f63 dX7_same_64 rfl (by decide) (by decide) ?_
      refine kw_callV hC (c1_X6_isLike hD (by omega) (by omega) (by omega) (by omega) (by rw [ups_n _ _ (by omega), ups_n _ _ (by omega), ups_s]) (by rw [ups_s])) gX7_same_X6_isLike ⟨_, rfl⟩ rfl (by omega) (show (_ : Int) < 12 by omega) rfl ⟨rfl, rfl⟩ 1 (by decide +kernel) ⟨by decide, by decide⟩ rfl rfl (Nat.le_of_ble_eq_true rfl) dX7_same_67 rfl (kd_ie ?_)
      refine kw_ifeq_b (tgt := 77) hC dX7_same_70 rfl (by decide) ⟨fun c70 => False.elim (by exact c70 trivial), fun c70 => ?_⟩
      refine kw_iconst hC dX7_same_73 rfl ?_
      refine kw_goto (tgt := 78) hC dX7_same_74 rfl (by decide) ?_
      exact hR.1 rfl _ _ _ _ dX7_same_78 ⟨_, rfl, by unfold q_2o; (repeat' split) <;> omega, (by repeat (first | exact sM_rfl _ | exact hM | refine sM_up (by decide) ?_ | refine sM_cp (by decide) ?_ | refine sM_tk ?_ | refine sM_ap ?_ | refine sM_an ?_ | refine sM_fi (by decide) ?_ | refine sM_kp ?_ | refine sM_wz ?_))⟩
    · refine kw_iconst hC dX7_same_14 rfl ?_
      exact hR.1 rfl _ _ _ _ dX7_same_15 ⟨_, rfl, by unfold q_2o; (repeat' split) <;> omega, (by repeat (first | exact sM_rfl _ | exact hM | refine sM_up (by decide) ?_ | refine sM_cp (by decide) ?_ | refine sM_tk ?_ | refine sM_ap ?_ | refine sM_an ?_ | refine sM_fi (by decide) ?_ | refine sM_kp ?_ | refine sM_wz ?_))⟩

set_option maxHeartbeats 4000000 in
set_option maxRecDepth 100000 in
/-- on a new object -/
theorem c1_X7_downs {g : wG} (hD : wD g) {S : wSt} {a b : Int} (ha : -2147483648 ≤ a ∧ a ≤ 2147483647) (hb : -2147483648 ≤ b ∧ b ≤ 2147483647) (hF : nC S) (l : Launch) : Kt l yX7_downs wsX7_downs ({ frames := 1, cells := 0, slots := 0, locals := 24 } : Room) g S [vr g 0 0, vi a, vi b] (pI (fun r S' => r = q_1 a ∧ sM S S')) := by
  refine Kt.of (cc := cX7_downs) (nL := 6) (ret := (some .int)) (own := RX7) rfl hD (by decide) rfl (Nat.le_of_ble_eq_true rfl) ⟨rfl, rfl⟩ ?_
  intro E hC hR
  have f12 : Cond.fieldLink RX7 12 "MirrorBench" "set" "LMirrorBench$Mirrors;" ∈ wsX7_downs := by decide +kernel
  have f25 : Cond.fieldLink RX7 25 "MirrorBench" "slots" "[LMirrorBench$Word;" ∈ wsX7_downs := by decide +kernel
  have f40 : Cond.fieldLink RX7 40 "MirrorBench" "shortener" "LMirrorBench$Shortener;" ∈ wsX7_downs := by decide +kernel
  have f59 : Cond.fieldLink RX7 59 "MirrorBench" "made" "LMirrorBench$Word;" ∈ wsX7_downs := by decide +kernel
  have f83 : Cond.fieldLink RX7 83 "MirrorBench$Mirrors" "size" "I" ∈ wsX7_downs := by decide +kernel
  have w3 : ∀ w ∈ wsX30, w ∈ wsX7_downs := by decide +kernel
  have w7 : ∀ w ∈ wsX70, w ∈ wsX7_downs := by decide +kernel
  show Wk E g 6 S 0 [(0, vr g 0 0), (1, vi a), (2, vi b)] []
  obtain ⟨hm, hw, hlf, ⟨hh1, hh2⟩, ⟨hr1, hr2, hr3⟩, ⟨hf1, hf2, hf3⟩⟩ := hF
  refine kw_iload_n hC dX7_downs_0 rfl 1 rfl ?_
  refine kw_callS hC (c_X7_isSlot hD (by omega)) gX7_downs_X7_isSlot rfl ⟨rfl, rfl⟩ 1 (by decide +kernel) ⟨by decide, by decide⟩ rfl rfl (Nat.le_of_ble_eq_true rfl) dX7_downs_1 rfl (kd_ie ?_)
  refine kw_ifne_b (tgt := 9) hC dX7_downs_4 rfl (by decide) ⟨fun c4 => ?_, fun c4 => ?_⟩
  · have hwa := hw a (by omega) (by omega)
    refine kw_aload_n hC dX7_downs_9 rfl 0 rfl ?_
    refine kg_0_4 hC w7 f40 dX7_downs_10 rfl (by decide) (by decide) ?_
    refine kw_aload_n hC dX7_downs_13 rfl 0 rfl ?_
    refine kg_0_2 hC w7 f25 dX7_downs_14 rfl (by decide) (by decide) ?_
    refine kw_iload_n hC dX7_downs_17 rfl 1 rfl ?_
    refine ka_20 hC dX7_downs_18 rfl (by decide) (by decide) (by omega) (by omega) ?_
    refine kw_aload_n hC dX7_downs_19 rfl 0 rfl ?_
    refine kg_0_7 hC w7 f59 dX7_downs_20 rfl (by decide) (by decide) ?_
    refine kw_callV hC (c1_X5_makeShort hD (by omega) (by omega) (by omega) (by omega) (by first | exact hwa | exact hwb | rfl)) gX7_downs_X5_makeShort ⟨_, rfl⟩ rfl (by decide) (by decide) rfl ⟨rfl, rfl⟩ 2 (by decide +kernel) ⟨by decide, by decide⟩ rfl rfl (Nat.le_of_ble_eq_true rfl) dX7_downs_23 rfl (kd_ie ?_)
    refine kw_ifne_b (tgt := 32) hC dX7_downs_26 rfl (by decide) ⟨fun c26 => ?_, fun c26 => False.elim (by exact c26 trivial)⟩
    refine kw_iconst hC dX7_downs_32 rfl ?_
    refine kw_istore_n (lv' := [(3, _), (0, _), (1, _), (2, _)]) hC dX7_downs_33 rfl (by decide) rfl ?_
    refine kw_iconst hC dX7_downs_34 rfl ?_
    refine kw_istore (lv' := [(4, _), (3, _), (0, _), (1, _), (2, _)]) hC dX7_downs_35 rfl (by decide) rfl ?_
    refine kw_iload hC dX7_downs_37 rfl 0 rfl ?_
    refine kw_aload_n hC dX7_downs_39 rfl 2 rfl ?_
    refine kg_0_0 hC w7 f12 dX7_downs_40 rfl (by decide) (by decide) ?_
    refine kg_3_2 hC w3 f83 dX7_downs_43 rfl (by omega) (by omega) ?_
    refine kw_chi (z' := 0) (by exact hm) ?_
    refine kw_icmp_ge (tgt := 113) hC dX7_downs_46 rfl (by decide) (by omega) (by omega) ⟨fun c46 => ?_, fun c46 => False.elim (by omega)⟩
    refine kw_iload_n hC dX7_downs_113 rfl 1 rfl ?_
    exact hR.1 rfl _ _ _ _ dX7_downs_114 ⟨_, rfl, by unfold q_1; (repeat' split) <;> omega, (by repeat (first | exact sM_rfl _ | exact hM | refine sM_up (by decide) ?_ | refine sM_cp (by decide) ?_ | refine sM_tk ?_ | refine sM_ap ?_ | refine sM_an ?_ | refine sM_fi (by decide) ?_ | refine sM_kp ?_ | refine sM_wz ?_))⟩
  · refine kw_iconst hC dX7_downs_7 rfl ?_
    exact hR.1 rfl _ _ _ _ dX7_downs_8 ⟨_, rfl, by unfold q_1; (repeat' split) <;> omega, (by repeat (first | exact sM_rfl _ | exact hM | refine sM_up (by decide) ?_ | refine sM_cp (by decide) ?_ | refine sM_tk ?_ | refine sM_ap ?_ | refine sM_an ?_ | refine sM_fi (by decide) ?_ | refine sM_kp ?_ | refine sM_wz ?_))⟩

set_option maxHeartbeats 4000000 in
set_option maxRecDepth 100000 in
/-- on a new object -/
theorem c1_X7_does {g : wG} (hD : wD g) {S : wSt} {a b c : Int} (ha : -2147483648 ≤ a ∧ a ≤ 2147483647) (hb : -2147483648 ≤ b ∧ b ≤ 2147483647) (hc : -2147483648 ≤ c ∧ c ≤ 2147483647) (hF : nC S) (l : Launch) : Kt l yX7_does wsX7_does ({ frames := 1, cells := 0, slots := 0, locals := 21 } : Room) g S [vr g 0 0, vi a, vi b, vi c] (pL (fun r S' => r = (-10000000000001) ∧ sM S S')) := by
  refine Kt.of (cc := cX7_does) (nL := 4) (ret := (some .long)) (own := RX7) rfl hD (by decide) rfl (Nat.le_of_ble_eq_true rfl) ⟨rfl, rfl⟩ ?_
  intro E hC hR
  have f12 : Cond.fieldLink RX7 12 "MirrorBench" "set" "LMirrorBench$Mirrors;" ∈ wsX7_does := by decide +kernel
  have l196 : Cond.constantLong RX7 196 (Int64.ofInt (-10000000000001)) ∈ wsX7_does := by decide +kernel
  have w7 : ∀ w ∈ wsX70, w ∈ wsX7_does := by decide +kernel
  show Wk E g 4 S 0 [(0, vr g 0 0), (1, vi a), (2, vi b), (3, vi c)] []
  obtain ⟨hm, hw, hlf, ⟨hh1, hh2⟩, ⟨hr1, hr2, hr3⟩, ⟨hf1, hf2, hf3⟩⟩ := hF
  refine kw_iload_n hC dX7_does_0 rfl 1 rfl ?_
  refine kw_callS hC (c_X7_isSlot hD (by omega)) gX7_does_X7_isSlot rfl ⟨rfl, rfl⟩ 1 (by decide +kernel) ⟨by decide, by decide⟩ rfl rfl (Nat.le_of_ble_eq_true rfl) dX7_does_1 rfl (kd_ie ?_)
  refine kw_ifeq_b (tgt := 29) hC dX7_does_4 rfl (by decide) ⟨fun c4 => ?_, fun c4 => ?_⟩
  · refine kw_ldc2 (z := -10000000000001) hC dX7_does_29 rfl l196 ?_
    exact hR.2.2.1 rfl _ _ _ _ dX7_does_32 ⟨_, rfl, rfl, (by repeat (first | exact sM_rfl _ | exact hM | refine sM_up (by decide) ?_ | refine sM_cp (by decide) ?_ | refine sM_tk ?_ | refine sM_ap ?_ | refine sM_an ?_ | refine sM_fi (by decide) ?_ | refine sM_kp ?_ | refine sM_wz ?_))⟩
  · refine kw_aload_n hC dX7_does_7 rfl 0 rfl ?_
    refine kg_0_0 hC w7 f12 dX7_does_8 rfl (by decide) (by decide) ?_
    refine kw_iload_n hC dX7_does_11 rfl 2 rfl ?_
    refine kw_callV hC (c_X3_has hD (by omega) (by omega) (by omega) (by omega)) gX7_does_X3_has ⟨_, rfl⟩ rfl (by omega) (show (_ : Int) < 17 by omega) rfl ⟨rfl, rfl⟩ 1 (by decide +kernel) ⟨by decide, by decide⟩ rfl rfl (Nat.le_of_ble_eq_true rfl) dX7_does_12 rfl (kd_ie ?_)
    refine kw_ifeq_b (tgt := 29) hC dX7_does_15 rfl (by decide) ⟨fun c15 => ?_, fun c15 => False.elim (by omega)⟩
    refine kw_ldc2 (z := -10000000000001) hC dX7_does_29 rfl l196 ?_
    exact hR.2.2.1 rfl _ _ _ _ dX7_does_32 ⟨_, rfl, rfl, (by repeat (first | exact sM_rfl _ | exact hM | refine sM_up (by decide) ?_ | refine sM_cp (by decide) ?_ | refine sM_tk ?_ | refine sM_ap ?_ | refine sM_an ?_ | refine sM_fi (by decide) ?_ | refine sM_kp ?_ | refine sM_wz ?_))⟩

set_option maxHeartbeats 4000000 in
set_option maxRecDepth 100000 in
/-- on a new object -/
theorem c1_X7_order {g : wG} (hD : wD g) {S : wSt} {a : Int} (ha : -2147483648 ≤ a ∧ a ≤ 2147483647) (hF : nC S) (l : Launch) : Kt l yX7_order wsX7_order ({ frames := 1, cells := 0, slots := 0, locals := 20 } : Room) g S [vr g 0 0, vi a] (pI (fun r S' => r = q_1o a ∧ sM S S')) := by
  refine Kt.of (cc := cX7_order) (nL := 5) (ret := (some .int)) (own := RX7) rfl hD (by decide) rfl (Nat.le_of_ble_eq_true rfl) ⟨rfl, rfl⟩ ?_
  intro E hC hR
  have f12 : Cond.fieldLink RX7 12 "MirrorBench" "set" "LMirrorBench$Mirrors;" ∈ wsX7_order := by decide +kernel
  have f83 : Cond.fieldLink RX7 83 "MirrorBench$Mirrors" "size" "I" ∈ wsX7_order := by decide +kernel
  have w3 : ∀ w ∈ wsX30, w ∈ wsX7_order := by decide +kernel
  have w7 : ∀ w ∈ wsX70, w ∈ wsX7_order := by decide +kernel
  show Wk E g 5 S 0 [(0, vr g 0 0), (1, vi a)] []
  obtain ⟨hm, hw, hlf, ⟨hh1, hh2⟩, ⟨hr1, hr2, hr3⟩, ⟨hf1, hf2, hf3⟩⟩ := hF
  refine kw_iload_n hC dX7_order_0 rfl 1 rfl ?_
  refine kw_callS hC (c_X7_isSlot hD (by omega)) gX7_order_X7_isSlot rfl ⟨rfl, rfl⟩ 1 (by decide +kernel) ⟨by decide, by decide⟩ rfl rfl (Nat.le_of_ble_eq_true rfl) dX7_order_1 rfl (kd_ie ?_)
  refine kw_ifne_b (tgt := 9) hC dX7_order_4 rfl (by decide) ⟨fun c4 => ?_, fun c4 => ?_⟩
  · refine kw_iconst hC dX7_order_9 rfl ?_
    refine kw_istore_n (lv' := [(2, _), (0, _), (1, _)]) hC dX7_order_10 rfl (by decide) rfl ?_
    refine kw_iload_n hC dX7_order_11 rfl 0 rfl ?_
    refine kw_aload_n hC dX7_order_12 rfl 1 rfl ?_
    refine kg_0_0 hC w7 f12 dX7_order_13 rfl (by decide) (by decide) ?_
    refine kg_3_2 hC w3 f83 dX7_order_16 rfl (by omega) (by omega) ?_
    refine kw_chi (z' := 0) (by exact hm) ?_
    refine kw_icmp_ge (tgt := 38) hC dX7_order_19 rfl (by decide) (by omega) (by omega) ⟨fun c19 => ?_, fun c19 => False.elim (by omega)⟩
    refine kw_iconst hC dX7_order_38 rfl ?_
    refine kw_istore_n (lv' := [(2, _), (0, _), (1, _)]) hC dX7_order_39 rfl (by decide) rfl ?_
    refine kw_iload_n hC dX7_order_40 rfl 0 rfl ?_
    refine kw_bipush hC dX7_order_41 rfl (by decide) ?_
    refine kw_icmp_gt (tgt := 134) hC dX7_order_43 rfl (by decide) (by omega) (by omega) ⟨fun c43 => False.elim (by omega), fun c43 => ?_⟩
    refine kw_iconst hC dX7_order_46 rfl ?_
    refine kw_istore_n (lv' := [(3, _), (2, _), (0, _), (1, _)]) hC dX7_order_47 rfl (by decide) rfl ?_
    refine kw_iconst hC dX7_order_48 rfl ?_
    refine kw_istore (lv' := [(4, _), (3, _), (2, _), (0, _), (1, _)]) hC dX7_order_49 rfl (by decide) rfl ?_
    refine kw_iload hC dX7_order_51 rfl 0 rfl ?_
    refine kw_aload_n hC dX7_order_53 rfl 3 rfl ?_
    refine kg_0_0 hC w7 f12 dX7_order_54 rfl (by decide) (by decide) ?_
    refine kg_3_2 hC w3 f83 dX7_order_57 rfl (by omega) (by omega) ?_
    refine kw_chi (z' := 0) (by exact hm) ?_
    refine kw_icmp_ge (tgt := 122) hC dX7_order_60 rfl (by decide) (by omega) (by omega) ⟨fun c60 => ?_, fun c60 => False.elim (by omega)⟩
    refine kw_iload_n hC dX7_order_122 rfl 1 rfl ?_
    refine kw_if_ne (tgt := 128) hC dX7_order_123 rfl (by decide) (by omega) ⟨fun c123 => False.elim (by omega), fun c123 => ?_⟩
    refine kw_iload_n hC dX7_order_126 rfl 2 rfl ?_
    exact hR.1 rfl _ _ _ _ dX7_order_127 ⟨_, rfl, by unfold q_1o; (repeat' split) <;> omega, (by repeat (first | exact sM_rfl _ | exact hM | refine sM_up (by decide) ?_ | refine sM_cp (by decide) ?_ | refine sM_tk ?_ | refine sM_ap ?_ | refine sM_an ?_ | refine sM_fi (by decide) ?_ | refine sM_kp ?_ | refine sM_wz ?_))⟩
  · refine kw_iconst hC dX7_order_7 rfl ?_
    exact hR.1 rfl _ _ _ _ dX7_order_8 ⟨_, rfl, by unfold q_1o; (repeat' split) <;> omega, (by repeat (first | exact sM_rfl _ | exact hM | refine sM_up (by decide) ?_ | refine sM_cp (by decide) ?_ | refine sM_tk ?_ | refine sM_ap ?_ | refine sM_an ?_ | refine sM_fi (by decide) ?_ | refine sM_kp ?_ | refine sM_wz ?_))⟩

set_option maxHeartbeats 4000000 in
set_option maxRecDepth 100000 in
/-- on a new object -/
theorem c1_X7_below {g : wG} (hD : wD g) {S : wSt} {a b : Int} (ha : -2147483648 ≤ a ∧ a ≤ 2147483647) (hb : -2147483648 ≤ b ∧ b ≤ 2147483647) (hF : nC S) (l : Launch) : Kt l yX7_below wsX7_below ({ frames := 1, cells := 0, slots := 0, locals := 24 } : Room) g S [vr g 0 0, vi a, vi b] (pI (fun r S' => r = q_2o a b ∧ sM S S')) := by
  refine Kt.of (cc := cX7_below) (nL := 5) (ret := (some .int)) (own := RX7) rfl hD (by decide) rfl (Nat.le_of_ble_eq_true rfl) ⟨rfl, rfl⟩ ?_
  intro E hC hR
  have f25 : Cond.fieldLink RX7 25 "MirrorBench" "slots" "[LMirrorBench$Word;" ∈ wsX7_below := by decide +kernel
  have f40 : Cond.fieldLink RX7 40 "MirrorBench" "shortener" "LMirrorBench$Shortener;" ∈ wsX7_below := by decide +kernel
  have f59 : Cond.fieldLink RX7 59 "MirrorBench" "made" "LMirrorBench$Word;" ∈ wsX7_below := by decide +kernel
  have f63 : Cond.fieldLink RX7 63 "MirrorBench" "other" "LMirrorBench$Word;" ∈ wsX7_below := by decide +kernel
  have f131 : Cond.fieldLink RX7 131 "MirrorBench$Word" "length" "I" ∈ wsX7_below := by decide +kernel
  have w6 : ∀ w ∈ wsX60, w ∈ wsX7_below := by decide +kernel
  have w7 : ∀ w ∈ wsX70, w ∈ wsX7_below := by decide +kernel
  show Wk E g 5 S 0 [(0, vr g 0 0), (1, vi a), (2, vi b)] []
  obtain ⟨hm, hw, hlf, ⟨hh1, hh2⟩, ⟨hr1, hr2, hr3⟩, ⟨hf1, hf2, hf3⟩⟩ := hF
  refine kw_iload_n hC dX7_below_0 rfl 1 rfl ?_
  refine kw_callS hC (c_X7_isSlot hD (by omega)) gX7_below_X7_isSlot rfl ⟨rfl, rfl⟩ 1 (by decide +kernel) ⟨by decide, by decide⟩ rfl rfl (Nat.le_of_ble_eq_true rfl) dX7_below_1 rfl (kd_ie ?_)
  refine kw_ifeq_b (tgt := 14) hC dX7_below_4 rfl (by decide) ⟨fun c4 => ?_, fun c4 => ?_⟩
  · refine kw_iconst hC dX7_below_14 rfl ?_
    exact hR.1 rfl _ _ _ _ dX7_below_15 ⟨_, rfl, by unfold q_2o; (repeat' split) <;> omega, (by repeat (first | exact sM_rfl _ | exact hM | refine sM_up (by decide) ?_ | refine sM_cp (by decide) ?_ | refine sM_tk ?_ | refine sM_ap ?_ | refine sM_an ?_ | refine sM_fi (by decide) ?_ | refine sM_kp ?_ | refine sM_wz ?_))⟩
  · refine kw_iload_n hC dX7_below_7 rfl 2 rfl ?_
    refine kw_callS hC (c_X7_isSlot hD (by omega)) gX7_below_X7_isSlot rfl ⟨rfl, rfl⟩ 1 (by decide +kernel) ⟨by decide, by decide⟩ rfl rfl (Nat.le_of_ble_eq_true rfl) dX7_below_8 rfl (kd_ie ?_)
    refine kw_ifne_b (tgt := 16) hC dX7_below_11 rfl (by decide) ⟨fun c11 => ?_, fun c11 => ?_⟩
    · have hwa := hw a (by omega) (by omega)
      have hwb := hw b (by omega) (by omega)
      refine kw_aload_n hC dX7_below_16 rfl 0 rfl ?_
      refine kg_0_4 hC w7 f40 dX7_below_17 rfl (by decide) (by decide) ?_
      refine kw_aload_n hC dX7_below_20 rfl 0 rfl ?_
      refine kg_0_2 hC w7 f25 dX7_below_21 rfl (by decide) (by decide) ?_
      refine kw_iload_n hC dX7_below_24 rfl 1 rfl ?_
      refine ka_20 hC dX7_below_25 rfl (by decide) (by decide) (by omega) (by omega) ?_
      refine kw_aload_n hC dX7_below_26 rfl 0 rfl ?_
      refine kg_0_7 hC w7 f59 dX7_below_27 rfl (by decide) (by decide) ?_
      refine kw_callV hC (c1_X5_makeShort hD (by omega) (by omega) (by omega) (by omega) (by first | exact hwa | exact hwb | rfl)) gX7_below_X5_makeShort ⟨_, rfl⟩ rfl (by decide) (by decide) rfl ⟨rfl, rfl⟩ 2 (by decide +kernel) ⟨by decide, by decide⟩ rfl rfl (Nat.le_of_ble_eq_true rfl) dX7_below_30 rfl (kd_ie ?_)
      refine kw_ifeq_b (tgt := 56) hC dX7_below_33 rfl (by decide) ⟨fun c33 => False.elim (by exact c33 trivial), fun c33 => ?_⟩
      refine kw_aload_n hC dX7_below_36 rfl 0 rfl ?_
      refine kg_0_4 hC w7 f40 dX7_below_37 rfl (by decide) (by decide) ?_
      refine kw_aload_n hC dX7_below_40 rfl 0 rfl ?_
      refine kg_0_2 hC w7 f25 dX7_below_41 rfl (by decide) (by decide) ?_
      refine kw_iload_n hC dX7_below_44 rfl 2 rfl ?_
      refine ka_20 hC dX7_below_45 rfl (by decide) (by decide) (by omega) (by omega) ?_
      refine kw_aload_n hC dX7_below_46 rfl 0 rfl ?_
      refine kg_0_8 hC w7 f63 dX7_below_47 rfl (by decide) (by decide) ?_
      refine kw_callV hC (c1_X5_makeShort hD (by omega) (by omega) (by omega) (by omega) (by rw [ups_n _ _ (by omega)]; exact hwb)) gX7_below_X5_makeShort ⟨_, rfl⟩ rfl (by decide) (by decide) rfl ⟨rfl, rfl⟩ 2 (by decide +kernel) ⟨by decide, by decide⟩ rfl rfl (Nat.le_of_ble_eq_true rfl) dX7_below_50 rfl (kd_ie ?_)
      refine kw_ifne_b (tgt := 59) hC dX7_below_53 rfl (by decide) ⟨fun c53 => ?_, fun c53 => False.elim (by exact c53 trivial)⟩
      refine kw_aload_n hC dX7_below_59 rfl 0 rfl ?_
      refine kg_0_8 hC w7 f63 dX7_below_60 rfl (by decide) (by decide) ?_
      refine kg_1_1 hC w6 f131 dX7_below_63 rfl (by omega) (by omega) ?_
      refine kw_chi (z' := 0) (ups_s _ _ _ _ _) ?_
      refine kw_iconst hC dX7_below_66 rfl ?_
      refine kw_isub hC dX7_below_67 rfl ?_
      refine kw_istore_n (lv' := [(3, _), (0, _), (1, _), (2, _)]) hC dX7_below_68 rfl (by decide) rfl ?_
      refine kw_iload_n hC dX7_below_69 rfl 0 rfl ?_
      refine kw_if_lt (tgt := 126) hC dX7_below_70 rfl (by decide) (by omega) ⟨fun c70 => ?_, fun c70 => False.elim (by omega)⟩
      refine kw_aload_n hC dX7_below_126 rfl 1 rfl ?_
      refine kg_0_7 hC w7 f59 dX7_below_127 rfl (by decide) (by decide) ?_
      refine kg_1_1 hC w6 f131 dX7_below_130 rfl (by omega) (by omega) ?_
      refine kw_chi (z' := 0) (by rw [ups_n _ _ (by omega), ups_s]) ?_
      refine kw_if_ne (tgt := 140) hC dX7_below_133 rfl (by decide) (by omega) ⟨fun c133 => False.elim (by omega), fun c133 => ?_⟩
      refine kw_iconst hC dX7_below_136 rfl ?_
      refine kw_goto (tgt := 141) hC dX7_below_137 rfl (by decide) ?_
      exact hR.1 rfl _ _ _ _ dX7_below_141 ⟨_, rfl, by unfold q_2o; (repeat' split) <;> omega, (by repeat (first | exact sM_rfl _ | exact hM | refine sM_up (by decide) ?_ | refine sM_cp (by decide) ?_ | refine sM_tk ?_ | refine sM_ap ?_ | refine sM_an ?_ | refine sM_fi (by decide) ?_ | refine sM_kp ?_ | refine sM_wz ?_))⟩
    · refine kw_iconst hC dX7_below_14 rfl ?_
      exact hR.1 rfl _ _ _ _ dX7_below_15 ⟨_, rfl, by unfold q_2o; (repeat' split) <;> omega, (by repeat (first | exact sM_rfl _ | exact hM | refine sM_up (by decide) ?_ | refine sM_cp (by decide) ?_ | refine sM_tk ?_ | refine sM_ap ?_ | refine sM_an ?_ | refine sM_fi (by decide) ?_ | refine sM_kp ?_ | refine sM_wz ?_))⟩

set_option maxHeartbeats 4000000 in
set_option maxRecDepth 100000 in
/-- on a new object -/
theorem c1_X7_roots {g : wG} (hD : wD g) {S : wSt} {a : Int} (ha : -2147483648 ≤ a ∧ a ≤ 2147483647) (hF : nC S) (l : Launch) : Kt l yX7_roots wsX7_roots ({ frames := 3, cells := 0, slots := 0, locals := 71 } : Room) g S [vr g 0 0, vi a] (pI (fun r S' => r = q_roots a ∧ sM S S')) := by
  refine Kt.of (cc := cX7_roots) (nL := 2) (ret := (some .int)) (own := RX7) rfl hD (by decide) rfl (Nat.le_of_ble_eq_true rfl) ⟨rfl, rfl⟩ ?_
  intro E hC hR
  have f47 : Cond.fieldLink RX7 47 "MirrorBench" "rootList" "LMirrorBench$RootList;" ∈ wsX7_roots := by decide +kernel
  have w7 : ∀ w ∈ wsX70, w ∈ wsX7_roots := by decide +kernel
  show Wk E g 2 S 0 [(0, vr g 0 0), (1, vi a)] []
  obtain ⟨hm, hw, hlf, ⟨hh1, hh2⟩, ⟨hr1, hr2, hr3⟩, ⟨hf1, hf2, hf3⟩⟩ := hF
  refine kw_iload_n hC dX7_roots_0 rfl 1 rfl ?_
  refine kw_iconst hC dX7_roots_1 rfl ?_
  refine kw_icmp_lt (tgt := 11) hC dX7_roots_2 rfl (by decide) (by omega) (by omega) ⟨fun c2 => ?_, fun c2 => ?_⟩
  · refine kw_iconst hC dX7_roots_11 rfl ?_
    exact hR.1 rfl _ _ _ _ dX7_roots_12 ⟨_, rfl, by unfold q_roots; (repeat' split) <;> omega, (by repeat (first | exact sM_rfl _ | exact hM | refine sM_up (by decide) ?_ | refine sM_cp (by decide) ?_ | refine sM_tk ?_ | refine sM_ap ?_ | refine sM_an ?_ | refine sM_fi (by decide) ?_ | refine sM_kp ?_ | refine sM_wz ?_))⟩
  · refine kw_iload_n hC dX7_roots_5 rfl 1 rfl ?_
    refine kw_bipush hC dX7_roots_6 rfl (by decide) ?_
    refine kw_icmp_le (tgt := 13) hC dX7_roots_8 rfl (by decide) (by omega) (by omega) ⟨fun c8 => ?_, fun c8 => ?_⟩
    · refine kw_aload_n hC dX7_roots_13 rfl 0 rfl ?_
      refine kg_0_5 hC w7 f47 dX7_roots_14 rfl (by decide) (by decide) ?_
      refine kw_iload_n hC dX7_roots_17 rfl 1 rfl ?_
      refine kw_callV hC (c1_X4_reaches hD (by omega) (by omega) hm hr1 hr2 hr3) gX7_roots_X4_reaches ⟨_, rfl⟩ rfl (by decide) (by decide) rfl ⟨rfl, rfl⟩ 1 (by decide +kernel) ⟨by decide, by decide⟩ rfl rfl (Nat.le_of_ble_eq_true rfl) dX7_roots_18 rfl (kd_i (fun r S1 hp1 => ?_))
      obtain ⟨rfl, -, -, e3, e6, e7⟩ := hp1
      have hM : sM S S1 := fun k hk => e7 k (by omega) (by omega)
      refine kw_ifeq_b (tgt := 35) hC dX7_roots_21 rfl (by decide) ⟨fun c21 => False.elim (by exact c21 trivial), fun c21 => ?_⟩
      refine kw_aload_n hC dX7_roots_24 rfl 0 rfl ?_
      refine kg_0_5 hC w7 f47 dX7_roots_25 rfl (by decide) (by decide) ?_
      refine kw_iload_n hC dX7_roots_28 rfl 1 rfl ?_
      refine kw_callV hC (c_X4_ofHeight hD (by omega) (by omega)) gX7_roots_X4_ofHeight ⟨_, rfl⟩ rfl (by decide) (by decide) rfl ⟨rfl, rfl⟩ 1 (by decide +kernel) ⟨by decide, by decide⟩ rfl rfl (Nat.le_of_ble_eq_true rfl) dX7_roots_29 rfl (kd_ie ?_)
      refine kw_chi (z' := 0) (by rw [e6 _ (by omega) (by omega), e6 _ (by omega) (by omega)]; rfl) ?_
      refine kw_goto (tgt := 37) hC dX7_roots_32 rfl (by decide) ?_
      exact hR.1 rfl _ _ _ _ dX7_roots_37 ⟨_, rfl, by unfold q_roots; (repeat' split) <;> omega, (by repeat (first | exact sM_rfl _ | exact hM | refine sM_up (by decide) ?_ | refine sM_cp (by decide) ?_ | refine sM_tk ?_ | refine sM_ap ?_ | refine sM_an ?_ | refine sM_fi (by decide) ?_ | refine sM_kp ?_ | refine sM_wz ?_))⟩
    · refine kw_iconst hC dX7_roots_11 rfl ?_
      exact hR.1 rfl _ _ _ _ dX7_roots_12 ⟨_, rfl, by unfold q_roots; (repeat' split) <;> omega, (by repeat (first | exact sM_rfl _ | exact hM | refine sM_up (by decide) ?_ | refine sM_cp (by decide) ?_ | refine sM_tk ?_ | refine sM_ap ?_ | refine sM_an ?_ | refine sM_fi (by decide) ?_ | refine sM_kp ?_ | refine sM_wz ?_))⟩

set_option maxHeartbeats 4000000 in
set_option maxRecDepth 100000 in
/-- on a new object -/
theorem c1_X7_root {g : wG} (hD : wD g) {S : wSt} {a b : Int} (ha : -2147483648 ≤ a ∧ a ≤ 2147483647) (hb : -2147483648 ≤ b ∧ b ≤ 2147483647) (hF : nC S) (l : Launch) : Kt l yX7_root wsX7_root ({ frames := 1, cells := 0, slots := 0, locals := 21 } : Room) g S [vr g 0 0, vi a, vi b] (pI (fun r S' => r = (-1) ∧ sM S S')) := by
  refine Kt.of (cc := cX7_root) (nL := 3) (ret := (some .int)) (own := RX7) rfl hD (by decide) rfl (Nat.le_of_ble_eq_true rfl) ⟨rfl, rfl⟩ ?_
  intro E hC hR
  have f12 : Cond.fieldLink RX7 12 "MirrorBench" "set" "LMirrorBench$Mirrors;" ∈ wsX7_root := by decide +kernel
  have w7 : ∀ w ∈ wsX70, w ∈ wsX7_root := by decide +kernel
  show Wk E g 3 S 0 [(0, vr g 0 0), (1, vi a), (2, vi b)] []
  obtain ⟨hm, hw, hlf, ⟨hh1, hh2⟩, ⟨hr1, hr2, hr3⟩, ⟨hf1, hf2, hf3⟩⟩ := hF
  refine kw_iload_n hC dX7_root_0 rfl 1 rfl ?_
  refine kw_if_lt (tgt := 26) hC dX7_root_1 rfl (by decide) (by omega) ⟨fun c1 => ?_, fun c1 => ?_⟩
  · refine kw_iconst hC dX7_root_26 rfl ?_
    exact hR.1 rfl _ _ _ _ dX7_root_27 ⟨_, rfl, rfl, (by repeat (first | exact sM_rfl _ | exact hM | refine sM_up (by decide) ?_ | refine sM_cp (by decide) ?_ | refine sM_tk ?_ | refine sM_ap ?_ | refine sM_an ?_ | refine sM_fi (by decide) ?_ | refine sM_kp ?_ | refine sM_wz ?_))⟩
  · refine kw_aload_n hC dX7_root_4 rfl 0 rfl ?_
    refine kg_0_0 hC w7 f12 dX7_root_5 rfl (by decide) (by decide) ?_
    refine kw_iload_n hC dX7_root_8 rfl 2 rfl ?_
    refine kw_callV hC (c_X3_has hD (by omega) (by omega) (by omega) (by omega)) gX7_root_X3_has ⟨_, rfl⟩ rfl (by omega) (show (_ : Int) < 17 by omega) rfl ⟨rfl, rfl⟩ 1 (by decide +kernel) ⟨by decide, by decide⟩ rfl rfl (Nat.le_of_ble_eq_true rfl) dX7_root_9 rfl (kd_ie ?_)
    refine kw_ifeq_b (tgt := 26) hC dX7_root_12 rfl (by decide) ⟨fun c12 => ?_, fun c12 => False.elim (by omega)⟩
    refine kw_iconst hC dX7_root_26 rfl ?_
    exact hR.1 rfl _ _ _ _ dX7_root_27 ⟨_, rfl, rfl, (by repeat (first | exact sM_rfl _ | exact hM | refine sM_up (by decide) ?_ | refine sM_cp (by decide) ?_ | refine sM_tk ?_ | refine sM_ap ?_ | refine sM_an ?_ | refine sM_fi (by decide) ?_ | refine sM_kp ?_ | refine sM_wz ?_))⟩

set_option maxHeartbeats 4000000 in
set_option maxRecDepth 100000 in
/-- on a new object -/
theorem c1_X7_ends {g : wG} (hD : wD g) {S : wSt}  (hF : nC S) (l : Launch) : Kt l yX7_ends wsX7_ends ({ frames := 4, cells := 0, slots := 0, locals := 94 } : Room) g S [vr g 0 0] (pI (fun r S' => r = 0 ∧ sM S S')) := by
  refine Kt.of (cc := cX7_ends) (nL := 1) (ret := (some .int)) (own := RX7) rfl hD (by decide) rfl (Nat.le_of_ble_eq_true rfl) ⟨rfl, rfl⟩ ?_
  intro E hC hR
  have f47 : Cond.fieldLink RX7 47 "MirrorBench" "rootList" "LMirrorBench$RootList;" ∈ wsX7_ends := by decide +kernel
  have w7 : ∀ w ∈ wsX70, w ∈ wsX7_ends := by decide +kernel
  show Wk E g 1 S 0 [(0, vr g 0 0)] []
  obtain ⟨hm, hw, hlf, ⟨hh1, hh2⟩, ⟨hr1, hr2, hr3⟩, ⟨hf1, hf2, hf3⟩⟩ := hF
  refine kw_aload_n hC dX7_ends_0 rfl 0 rfl ?_
  refine kg_0_5 hC w7 f47 dX7_ends_1 rfl (by decide) (by decide) ?_
  refine kw_callV hC (c1_X4_countAll hD hm hr1 hr2 hr3) gX7_ends_X4_countAll ⟨_, rfl⟩ rfl (by decide) (by decide) rfl ⟨rfl, rfl⟩ 0 (by decide +kernel) ⟨by decide, by decide⟩ rfl rfl (Nat.le_of_ble_eq_true rfl) dX7_ends_4 rfl (kd_i (fun r S1 hp1 => ?_))
  obtain ⟨rfl, e3, e6, e7⟩ := hp1
  have hM : sM S S1 := fun k hk => e7 k (by omega) (by omega)
  exact hR.1 rfl _ _ _ _ dX7_ends_7 ⟨_, rfl, rfl, (by repeat (first | exact sM_rfl _ | exact hM | refine sM_up (by decide) ?_ | refine sM_cp (by decide) ?_ | refine sM_tk ?_ | refine sM_ap ?_ | refine sM_an ?_ | refine sM_fi (by decide) ?_ | refine sM_kp ?_ | refine sM_wz ?_))⟩

set_option maxHeartbeats 4000000 in
set_option maxRecDepth 100000 in
/-- on a new object -/
theorem c1_X7_count {g : wG} (hD : wD g) {S : wSt}  (hF : nC S) (l : Launch) : Kt l yX7_count wsX7_count ({ frames := 4, cells := 0, slots := 0, locals := 94 } : Room) g S [vr g 0 0] (pL (fun r S' => r = 1 ∧ sM S S')) := by
  refine Kt.of (cc := cX7_count) (nL := 1) (ret := (some .long)) (own := RX7) rfl hD (by decide) rfl (Nat.le_of_ble_eq_true rfl) ⟨rfl, rfl⟩ ?_
  intro E hC hR
  have f47 : Cond.fieldLink RX7 47 "MirrorBench" "rootList" "LMirrorBench$RootList;" ∈ wsX7_count := by decide +kernel
  have w7 : ∀ w ∈ wsX70, w ∈ wsX7_count := by decide +kernel
  show Wk E g 1 S 0 [(0, vr g 0 0)] []
  obtain ⟨hm, hw, hlf, ⟨hh1, hh2⟩, ⟨hr1, hr2, hr3⟩, ⟨hf1, hf2, hf3⟩⟩ := hF
  refine kw_aload_n hC dX7_count_0 rfl 0 rfl ?_
  refine kg_0_5 hC w7 f47 dX7_count_1 rfl (by decide) (by decide) ?_
  refine kw_callV hC (c1_X4_countAll hD hm hr1 hr2 hr3) gX7_count_X4_countAll ⟨_, rfl⟩ rfl (by decide) (by decide) rfl ⟨rfl, rfl⟩ 0 (by decide +kernel) ⟨by decide, by decide⟩ rfl rfl (Nat.le_of_ble_eq_true rfl) dX7_count_4 rfl (kd_i (fun r S1 hp1 => ?_))
  obtain ⟨rfl, e3, e6, e7⟩ := hp1
  have hM : sM S S1 := fun k hk => e7 k (by omega) (by omega)
  refine kw_bipush hC dX7_count_7 rfl (by decide) ?_
  refine kw_icmp_ne (tgt := 18) hC dX7_count_9 rfl (by decide) (by omega) (by omega) ⟨fun c9 => ?_, fun c9 => False.elim (by omega)⟩
  refine kw_aload_n hC dX7_count_18 rfl 0 rfl ?_
  refine kg_0_5 hC w7 f47 dX7_count_19 rfl (by decide) (by decide) ?_
  refine kw_callV hC (c1_X4_countWords hD e6) gX7_count_X4_countWords ⟨_, rfl⟩ rfl (by decide) (by decide) rfl ⟨rfl, rfl⟩ 0 (by decide +kernel) ⟨by decide, by decide⟩ rfl rfl (Nat.le_of_ble_eq_true rfl) dX7_count_22 rfl (kd_le ?_)
  exact hR.2.2.1 rfl _ _ _ _ dX7_count_25 ⟨_, rfl, rfl, (by repeat (first | exact sM_rfl _ | exact hM | refine sM_up (by decide) ?_ | refine sM_cp (by decide) ?_ | refine sM_tk ?_ | refine sM_ap ?_ | refine sM_an ?_ | refine sM_fi (by decide) ?_ | refine sM_kp ?_ | refine sM_wz ?_))⟩

set_option maxHeartbeats 4000000 in
set_option maxRecDepth 100000 in
/-- on a new object -/
theorem c1_X7_longest {g : wG} (hD : wD g) {S : wSt} {a : Int} (ha : -2147483648 ≤ a ∧ a ≤ 2147483647) (hF : nC S) (l : Launch) : Kt l yX7_longest wsX7_longest ({ frames := 4, cells := 0, slots := 0, locals := 94 } : Room) g S [vr g 0 0, vi a] (pI (fun r S' => r = q_1 a ∧ sM S S')) := by
  refine Kt.of (cc := cX7_longest) (nL := 5) (ret := (some .int)) (own := RX7) rfl hD (by decide) rfl (Nat.le_of_ble_eq_true rfl) ⟨rfl, rfl⟩ ?_
  intro E hC hR
  have f47 : Cond.fieldLink RX7 47 "MirrorBench" "rootList" "LMirrorBench$RootList;" ∈ wsX7_longest := by decide +kernel
  have f59 : Cond.fieldLink RX7 59 "MirrorBench" "made" "LMirrorBench$Word;" ∈ wsX7_longest := by decide +kernel
  have f131 : Cond.fieldLink RX7 131 "MirrorBench$Word" "length" "I" ∈ wsX7_longest := by decide +kernel
  have w6 : ∀ w ∈ wsX60, w ∈ wsX7_longest := by decide +kernel
  have w7 : ∀ w ∈ wsX70, w ∈ wsX7_longest := by decide +kernel
  show Wk E g 5 S 0 [(0, vr g 0 0), (1, vi a)] []
  obtain ⟨hm, hw, hlf, ⟨hh1, hh2⟩, ⟨hr1, hr2, hr3⟩, ⟨hf1, hf2, hf3⟩⟩ := hF
  refine kw_iload_n hC dX7_longest_0 rfl 1 rfl ?_
  refine kw_callS hC (c_X7_isSlot hD (by omega)) gX7_longest_X7_isSlot rfl ⟨rfl, rfl⟩ 1 (by decide +kernel) ⟨by decide, by decide⟩ rfl rfl (Nat.le_of_ble_eq_true rfl) dX7_longest_1 rfl (kd_ie ?_)
  refine kw_ifne_b (tgt := 9) hC dX7_longest_4 rfl (by decide) ⟨fun c4 => ?_, fun c4 => ?_⟩
  · refine kw_aload_n hC dX7_longest_9 rfl 0 rfl ?_
    refine kg_0_5 hC w7 f47 dX7_longest_10 rfl (by decide) (by decide) ?_
    refine kw_callV hC (c1_X4_countAll hD hm hr1 hr2 hr3) gX7_longest_X4_countAll ⟨_, rfl⟩ rfl (by decide) (by decide) rfl ⟨rfl, rfl⟩ 0 (by decide +kernel) ⟨by decide, by decide⟩ rfl rfl (Nat.le_of_ble_eq_true rfl) dX7_longest_13 rfl (kd_i (fun r S1 hp1 => ?_))
    obtain ⟨rfl, e3, e6, e7⟩ := hp1
    have hM : sM S S1 := fun k hk => e7 k (by omega) (by omega)
    refine kw_istore_n (lv' := [(2, _), (0, _), (1, _)]) hC dX7_longest_16 rfl (by decide) rfl ?_
    refine kw_iload_n hC dX7_longest_17 rfl 0 rfl ?_
    refine kw_bipush hC dX7_longest_18 rfl (by decide) ?_
    refine kw_icmp_ne (tgt := 26) hC dX7_longest_20 rfl (by decide) (by omega) (by omega) ⟨fun c20 => ?_, fun c20 => False.elim (by omega)⟩
    refine kw_aload_n hC dX7_longest_26 rfl 1 rfl ?_
    refine kg_0_7 hC w7 f59 dX7_longest_27 rfl (by decide) (by decide) ?_
    refine kw_iconst hC dX7_longest_30 rfl ?_
    refine kp_1_1 hC w6 f131 dX7_longest_31 rfl (by omega) (by omega) ?_
    refine kw_iconst hC dX7_longest_34 rfl ?_
    refine kw_istore_n (lv' := [(3, _), (2, _), (0, _), (1, _)]) hC dX7_longest_35 rfl (by decide) rfl ?_
    refine kw_iload_n hC dX7_longest_36 rfl 0 rfl ?_
    refine kw_iload_n hC dX7_longest_37 rfl 1 rfl ?_
    refine kw_icmp_ge (tgt := 75) hC dX7_longest_38 rfl (by decide) (by omega) (by omega) ⟨fun c38 => ?_, fun c38 => False.elim (by omega)⟩
    refine kw_aload_n hC dX7_longest_75 rfl 2 rfl ?_
    refine kw_aload_n hC dX7_longest_76 rfl 2 rfl ?_
    refine kg_0_7 hC w7 f59 dX7_longest_77 rfl (by decide) (by decide) ?_
    refine kw_iload_n hC dX7_longest_80 rfl 3 rfl ?_
    have hz : (ups S1 1 8 1 0) 1 8 1 = 0 := ups_s _ _ _ _ _
    refine kw_callV hC (c_X7_store hD (by omega) (by omega) (by omega) (by omega) (by omega) (by omega)) gX7_longest_X7_store ⟨_, rfl⟩ rfl (by decide) (by decide) rfl ⟨rfl, rfl⟩ 2 (by decide +kernel) ⟨by decide, by decide⟩ rfl rfl (Nat.le_of_ble_eq_true rfl) dX7_longest_81 rfl (kd_ie ?_)
    refine kw_chi (z' := 0) hz ?_
    exact hR.1 rfl _ _ _ _ dX7_longest_84 ⟨_, rfl, by unfold q_1; (repeat' split) <;> omega, (by repeat (first | exact sM_rfl _ | exact hM | refine sM_up (by decide) ?_ | refine sM_cp (by decide) ?_ | refine sM_tk ?_ | refine sM_ap ?_ | refine sM_an ?_ | refine sM_fi (by decide) ?_ | refine sM_kp ?_ | refine sM_wz ?_))⟩
  · refine kw_iconst hC dX7_longest_7 rfl ?_
    exact hR.1 rfl _ _ _ _ dX7_longest_8 ⟨_, rfl, by unfold q_1; (repeat' split) <;> omega, (by repeat (first | exact sM_rfl _ | exact hM | refine sM_up (by decide) ?_ | refine sM_cp (by decide) ?_ | refine sM_tk ?_ | refine sM_ap ?_ | refine sM_an ?_ | refine sM_fi (by decide) ?_ | refine sM_kp ?_ | refine sM_wz ?_))⟩

set_option maxHeartbeats 4000000 in
set_option maxRecDepth 100000 in
/-- on a new object -/
theorem c1_X7_forms {g : wG} (hD : wD g) {S : wSt} {a : Int} (ha : -2147483648 ≤ a ∧ a ≤ 2147483647) (hF : nC S) (l : Launch) : Kt l yX7_forms wsX7_forms ({ frames := 2, cells := 0, slots := 0, locals := 46 } : Room) g S [vr g 0 0, vi a] (pI (fun r S' => r = q_forms a ∧ sM S S')) := by
  refine Kt.of (cc := cX7_forms) (nL := 2) (ret := (some .int)) (own := RX7) rfl hD (by decide) rfl (Nat.le_of_ble_eq_true rfl) ⟨rfl, rfl⟩ ?_
  intro E hC hR
  have f54 : Cond.fieldLink RX7 54 "MirrorBench" "formList" "LMirrorBench$FormList;" ∈ wsX7_forms := by decide +kernel
  have w7 : ∀ w ∈ wsX70, w ∈ wsX7_forms := by decide +kernel
  show Wk E g 2 S 0 [(0, vr g 0 0), (1, vi a)] []
  obtain ⟨hm, hw, hlf, ⟨hh1, hh2⟩, ⟨hr1, hr2, hr3⟩, ⟨hf1, hf2, hf3⟩⟩ := hF
  refine kw_iload_n hC dX7_forms_0 rfl 1 rfl ?_
  refine kw_if_lt (tgt := 10) hC dX7_forms_1 rfl (by decide) (by omega) ⟨fun c1 => ?_, fun c1 => ?_⟩
  · refine kw_iconst hC dX7_forms_10 rfl ?_
    exact hR.1 rfl _ _ _ _ dX7_forms_11 ⟨_, rfl, by unfold q_forms; (repeat' split) <;> omega, (by repeat (first | exact sM_rfl _ | exact hM | refine sM_up (by decide) ?_ | refine sM_cp (by decide) ?_ | refine sM_tk ?_ | refine sM_ap ?_ | refine sM_an ?_ | refine sM_fi (by decide) ?_ | refine sM_kp ?_ | refine sM_wz ?_))⟩
  · refine kw_iload_n hC dX7_forms_4 rfl 1 rfl ?_
    refine kw_bipush hC dX7_forms_5 rfl (by decide) ?_
    refine kw_icmp_le (tgt := 12) hC dX7_forms_7 rfl (by decide) (by omega) (by omega) ⟨fun c7 => ?_, fun c7 => ?_⟩
    · refine kw_aload_n hC dX7_forms_12 rfl 0 rfl ?_
      refine kg_0_6 hC w7 f54 dX7_forms_13 rfl (by decide) (by decide) ?_
      refine kw_iload_n hC dX7_forms_16 rfl 1 rfl ?_
      refine kw_callV hC (c1_X0_reaches hD (by omega) (by omega) hm hf1 hf2 hf3) gX7_forms_X0_reaches ⟨_, rfl⟩ rfl (by decide) (by decide) rfl ⟨rfl, rfl⟩ 1 (by decide +kernel) ⟨by decide, by decide⟩ rfl rfl (Nat.le_of_ble_eq_true rfl) dX7_forms_17 rfl (kd_i (fun r S1 hp1 => ?_))
      obtain ⟨rfl, e3, e7⟩ := hp1
      have hM : sM S S1 := fun k hk => e7 k (by omega) (by omega)
      refine kw_ifeq_b (tgt := 34) hC dX7_forms_20 rfl (by decide) ⟨fun c20 => False.elim (by exact c20 trivial), fun c20 => ?_⟩
      refine kw_aload_n hC dX7_forms_23 rfl 0 rfl ?_
      refine kg_0_6 hC w7 f54 dX7_forms_24 rfl (by decide) (by decide) ?_
      refine kw_iload_n hC dX7_forms_27 rfl 1 rfl ?_
      refine kw_callV hC (c_X0_ofLength hD (by omega) (by omega)) gX7_forms_X0_ofLength ⟨_, rfl⟩ rfl (by decide) (by decide) rfl ⟨rfl, rfl⟩ 1 (by decide +kernel) ⟨by decide, by decide⟩ rfl rfl (Nat.le_of_ble_eq_true rfl) dX7_forms_28 rfl (kd_ie ?_)
      refine kw_chi (z' := if a = 0 then 1 else 0) e3 ?_
      refine kw_goto (tgt := 36) hC dX7_forms_31 rfl (by decide) ?_
      exact hR.1 rfl _ _ _ _ dX7_forms_36 ⟨_, rfl, by unfold q_forms; (repeat' split) <;> omega, (by repeat (first | exact sM_rfl _ | exact hM | refine sM_up (by decide) ?_ | refine sM_cp (by decide) ?_ | refine sM_tk ?_ | refine sM_ap ?_ | refine sM_an ?_ | refine sM_fi (by decide) ?_ | refine sM_kp ?_ | refine sM_wz ?_))⟩
    · refine kw_iconst hC dX7_forms_10 rfl ?_
      exact hR.1 rfl _ _ _ _ dX7_forms_11 ⟨_, rfl, by unfold q_forms; (repeat' split) <;> omega, (by repeat (first | exact sM_rfl _ | exact hM | refine sM_up (by decide) ?_ | refine sM_cp (by decide) ?_ | refine sM_tk ?_ | refine sM_ap ?_ | refine sM_an ?_ | refine sM_fi (by decide) ?_ | refine sM_kp ?_ | refine sM_wz ?_))⟩

set_option maxHeartbeats 4000000 in
set_option maxRecDepth 100000 in
/-- on a new object -/
theorem c1_X7_next {g : wG} (hD : wD g) {S : wSt} {a b c : Int} (ha : -2147483648 ≤ a ∧ a ≤ 2147483647) (hb : -2147483648 ≤ b ∧ b ≤ 2147483647) (hc : -2147483648 ≤ c ∧ c ≤ 2147483647) (hF : nC S) (l : Launch) : Kt l yX7_next wsX7_next ({ frames := 3, cells := 0, slots := 0, locals := 69 } : Room) g S [vr g 0 0, vi a, vi b, vi c] (pI (fun r S' => r = q_next a b c ∧ sM S S')) := by
  refine Kt.of (cc := cX7_next) (nL := 4) (ret := (some .int)) (own := RX7) rfl hD (by decide) rfl (Nat.le_of_ble_eq_true rfl) ⟨rfl, rfl⟩ ?_
  intro E hC hR
  have f54 : Cond.fieldLink RX7 54 "MirrorBench" "formList" "LMirrorBench$FormList;" ∈ wsX7_next := by decide +kernel
  have f59 : Cond.fieldLink RX7 59 "MirrorBench" "made" "LMirrorBench$Word;" ∈ wsX7_next := by decide +kernel
  have w7 : ∀ w ∈ wsX70, w ∈ wsX7_next := by decide +kernel
  show Wk E g 4 S 0 [(0, vr g 0 0), (1, vi a), (2, vi b), (3, vi c)] []
  obtain ⟨hm, hw, hlf, ⟨hh1, hh2⟩, ⟨hr1, hr2, hr3⟩, ⟨hf1, hf2, hf3⟩⟩ := hF
  refine kw_iload_n hC dX7_next_0 rfl 3 rfl ?_
  refine kw_callS hC (c_X7_isSlot hD (by omega)) gX7_next_X7_isSlot rfl ⟨rfl, rfl⟩ 1 (by decide +kernel) ⟨by decide, by decide⟩ rfl rfl (Nat.le_of_ble_eq_true rfl) dX7_next_1 rfl (kd_ie ?_)
  refine kw_ifeq_b (tgt := 28) hC dX7_next_4 rfl (by decide) ⟨fun c4 => ?_, fun c4 => ?_⟩
  · refine kw_iconst hC dX7_next_28 rfl ?_
    exact hR.1 rfl _ _ _ _ dX7_next_29 ⟨_, rfl, by unfold q_next; (repeat' split) <;> omega, (by repeat (first | exact sM_rfl _ | exact hM | refine sM_up (by decide) ?_ | refine sM_cp (by decide) ?_ | refine sM_tk ?_ | refine sM_ap ?_ | refine sM_an ?_ | refine sM_fi (by decide) ?_ | refine sM_kp ?_ | refine sM_wz ?_))⟩
  · refine kw_iload_n hC dX7_next_7 rfl 1 rfl ?_
    refine kw_if_lt (tgt := 28) hC dX7_next_8 rfl (by decide) (by omega) ⟨fun c8 => ?_, fun c8 => ?_⟩
    · refine kw_iconst hC dX7_next_28 rfl ?_
      exact hR.1 rfl _ _ _ _ dX7_next_29 ⟨_, rfl, by unfold q_next; (repeat' split) <;> omega, (by repeat (first | exact sM_rfl _ | exact hM | refine sM_up (by decide) ?_ | refine sM_cp (by decide) ?_ | refine sM_tk ?_ | refine sM_ap ?_ | refine sM_an ?_ | refine sM_fi (by decide) ?_ | refine sM_kp ?_ | refine sM_wz ?_))⟩
    · refine kw_iload_n hC dX7_next_11 rfl 1 rfl ?_
      refine kw_bipush hC dX7_next_12 rfl (by decide) ?_
      refine kw_icmp_gt (tgt := 28) hC dX7_next_14 rfl (by decide) (by omega) (by omega) ⟨fun c14 => ?_, fun c14 => ?_⟩
      · refine kw_iconst hC dX7_next_28 rfl ?_
        exact hR.1 rfl _ _ _ _ dX7_next_29 ⟨_, rfl, by unfold q_next; (repeat' split) <;> omega, (by repeat (first | exact sM_rfl _ | exact hM | refine sM_up (by decide) ?_ | refine sM_cp (by decide) ?_ | refine sM_tk ?_ | refine sM_ap ?_ | refine sM_an ?_ | refine sM_fi (by decide) ?_ | refine sM_kp ?_ | refine sM_wz ?_))⟩
      · refine kw_aload_n hC dX7_next_17 rfl 0 rfl ?_
        refine kg_0_6 hC w7 f54 dX7_next_18 rfl (by decide) (by decide) ?_
        refine kw_iload_n hC dX7_next_21 rfl 1 rfl ?_
        refine kw_callV hC (c1_X0_reaches hD (by omega) (by omega) hm hf1 hf2 hf3) gX7_next_X0_reaches ⟨_, rfl⟩ rfl (by decide) (by decide) rfl ⟨rfl, rfl⟩ 1 (by decide +kernel) ⟨by decide, by decide⟩ rfl rfl (Nat.le_of_ble_eq_true rfl) dX7_next_22 rfl (kd_i (fun r S1 hp1 => ?_))
        obtain ⟨rfl, e3, e7⟩ := hp1
        have hM : sM S S1 := fun k hk => e7 k (by omega) (by omega)
        have hp3 : 0 ≤ S1 18 0 a ∧ S1 18 0 a ≤ 1 := by rw [e3]; split <;> omega
        have hp4 : ¬ a = 0 → S1 18 0 a = 0 := fun h => by rw [e3, if_neg h]
        refine kw_ifne_b (tgt := 30) hC dX7_next_25 rfl (by decide) ⟨fun c25 => ?_, fun c25 => False.elim (by exact c25 trivial)⟩
        refine kw_iload_n hC dX7_next_30 rfl 2 rfl ?_
        refine kw_if_lt (tgt := 46) hC dX7_next_31 rfl (by decide) (by omega) ⟨fun c31 => ?_, fun c31 => ?_⟩
        · refine kw_iconst hC dX7_next_46 rfl ?_
          exact hR.1 rfl _ _ _ _ dX7_next_47 ⟨_, rfl, by unfold q_next; (repeat' split) <;> omega, (by repeat (first | exact sM_rfl _ | exact hM | refine sM_up (by decide) ?_ | refine sM_cp (by decide) ?_ | refine sM_tk ?_ | refine sM_ap ?_ | refine sM_an ?_ | refine sM_fi (by decide) ?_ | refine sM_kp ?_ | refine sM_wz ?_))⟩
        · refine kw_iload_n hC dX7_next_34 rfl 2 rfl ?_
          refine kw_aload_n hC dX7_next_35 rfl 0 rfl ?_
          refine kg_0_6 hC w7 f54 dX7_next_36 rfl (by decide) (by decide) ?_
          refine kw_iload_n hC dX7_next_39 rfl 1 rfl ?_
          refine kw_callV hC (c_X0_ofLength hD (by omega) (by omega)) gX7_next_X0_ofLength ⟨_, rfl⟩ rfl (by decide) (by decide) rfl ⟨rfl, rfl⟩ 1 (by decide +kernel) ⟨by decide, by decide⟩ rfl rfl (Nat.le_of_ble_eq_true rfl) dX7_next_40 rfl (kd_ie ?_)
          refine kw_icmp_lt (tgt := 48) hC dX7_next_43 rfl (by decide) (by omega) (by omega) ⟨fun c43 => ?_, fun c43 => ?_⟩
          · obtain rfl : a = 0 := Classical.byContradiction (fun h => by have := hp4 h; omega)
            have hb0 : b = 0 := by omega
            refine kw_aload_n hC dX7_next_48 rfl 0 rfl ?_
            refine kg_0_6 hC w7 f54 dX7_next_49 rfl (by decide) (by decide) ?_
            refine kw_iload_n hC dX7_next_52 rfl 1 rfl ?_
            refine kw_iload_n hC dX7_next_53 rfl 2 rfl ?_
            refine kw_aload_n hC dX7_next_54 rfl 0 rfl ?_
            refine kg_0_7 hC w7 f59 dX7_next_55 rfl (by decide) (by decide) ?_
            refine kw_callV hC (c1_X0_spell hD (by omega) (by omega)) gX7_next_X0_spell ⟨_, rfl⟩ rfl (by decide) (by decide) rfl ⟨rfl, rfl⟩ 3 (by decide +kernel) ⟨by decide, by decide⟩ rfl rfl (Nat.le_of_ble_eq_true rfl) dX7_next_58 rfl (kd_ve ?_)
            have hz : (ups S1 1 8 1 0) 1 8 1 = 0 := ups_s _ _ _ _ _
            refine kw_aload_n hC dX7_next_61 rfl 0 rfl ?_
            refine kw_aload_n hC dX7_next_62 rfl 0 rfl ?_
            refine kg_0_7 hC w7 f59 dX7_next_63 rfl (by decide) (by decide) ?_
            refine kw_iload_n hC dX7_next_66 rfl 3 rfl ?_
            refine kw_callV hC (c_X7_store hD (by omega) (by omega) (by omega) (by omega) (by omega) (by omega)) gX7_next_X7_store ⟨_, rfl⟩ rfl (by decide) (by decide) rfl ⟨rfl, rfl⟩ 2 (by decide +kernel) ⟨by decide, by decide⟩ rfl rfl (Nat.le_of_ble_eq_true rfl) dX7_next_67 rfl (kd_ie ?_)
            refine kw_chi (z' := 0) hz ?_
            exact hR.1 rfl _ _ _ _ dX7_next_70 ⟨_, rfl, by unfold q_next; (repeat' split) <;> omega, (by repeat (first | exact sM_rfl _ | exact hM | refine sM_up (by decide) ?_ | refine sM_cp (by decide) ?_ | refine sM_tk ?_ | refine sM_ap ?_ | refine sM_an ?_ | refine sM_fi (by decide) ?_ | refine sM_kp ?_ | refine sM_wz ?_))⟩
          · refine kw_iconst hC dX7_next_46 rfl ?_
            exact hR.1 rfl _ _ _ _ dX7_next_47 ⟨_, rfl, by unfold q_next; (repeat' split) <;> omega, (by repeat (first | exact sM_rfl _ | exact hM | refine sM_up (by decide) ?_ | refine sM_cp (by decide) ?_ | refine sM_tk ?_ | refine sM_ap ?_ | refine sM_an ?_ | refine sM_fi (by decide) ?_ | refine sM_kp ?_ | refine sM_wz ?_))⟩

set_option maxHeartbeats 4000000 in
set_option maxRecDepth 100000 in
/-- on a new object -/
theorem c1_X7_parts {g : wG} (hD : wD g) {S : wSt} {a b c d : Int} (ha : -2147483648 ≤ a ∧ a ≤ 2147483647) (hb : -2147483648 ≤ b ∧ b ≤ 2147483647) (hc : -2147483648 ≤ c ∧ c ≤ 2147483647) (hd : -2147483648 ≤ d ∧ d ≤ 2147483647) (hF : nC S) (l : Launch) : Kt l yX7_parts wsX7_parts ({ frames := 3, cells := 0, slots := 0, locals := 69 } : Room) g S [vr g 0 0, vi a, vi b, vi c, vi d] (pI (fun r S' => r = q_parts a c d ∧ sM S S')) := by
  refine Kt.of (cc := cX7_parts) (nL := 6) (ret := (some .int)) (own := RX7) rfl hD (by decide) rfl (Nat.le_of_ble_eq_true rfl) ⟨rfl, rfl⟩ ?_
  intro E hC hR
  have f12 : Cond.fieldLink RX7 12 "MirrorBench" "set" "LMirrorBench$Mirrors;" ∈ wsX7_parts := by decide +kernel
  have f25 : Cond.fieldLink RX7 25 "MirrorBench" "slots" "[LMirrorBench$Word;" ∈ wsX7_parts := by decide +kernel
  have f40 : Cond.fieldLink RX7 40 "MirrorBench" "shortener" "LMirrorBench$Shortener;" ∈ wsX7_parts := by decide +kernel
  have f59 : Cond.fieldLink RX7 59 "MirrorBench" "made" "LMirrorBench$Word;" ∈ wsX7_parts := by decide +kernel
  have f63 : Cond.fieldLink RX7 63 "MirrorBench" "other" "LMirrorBench$Word;" ∈ wsX7_parts := by decide +kernel
  have f66 : Cond.fieldLink RX7 66 "MirrorBench" "joined" "LMirrorBench$Word;" ∈ wsX7_parts := by decide +kernel
  have f131 : Cond.fieldLink RX7 131 "MirrorBench$Word" "length" "I" ∈ wsX7_parts := by decide +kernel
  have w6 : ∀ w ∈ wsX60, w ∈ wsX7_parts := by decide +kernel
  have w7 : ∀ w ∈ wsX70, w ∈ wsX7_parts := by decide +kernel
  show Wk E g 6 S 0 [(0, vr g 0 0), (1, vi a), (2, vi b), (3, vi c), (4, vi d)] []
  obtain ⟨hm, hw, hlf, ⟨hh1, hh2⟩, ⟨hr1, hr2, hr3⟩, ⟨hf1, hf2, hf3⟩⟩ := hF
  refine kw_iload_n hC dX7_parts_0 rfl 1 rfl ?_
  refine kw_callS hC (c_X7_isSlot hD (by omega)) gX7_parts_X7_isSlot rfl ⟨rfl, rfl⟩ 1 (by decide +kernel) ⟨by decide, by decide⟩ rfl rfl (Nat.le_of_ble_eq_true rfl) dX7_parts_1 rfl (kd_ie ?_)
  refine kw_ifeq_b (tgt := 28) hC dX7_parts_4 rfl (by decide) ⟨fun c4 => ?_, fun c4 => ?_⟩
  · refine kw_iconst hC dX7_parts_28 rfl ?_
    exact hR.1 rfl _ _ _ _ dX7_parts_29 ⟨_, rfl, by unfold q_parts; (repeat' split) <;> omega, (by repeat (first | exact sM_rfl _ | exact hM | refine sM_up (by decide) ?_ | refine sM_cp (by decide) ?_ | refine sM_tk ?_ | refine sM_ap ?_ | refine sM_an ?_ | refine sM_fi (by decide) ?_ | refine sM_kp ?_ | refine sM_wz ?_))⟩
  · refine kw_iload_n hC dX7_parts_7 rfl 3 rfl ?_
    refine kw_callS hC (c_X7_isSlot hD (by omega)) gX7_parts_X7_isSlot rfl ⟨rfl, rfl⟩ 1 (by decide +kernel) ⟨by decide, by decide⟩ rfl rfl (Nat.le_of_ble_eq_true rfl) dX7_parts_8 rfl (kd_ie ?_)
    refine kw_ifeq_b (tgt := 28) hC dX7_parts_11 rfl (by decide) ⟨fun c11 => ?_, fun c11 => ?_⟩
    · refine kw_iconst hC dX7_parts_28 rfl ?_
      exact hR.1 rfl _ _ _ _ dX7_parts_29 ⟨_, rfl, by unfold q_parts; (repeat' split) <;> omega, (by repeat (first | exact sM_rfl _ | exact hM | refine sM_up (by decide) ?_ | refine sM_cp (by decide) ?_ | refine sM_tk ?_ | refine sM_ap ?_ | refine sM_an ?_ | refine sM_fi (by decide) ?_ | refine sM_kp ?_ | refine sM_wz ?_))⟩
    · refine kw_iload hC dX7_parts_14 rfl 4 rfl ?_
      refine kw_callS hC (c_X7_isSlot hD (by omega)) gX7_parts_X7_isSlot rfl ⟨rfl, rfl⟩ 1 (by decide +kernel) ⟨by decide, by decide⟩ rfl rfl (Nat.le_of_ble_eq_true rfl) dX7_parts_16 rfl (kd_ie ?_)
      refine kw_ifeq_b (tgt := 28) hC dX7_parts_19 rfl (by decide) ⟨fun c19 => ?_, fun c19 => ?_⟩
      · refine kw_iconst hC dX7_parts_28 rfl ?_
        exact hR.1 rfl _ _ _ _ dX7_parts_29 ⟨_, rfl, by unfold q_parts; (repeat' split) <;> omega, (by repeat (first | exact sM_rfl _ | exact hM | refine sM_up (by decide) ?_ | refine sM_cp (by decide) ?_ | refine sM_tk ?_ | refine sM_ap ?_ | refine sM_an ?_ | refine sM_fi (by decide) ?_ | refine sM_kp ?_ | refine sM_wz ?_))⟩
      · refine kw_iload_n hC dX7_parts_22 rfl 3 rfl ?_
        refine kw_iload hC dX7_parts_23 rfl 4 rfl ?_
        refine kw_icmp_ne (tgt := 30) hC dX7_parts_25 rfl (by decide) (by omega) (by omega) ⟨fun c25 => ?_, fun c25 => ?_⟩
        · have hwa := hw a (by omega) (by omega)
          refine kw_iload_n hC dX7_parts_30 rfl 2 rfl ?_
          refine kw_iconst hC dX7_parts_31 rfl ?_
          refine kw_icmp_ne (tgt := 45) hC dX7_parts_32 rfl (by decide) (by omega) (by omega) ⟨fun c32 => ?_, fun c32 => ?_⟩
          · refine kw_iload_n hC dX7_parts_45 rfl 2 rfl ?_
            refine kw_istore (lv' := [(5, _), (0, _), (1, _), (2, _), (3, _), (4, _)]) hC dX7_parts_46 rfl (by decide) rfl ?_
            refine kw_aload_n hC dX7_parts_48 rfl 1 rfl ?_
            refine kg_0_4 hC w7 f40 dX7_parts_49 rfl (by decide) (by decide) ?_
            refine kw_aload_n hC dX7_parts_52 rfl 1 rfl ?_
            refine kg_0_2 hC w7 f25 dX7_parts_53 rfl (by decide) (by decide) ?_
            refine kw_iload_n hC dX7_parts_56 rfl 2 rfl ?_
            refine ka_20 hC dX7_parts_57 rfl (by decide) (by decide) (by omega) (by omega) ?_
            refine kw_aload_n hC dX7_parts_58 rfl 1 rfl ?_
            refine kg_0_8 hC w7 f63 dX7_parts_59 rfl (by decide) (by decide) ?_
            refine kw_callV hC (c1_X5_makeShort hD (by omega) (by omega) (by omega) (by omega) (by first | exact hwa | exact hwb | rfl)) gX7_parts_X5_makeShort ⟨_, rfl⟩ rfl (by decide) (by decide) rfl ⟨rfl, rfl⟩ 2 (by decide +kernel) ⟨by decide, by decide⟩ rfl rfl (Nat.le_of_ble_eq_true rfl) dX7_parts_62 rfl (kd_ie ?_)
            refine kw_ifne_b (tgt := 71) hC dX7_parts_65 rfl (by decide) ⟨fun c65 => ?_, fun c65 => False.elim (by exact c65 trivial)⟩
            refine kw_aload_n hC dX7_parts_71 rfl 1 rfl ?_
            refine kg_0_9 hC w7 f66 dX7_parts_72 rfl (by decide) (by decide) ?_
            refine kw_iconst hC dX7_parts_75 rfl ?_
            refine kp_1_1 hC w6 f131 dX7_parts_76 rfl (by omega) (by omega) ?_
            refine kw_aload_n hC dX7_parts_79 rfl 1 rfl ?_
            refine kg_0_4 hC w7 f40 dX7_parts_80 rfl (by decide) (by decide) ?_
            refine kw_aload_n hC dX7_parts_83 rfl 1 rfl ?_
            refine kg_0_8 hC w7 f63 dX7_parts_84 rfl (by decide) (by decide) ?_
            refine kw_iload hC dX7_parts_87 rfl 0 rfl ?_
            refine kw_aload_n hC dX7_parts_89 rfl 1 rfl ?_
            refine kg_0_9 hC w7 f66 dX7_parts_90 rfl (by decide) (by decide) ?_
            refine kw_callV hC (c1_X5_moveDowns hD (by omega) (by omega) (by omega) (by omega) (by rw [ups_n _ _ (by omega), ups_s])) gX7_parts_X5_moveDowns ⟨_, rfl⟩ rfl (by decide) (by decide) rfl ⟨rfl, rfl⟩ 3 (by decide +kernel) ⟨by decide, by decide⟩ rfl rfl (Nat.le_of_ble_eq_true rfl) dX7_parts_93 rfl (kd_ie ?_)
            refine kw_ifne_b (tgt := 102) hC dX7_parts_96 rfl (by decide) ⟨fun c96 => ?_, fun c96 => False.elim (by exact c96 trivial)⟩
            refine kw_aload_n hC dX7_parts_102 rfl 1 rfl ?_
            refine kg_0_4 hC w7 f40 dX7_parts_103 rfl (by decide) (by decide) ?_
            refine kw_aload_n hC dX7_parts_106 rfl 1 rfl ?_
            refine kg_0_9 hC w7 f66 dX7_parts_107 rfl (by decide) (by decide) ?_
            refine kw_aload_n hC dX7_parts_110 rfl 1 rfl ?_
            refine kg_0_7 hC w7 f59 dX7_parts_111 rfl (by decide) (by decide) ?_
            refine kw_callV hC (c1_X5_makeForm hD (by omega) (by omega) (by omega) (by omega) (by rw [ups_s])) gX7_parts_X5_makeForm ⟨_, rfl⟩ rfl (by decide) (by decide) rfl ⟨rfl, rfl⟩ 2 (by decide +kernel) ⟨by decide, by decide⟩ rfl rfl (Nat.le_of_ble_eq_true rfl) dX7_parts_114 rfl (kd_ie ?_)
            refine kw_ifeq_b (tgt := 138) hC dX7_parts_117 rfl (by decide) ⟨fun c117 => False.elim (by exact c117 trivial), fun c117 => ?_⟩
            refine kw_aload_n hC dX7_parts_120 rfl 1 rfl ?_
            refine kg_0_4 hC w7 f40 dX7_parts_121 rfl (by decide) (by decide) ?_
            refine kw_aload_n hC dX7_parts_124 rfl 1 rfl ?_
            refine kg_0_8 hC w7 f63 dX7_parts_125 rfl (by decide) (by decide) ?_
            refine kw_aload_n hC dX7_parts_128 rfl 1 rfl ?_
            refine kg_0_9 hC w7 f66 dX7_parts_129 rfl (by decide) (by decide) ?_
            refine kw_callV hC (c1_X5_makeForm hD (by omega) (by omega) (by omega) (by omega) (by rw [ups_n _ _ (by omega), ups_n _ _ (by omega), ups_n _ _ (by omega), ups_s])) gX7_parts_X5_makeForm ⟨_, rfl⟩ rfl (by decide) (by decide) rfl ⟨rfl, rfl⟩ 2 (by decide +kernel) ⟨by decide, by decide⟩ rfl rfl (Nat.le_of_ble_eq_true rfl) dX7_parts_132 rfl (kd_ie ?_)
            refine kw_ifne_b (tgt := 141) hC dX7_parts_135 rfl (by decide) ⟨fun c135 => ?_, fun c135 => False.elim (by exact c135 trivial)⟩
            obtain ⟨S9, hS9⟩ : ∃ z, z = (ups (ups (ups (ups (ups (ups S 1 9 1 0) 1 10 1 0) 1 11 1 0) 1 8 1 0) 1 11 1 0) 1 10 1 0) := ⟨_, rfl⟩
            rw [← hS9]
            have hz1 : S9 1 10 1 = 0 := by rw [hS9, ups_s]
            have hz2 : S9 1 8 1 = 0 := by rw [hS9, ups_n _ _ (by omega), ups_n _ _ (by omega), ups_s]
            have hM : sM S S9 := by rw [hS9]; exact sM_up (by decide) (sM_up (by decide) (sM_up (by decide) (sM_up (by decide) (sM_up (by decide) (sM_up (by decide) (sM_rfl S))))))
            have hz3 : (tkS S9 d 10) 1 8 1 = 0 := by unfold tkS; rw [ups_n _ _ (by omega)]; exact hz2
            refine kw_aload_n hC dX7_parts_141 rfl 1 rfl ?_
            refine kw_aload_n hC dX7_parts_142 rfl 1 rfl ?_
            refine kg_0_9 hC w7 f66 dX7_parts_143 rfl (by decide) (by decide) ?_
            refine kw_iload hC dX7_parts_146 rfl 5 rfl ?_
            refine kw_callV hC (c_X7_store hD (by omega) (by omega) (by omega) (by omega) (by omega) (by omega)) gX7_parts_X7_store ⟨_, rfl⟩ rfl (by decide) (by decide) rfl ⟨rfl, rfl⟩ 2 (by decide +kernel) ⟨by decide, by decide⟩ rfl rfl (Nat.le_of_ble_eq_true rfl) dX7_parts_148 rfl (kd_ie ?_)
            refine kw_pop hC dX7_parts_151 rfl rfl ?_
            refine kw_aload_n hC dX7_parts_152 rfl 1 rfl ?_
            refine kw_aload_n hC dX7_parts_153 rfl 1 rfl ?_
            refine kg_0_7 hC w7 f59 dX7_parts_154 rfl (by decide) (by decide) ?_
            refine kw_iload_n hC dX7_parts_157 rfl 4 rfl ?_
            refine kw_callV hC (c_X7_store hD (by omega) (by omega) (by omega) (by omega) (by omega) (by omega)) gX7_parts_X7_store ⟨_, rfl⟩ rfl (by decide) (by decide) rfl ⟨rfl, rfl⟩ 2 (by decide +kernel) ⟨by decide, by decide⟩ rfl rfl (Nat.le_of_ble_eq_true rfl) dX7_parts_158 rfl (kd_ie ?_)
            refine kw_chi (z' := 0) hz3 ?_
            exact hR.1 rfl _ _ _ _ dX7_parts_161 ⟨_, rfl, by unfold q_parts; (repeat' split) <;> omega, (by repeat (first | exact sM_rfl _ | exact hM | refine sM_up (by decide) ?_ | refine sM_cp (by decide) ?_ | refine sM_tk ?_ | refine sM_ap ?_ | refine sM_an ?_ | refine sM_fi (by decide) ?_ | refine sM_kp ?_ | refine sM_wz ?_))⟩
          · refine kw_aload_n hC dX7_parts_35 rfl 0 rfl ?_
            refine kg_0_0 hC w7 f12 dX7_parts_36 rfl (by decide) (by decide) ?_
            refine kw_callV hC (c1_X3_partBits hD (by omega) (by omega) hm) gX7_parts_X3_partBits ⟨_, rfl⟩ rfl (by omega) (show (_ : Int) < 17 by omega) rfl ⟨rfl, rfl⟩ 0 (by decide +kernel) ⟨by decide, by decide⟩ rfl rfl (Nat.le_of_ble_eq_true rfl) dX7_parts_39 rfl (kd_ie ?_)
            refine kw_goto (tgt := 46) hC dX7_parts_42 rfl (by decide) ?_
            refine kw_istore (lv' := [(5, _), (0, _), (1, _), (2, _), (3, _), (4, _)]) hC dX7_parts_46 rfl (by decide) rfl ?_
            refine kw_aload_n hC dX7_parts_48 rfl 1 rfl ?_
            refine kg_0_4 hC w7 f40 dX7_parts_49 rfl (by decide) (by decide) ?_
            refine kw_aload_n hC dX7_parts_52 rfl 1 rfl ?_
            refine kg_0_2 hC w7 f25 dX7_parts_53 rfl (by decide) (by decide) ?_
            refine kw_iload_n hC dX7_parts_56 rfl 2 rfl ?_
            refine ka_20 hC dX7_parts_57 rfl (by decide) (by decide) (by omega) (by omega) ?_
            refine kw_aload_n hC dX7_parts_58 rfl 1 rfl ?_
            refine kg_0_8 hC w7 f63 dX7_parts_59 rfl (by decide) (by decide) ?_
            refine kw_callV hC (c1_X5_makeShort hD (by omega) (by omega) (by omega) (by omega) (by first | exact hwa | exact hwb | rfl)) gX7_parts_X5_makeShort ⟨_, rfl⟩ rfl (by decide) (by decide) rfl ⟨rfl, rfl⟩ 2 (by decide +kernel) ⟨by decide, by decide⟩ rfl rfl (Nat.le_of_ble_eq_true rfl) dX7_parts_62 rfl (kd_ie ?_)
            refine kw_ifne_b (tgt := 71) hC dX7_parts_65 rfl (by decide) ⟨fun c65 => ?_, fun c65 => False.elim (by exact c65 trivial)⟩
            refine kw_aload_n hC dX7_parts_71 rfl 1 rfl ?_
            refine kg_0_9 hC w7 f66 dX7_parts_72 rfl (by decide) (by decide) ?_
            refine kw_iconst hC dX7_parts_75 rfl ?_
            refine kp_1_1 hC w6 f131 dX7_parts_76 rfl (by omega) (by omega) ?_
            refine kw_aload_n hC dX7_parts_79 rfl 1 rfl ?_
            refine kg_0_4 hC w7 f40 dX7_parts_80 rfl (by decide) (by decide) ?_
            refine kw_aload_n hC dX7_parts_83 rfl 1 rfl ?_
            refine kg_0_8 hC w7 f63 dX7_parts_84 rfl (by decide) (by decide) ?_
            refine kw_iload hC dX7_parts_87 rfl 0 rfl ?_
            refine kw_aload_n hC dX7_parts_89 rfl 1 rfl ?_
            refine kg_0_9 hC w7 f66 dX7_parts_90 rfl (by decide) (by decide) ?_
            refine kw_callV hC (c1_X5_moveDowns hD (by omega) (by omega) (by omega) (by omega) (by rw [ups_n _ _ (by omega), ups_s])) gX7_parts_X5_moveDowns ⟨_, rfl⟩ rfl (by decide) (by decide) rfl ⟨rfl, rfl⟩ 3 (by decide +kernel) ⟨by decide, by decide⟩ rfl rfl (Nat.le_of_ble_eq_true rfl) dX7_parts_93 rfl (kd_ie ?_)
            refine kw_ifne_b (tgt := 102) hC dX7_parts_96 rfl (by decide) ⟨fun c96 => ?_, fun c96 => False.elim (by exact c96 trivial)⟩
            refine kw_aload_n hC dX7_parts_102 rfl 1 rfl ?_
            refine kg_0_4 hC w7 f40 dX7_parts_103 rfl (by decide) (by decide) ?_
            refine kw_aload_n hC dX7_parts_106 rfl 1 rfl ?_
            refine kg_0_9 hC w7 f66 dX7_parts_107 rfl (by decide) (by decide) ?_
            refine kw_aload_n hC dX7_parts_110 rfl 1 rfl ?_
            refine kg_0_7 hC w7 f59 dX7_parts_111 rfl (by decide) (by decide) ?_
            refine kw_callV hC (c1_X5_makeForm hD (by omega) (by omega) (by omega) (by omega) (by rw [ups_s])) gX7_parts_X5_makeForm ⟨_, rfl⟩ rfl (by decide) (by decide) rfl ⟨rfl, rfl⟩ 2 (by decide +kernel) ⟨by decide, by decide⟩ rfl rfl (Nat.le_of_ble_eq_true rfl) dX7_parts_114 rfl (kd_ie ?_)
            refine kw_ifeq_b (tgt := 138) hC dX7_parts_117 rfl (by decide) ⟨fun c117 => False.elim (by exact c117 trivial), fun c117 => ?_⟩
            refine kw_aload_n hC dX7_parts_120 rfl 1 rfl ?_
            refine kg_0_4 hC w7 f40 dX7_parts_121 rfl (by decide) (by decide) ?_
            refine kw_aload_n hC dX7_parts_124 rfl 1 rfl ?_
            refine kg_0_8 hC w7 f63 dX7_parts_125 rfl (by decide) (by decide) ?_
            refine kw_aload_n hC dX7_parts_128 rfl 1 rfl ?_
            refine kg_0_9 hC w7 f66 dX7_parts_129 rfl (by decide) (by decide) ?_
            refine kw_callV hC (c1_X5_makeForm hD (by omega) (by omega) (by omega) (by omega) (by rw [ups_n _ _ (by omega), ups_n _ _ (by omega), ups_n _ _ (by omega), ups_s])) gX7_parts_X5_makeForm ⟨_, rfl⟩ rfl (by decide) (by decide) rfl ⟨rfl, rfl⟩ 2 (by decide +kernel) ⟨by decide, by decide⟩ rfl rfl (Nat.le_of_ble_eq_true rfl) dX7_parts_132 rfl (kd_ie ?_)
            refine kw_ifne_b (tgt := 141) hC dX7_parts_135 rfl (by decide) ⟨fun c135 => ?_, fun c135 => False.elim (by exact c135 trivial)⟩
            obtain ⟨S9, hS9⟩ : ∃ z, z = (ups (ups (ups (ups (ups (ups S 1 9 1 0) 1 10 1 0) 1 11 1 0) 1 8 1 0) 1 11 1 0) 1 10 1 0) := ⟨_, rfl⟩
            rw [← hS9]
            have hz1 : S9 1 10 1 = 0 := by rw [hS9, ups_s]
            have hz2 : S9 1 8 1 = 0 := by rw [hS9, ups_n _ _ (by omega), ups_n _ _ (by omega), ups_s]
            have hM : sM S S9 := by rw [hS9]; exact sM_up (by decide) (sM_up (by decide) (sM_up (by decide) (sM_up (by decide) (sM_up (by decide) (sM_up (by decide) (sM_rfl S))))))
            have hz3 : (tkS S9 d 10) 1 8 1 = 0 := by unfold tkS; rw [ups_n _ _ (by omega)]; exact hz2
            refine kw_aload_n hC dX7_parts_141 rfl 1 rfl ?_
            refine kw_aload_n hC dX7_parts_142 rfl 1 rfl ?_
            refine kg_0_9 hC w7 f66 dX7_parts_143 rfl (by decide) (by decide) ?_
            refine kw_iload hC dX7_parts_146 rfl 5 rfl ?_
            refine kw_callV hC (c_X7_store hD (by omega) (by omega) (by omega) (by omega) (by omega) (by omega)) gX7_parts_X7_store ⟨_, rfl⟩ rfl (by decide) (by decide) rfl ⟨rfl, rfl⟩ 2 (by decide +kernel) ⟨by decide, by decide⟩ rfl rfl (Nat.le_of_ble_eq_true rfl) dX7_parts_148 rfl (kd_ie ?_)
            refine kw_pop hC dX7_parts_151 rfl rfl ?_
            refine kw_aload_n hC dX7_parts_152 rfl 1 rfl ?_
            refine kw_aload_n hC dX7_parts_153 rfl 1 rfl ?_
            refine kg_0_7 hC w7 f59 dX7_parts_154 rfl (by decide) (by decide) ?_
            refine kw_iload_n hC dX7_parts_157 rfl 4 rfl ?_
            refine kw_callV hC (c_X7_store hD (by omega) (by omega) (by omega) (by omega) (by omega) (by omega)) gX7_parts_X7_store ⟨_, rfl⟩ rfl (by decide) (by decide) rfl ⟨rfl, rfl⟩ 2 (by decide +kernel) ⟨by decide, by decide⟩ rfl rfl (Nat.le_of_ble_eq_true rfl) dX7_parts_158 rfl (kd_ie ?_)
            refine kw_chi (z' := 0) hz3 ?_
            exact hR.1 rfl _ _ _ _ dX7_parts_161 ⟨_, rfl, by unfold q_parts; (repeat' split) <;> omega, (by repeat (first | exact sM_rfl _ | exact hM | refine sM_up (by decide) ?_ | refine sM_cp (by decide) ?_ | refine sM_tk ?_ | refine sM_ap ?_ | refine sM_an ?_ | refine sM_fi (by decide) ?_ | refine sM_kp ?_ | refine sM_wz ?_))⟩
        · refine kw_iconst hC dX7_parts_28 rfl ?_
          exact hR.1 rfl _ _ _ _ dX7_parts_29 ⟨_, rfl, by unfold q_parts; (repeat' split) <;> omega, (by repeat (first | exact sM_rfl _ | exact hM | refine sM_up (by decide) ?_ | refine sM_cp (by decide) ?_ | refine sM_tk ?_ | refine sM_ap ?_ | refine sM_an ?_ | refine sM_fi (by decide) ?_ | refine sM_kp ?_ | refine sM_wz ?_))⟩

set_option maxHeartbeats 4000000 in
set_option maxRecDepth 100000 in
/-- on a new object -/
theorem c1_X7_way {g : wG} (hD : wD g) {S : wSt} {a b c : Int} (ha : -2147483648 ≤ a ∧ a ≤ 2147483647) (hb : -2147483648 ≤ b ∧ b ≤ 2147483647) (hc : -2147483648 ≤ c ∧ c ≤ 2147483647) (hF : nC S) (l : Launch) : Kt l yX7_way wsX7_way ({ frames := 3, cells := 0, slots := 0, locals := 69 } : Room) g S [vr g 0 0, vi a, vi b, vi c] (pI (fun r S' => r = q_3 a b c ∧ sM S S')) := by
  refine Kt.of (cc := cX7_way) (nL := 4) (ret := (some .int)) (own := RX7) rfl hD (by decide) rfl (Nat.le_of_ble_eq_true rfl) ⟨rfl, rfl⟩ ?_
  intro E hC hR
  have f40 : Cond.fieldLink RX7 40 "MirrorBench" "shortener" "LMirrorBench$Shortener;" ∈ wsX7_way := by decide +kernel
  have f59 : Cond.fieldLink RX7 59 "MirrorBench" "made" "LMirrorBench$Word;" ∈ wsX7_way := by decide +kernel
  have f66 : Cond.fieldLink RX7 66 "MirrorBench" "joined" "LMirrorBench$Word;" ∈ wsX7_way := by decide +kernel
  have w7 : ∀ w ∈ wsX70, w ∈ wsX7_way := by decide +kernel
  show Wk E g 4 S 0 [(0, vr g 0 0), (1, vi a), (2, vi b), (3, vi c)] []
  obtain ⟨hm, hw, hlf, ⟨hh1, hh2⟩, ⟨hr1, hr2, hr3⟩, ⟨hf1, hf2, hf3⟩⟩ := hF
  refine kw_iload_n hC dX7_way_0 rfl 1 rfl ?_
  refine kw_callS hC (c_X7_isSlot hD (by omega)) gX7_way_X7_isSlot rfl ⟨rfl, rfl⟩ 1 (by decide +kernel) ⟨by decide, by decide⟩ rfl rfl (Nat.le_of_ble_eq_true rfl) dX7_way_1 rfl (kd_ie ?_)
  refine kw_ifeq_b (tgt := 21) hC dX7_way_4 rfl (by decide) ⟨fun c4 => ?_, fun c4 => ?_⟩
  · refine kw_iconst hC dX7_way_21 rfl ?_
    exact hR.1 rfl _ _ _ _ dX7_way_22 ⟨_, rfl, by unfold q_3; (repeat' split) <;> omega, (by repeat (first | exact sM_rfl _ | exact hM | refine sM_up (by decide) ?_ | refine sM_cp (by decide) ?_ | refine sM_tk ?_ | refine sM_ap ?_ | refine sM_an ?_ | refine sM_fi (by decide) ?_ | refine sM_kp ?_ | refine sM_wz ?_))⟩
  · refine kw_iload_n hC dX7_way_7 rfl 2 rfl ?_
    refine kw_callS hC (c_X7_isSlot hD (by omega)) gX7_way_X7_isSlot rfl ⟨rfl, rfl⟩ 1 (by decide +kernel) ⟨by decide, by decide⟩ rfl rfl (Nat.le_of_ble_eq_true rfl) dX7_way_8 rfl (kd_ie ?_)
    refine kw_ifeq_b (tgt := 21) hC dX7_way_11 rfl (by decide) ⟨fun c11 => ?_, fun c11 => ?_⟩
    · refine kw_iconst hC dX7_way_21 rfl ?_
      exact hR.1 rfl _ _ _ _ dX7_way_22 ⟨_, rfl, by unfold q_3; (repeat' split) <;> omega, (by repeat (first | exact sM_rfl _ | exact hM | refine sM_up (by decide) ?_ | refine sM_cp (by decide) ?_ | refine sM_tk ?_ | refine sM_ap ?_ | refine sM_an ?_ | refine sM_fi (by decide) ?_ | refine sM_kp ?_ | refine sM_wz ?_))⟩
    · refine kw_iload_n hC dX7_way_14 rfl 3 rfl ?_
      refine kw_callS hC (c_X7_isSlot hD (by omega)) gX7_way_X7_isSlot rfl ⟨rfl, rfl⟩ 1 (by decide +kernel) ⟨by decide, by decide⟩ rfl rfl (Nat.le_of_ble_eq_true rfl) dX7_way_15 rfl (kd_ie ?_)
      refine kw_ifne_b (tgt := 23) hC dX7_way_18 rfl (by decide) ⟨fun c18 => ?_, fun c18 => ?_⟩
      · have hwa := hw a (by omega) (by omega)
        have hwb := hw b (by omega) (by omega)
        refine kw_aload_n hC dX7_way_23 rfl 0 rfl ?_
        refine kw_iload_n hC dX7_way_24 rfl 1 rfl ?_
        refine kw_iload_n hC dX7_way_25 rfl 2 rfl ?_
        refine kw_callV hC (c1_X7_joinWay hD (by omega) (by omega) (by omega) (by omega) (by exact hwa) (by exact hwb)) gX7_way_X7_joinWay ⟨_, rfl⟩ rfl (by decide) (by decide) rfl ⟨rfl, rfl⟩ 2 (by decide +kernel) ⟨by decide, by decide⟩ rfl rfl (Nat.le_of_ble_eq_true rfl) dX7_way_26 rfl (kd_i (fun r S1 hp1 => ?_))
        obtain ⟨rfl, hj, hM⟩ := hp1
        refine kw_ifne_b (tgt := 35) hC dX7_way_29 rfl (by decide) ⟨fun c29 => ?_, fun c29 => False.elim (by exact c29 trivial)⟩
        refine kw_aload_n hC dX7_way_35 rfl 0 rfl ?_
        refine kg_0_4 hC w7 f40 dX7_way_36 rfl (by decide) (by decide) ?_
        refine kw_aload_n hC dX7_way_39 rfl 0 rfl ?_
        refine kg_0_9 hC w7 f66 dX7_way_40 rfl (by decide) (by decide) ?_
        refine kw_aload_n hC dX7_way_43 rfl 0 rfl ?_
        refine kg_0_7 hC w7 f59 dX7_way_44 rfl (by decide) (by decide) ?_
        refine kw_callV hC (c1_X5_makeForm hD (by omega) (by omega) (by omega) (by omega) hj) gX7_way_X5_makeForm ⟨_, rfl⟩ rfl (by decide) (by decide) rfl ⟨rfl, rfl⟩ 2 (by decide +kernel) ⟨by decide, by decide⟩ rfl rfl (Nat.le_of_ble_eq_true rfl) dX7_way_47 rfl (kd_ie ?_)
        have hz : (ups (ups S1 1 11 1 0) 1 8 1 0) 1 8 1 = 0 := ups_s _ _ _ _ _
        refine kw_ifeq_b (tgt := 65) hC dX7_way_50 rfl (by decide) ⟨fun c50 => False.elim (by exact c50 trivial), fun c50 => ?_⟩
        refine kw_aload_n hC dX7_way_53 rfl 0 rfl ?_
        refine kw_aload_n hC dX7_way_54 rfl 0 rfl ?_
        refine kg_0_7 hC w7 f59 dX7_way_55 rfl (by decide) (by decide) ?_
        refine kw_iload_n hC dX7_way_58 rfl 3 rfl ?_
        refine kw_callV hC (c_X7_store hD (by omega) (by omega) (by omega) (by omega) (by omega) (by omega)) gX7_way_X7_store ⟨_, rfl⟩ rfl (by decide) (by decide) rfl ⟨rfl, rfl⟩ 2 (by decide +kernel) ⟨by decide, by decide⟩ rfl rfl (Nat.le_of_ble_eq_true rfl) dX7_way_59 rfl (kd_ie ?_)
        refine kw_chi (z' := 0) hz ?_
        refine kw_goto (tgt := 67) hC dX7_way_62 rfl (by decide) ?_
        exact hR.1 rfl _ _ _ _ dX7_way_67 ⟨_, rfl, by unfold q_3; (repeat' split) <;> omega, (by repeat (first | exact sM_rfl _ | exact hM | refine sM_up (by decide) ?_ | refine sM_cp (by decide) ?_ | refine sM_tk ?_ | refine sM_ap ?_ | refine sM_an ?_ | refine sM_fi (by decide) ?_ | refine sM_kp ?_ | refine sM_wz ?_))⟩
      · refine kw_iconst hC dX7_way_21 rfl ?_
        exact hR.1 rfl _ _ _ _ dX7_way_22 ⟨_, rfl, by unfold q_3; (repeat' split) <;> omega, (by repeat (first | exact sM_rfl _ | exact hM | refine sM_up (by decide) ?_ | refine sM_cp (by decide) ?_ | refine sM_tk ?_ | refine sM_ap ?_ | refine sM_an ?_ | refine sM_fi (by decide) ?_ | refine sM_kp ?_ | refine sM_wz ?_))⟩

set_option maxHeartbeats 4000000 in
set_option maxRecDepth 100000 in
/-- on a new object -/
theorem c1_X7_wall {g : wG} (hD : wD g) {S : wSt} {a b c d : Int} (ha : -2147483648 ≤ a ∧ a ≤ 2147483647) (hb : -2147483648 ≤ b ∧ b ≤ 2147483647) (hc : -2147483648 ≤ c ∧ c ≤ 2147483647) (hd : -2147483648 ≤ d ∧ d ≤ 2147483647) (hF : nC S) (l : Launch) : Kt l yX7_wall wsX7_wall ({ frames := 1, cells := 0, slots := 0, locals := 21 } : Room) g S [vr g 0 0, vi a, vi b, vi c, vi d] (pL (fun r S' => r = (-10000000000001) ∧ sM S S')) := by
  refine Kt.of (cc := cX7_wall) (nL := 5) (ret := (some .long)) (own := RX7) rfl hD (by decide) rfl (Nat.le_of_ble_eq_true rfl) ⟨rfl, rfl⟩ ?_
  intro E hC hR
  have f12 : Cond.fieldLink RX7 12 "MirrorBench" "set" "LMirrorBench$Mirrors;" ∈ wsX7_wall := by decide +kernel
  have l196 : Cond.constantLong RX7 196 (Int64.ofInt (-10000000000001)) ∈ wsX7_wall := by decide +kernel
  have w7 : ∀ w ∈ wsX70, w ∈ wsX7_wall := by decide +kernel
  show Wk E g 5 S 0 [(0, vr g 0 0), (1, vi a), (2, vi b), (3, vi c), (4, vi d)] []
  obtain ⟨hm, hw, hlf, ⟨hh1, hh2⟩, ⟨hr1, hr2, hr3⟩, ⟨hf1, hf2, hf3⟩⟩ := hF
  refine kw_iload_n hC dX7_wall_0 rfl 1 rfl ?_
  refine kw_callS hC (c_X7_isSlot hD (by omega)) gX7_wall_X7_isSlot rfl ⟨rfl, rfl⟩ 1 (by decide +kernel) ⟨by decide, by decide⟩ rfl rfl (Nat.le_of_ble_eq_true rfl) dX7_wall_1 rfl (kd_ie ?_)
  refine kw_ifeq_b (tgt := 39) hC dX7_wall_4 rfl (by decide) ⟨fun c4 => ?_, fun c4 => ?_⟩
  · refine kw_ldc2 (z := -10000000000001) hC dX7_wall_39 rfl l196 ?_
    exact hR.2.2.1 rfl _ _ _ _ dX7_wall_42 ⟨_, rfl, rfl, (by repeat (first | exact sM_rfl _ | exact hM | refine sM_up (by decide) ?_ | refine sM_cp (by decide) ?_ | refine sM_tk ?_ | refine sM_ap ?_ | refine sM_an ?_ | refine sM_fi (by decide) ?_ | refine sM_kp ?_ | refine sM_wz ?_))⟩
  · refine kw_iload_n hC dX7_wall_7 rfl 2 rfl ?_
    refine kw_callS hC (c_X7_isSlot hD (by omega)) gX7_wall_X7_isSlot rfl ⟨rfl, rfl⟩ 1 (by decide +kernel) ⟨by decide, by decide⟩ rfl rfl (Nat.le_of_ble_eq_true rfl) dX7_wall_8 rfl (kd_ie ?_)
    refine kw_ifeq_b (tgt := 39) hC dX7_wall_11 rfl (by decide) ⟨fun c11 => ?_, fun c11 => ?_⟩
    · refine kw_ldc2 (z := -10000000000001) hC dX7_wall_39 rfl l196 ?_
      exact hR.2.2.1 rfl _ _ _ _ dX7_wall_42 ⟨_, rfl, rfl, (by repeat (first | exact sM_rfl _ | exact hM | refine sM_up (by decide) ?_ | refine sM_cp (by decide) ?_ | refine sM_tk ?_ | refine sM_ap ?_ | refine sM_an ?_ | refine sM_fi (by decide) ?_ | refine sM_kp ?_ | refine sM_wz ?_))⟩
    · refine kw_iload_n hC dX7_wall_14 rfl 3 rfl ?_
      refine kw_if_lt (tgt := 39) hC dX7_wall_15 rfl (by decide) (by omega) ⟨fun c15 => ?_, fun c15 => ?_⟩
      · refine kw_ldc2 (z := -10000000000001) hC dX7_wall_39 rfl l196 ?_
        exact hR.2.2.1 rfl _ _ _ _ dX7_wall_42 ⟨_, rfl, rfl, (by repeat (first | exact sM_rfl _ | exact hM | refine sM_up (by decide) ?_ | refine sM_cp (by decide) ?_ | refine sM_tk ?_ | refine sM_ap ?_ | refine sM_an ?_ | refine sM_fi (by decide) ?_ | refine sM_kp ?_ | refine sM_wz ?_))⟩
      · refine kw_aload_n hC dX7_wall_18 rfl 0 rfl ?_
        refine kg_0_0 hC w7 f12 dX7_wall_19 rfl (by decide) (by decide) ?_
        refine kw_iload hC dX7_wall_22 rfl 4 rfl ?_
        refine kw_callV hC (c_X3_has hD (by omega) (by omega) (by omega) (by omega)) gX7_wall_X3_has ⟨_, rfl⟩ rfl (by omega) (show (_ : Int) < 17 by omega) rfl ⟨rfl, rfl⟩ 1 (by decide +kernel) ⟨by decide, by decide⟩ rfl rfl (Nat.le_of_ble_eq_true rfl) dX7_wall_24 rfl (kd_ie ?_)
        refine kw_ifeq_b (tgt := 39) hC dX7_wall_27 rfl (by decide) ⟨fun c27 => ?_, fun c27 => False.elim (by omega)⟩
        refine kw_ldc2 (z := -10000000000001) hC dX7_wall_39 rfl l196 ?_
        exact hR.2.2.1 rfl _ _ _ _ dX7_wall_42 ⟨_, rfl, rfl, (by repeat (first | exact sM_rfl _ | exact hM | refine sM_up (by decide) ?_ | refine sM_cp (by decide) ?_ | refine sM_tk ?_ | refine sM_ap ?_ | refine sM_an ?_ | refine sM_fi (by decide) ?_ | refine sM_kp ?_ | refine sM_wz ?_))⟩

set_option maxHeartbeats 4000000 in
set_option maxRecDepth 100000 in
/-- on a new object -/
theorem c1_X7_leaf {g : wG} (hD : wD g) {S : wSt} {a b c : Int} (ha : -2147483648 ≤ a ∧ a ≤ 2147483647) (hb : -2147483648 ≤ b ∧ b ≤ 2147483647) (hc : -2147483648 ≤ c ∧ c ≤ 2147483647) (hF : nC S) (l : Launch) : Kt l yX7_leaf wsX7_leaf ({ frames := 2, cells := 0, slots := 0, locals := 46 } : Room) g S [vr g 0 0, vi a, vi b, vi c] (pI (fun r S' => r = q_leaf a b c ∧ sM S S')) := by
  refine Kt.of (cc := cX7_leaf) (nL := 4) (ret := (some .int)) (own := RX7) rfl hD (by decide) rfl (Nat.le_of_ble_eq_true rfl) ⟨rfl, rfl⟩ ?_
  intro E hC hR
  have f31 : Cond.fieldLink RX7 31 "MirrorBench" "leaves" "[LMirrorBench$Leaf;" ∈ wsX7_leaf := by decide +kernel
  have w7 : ∀ w ∈ wsX70, w ∈ wsX7_leaf := by decide +kernel
  show Wk E g 4 S 0 [(0, vr g 0 0), (1, vi a), (2, vi b), (3, vi c)] []
  obtain ⟨hm, hw, hlf, ⟨hh1, hh2⟩, ⟨hr1, hr2, hr3⟩, ⟨hf1, hf2, hf3⟩⟩ := hF
  refine kw_iload_n hC dX7_leaf_0 rfl 1 rfl ?_
  refine kw_callS hC (c_X7_isLeaf hD (by omega)) gX7_leaf_X7_isLeaf rfl ⟨rfl, rfl⟩ 1 (by decide +kernel) ⟨by decide, by decide⟩ rfl rfl (Nat.le_of_ble_eq_true rfl) dX7_leaf_1 rfl (kd_ie ?_)
  refine kw_ifeq_b (tgt := 20) hC dX7_leaf_4 rfl (by decide) ⟨fun c4 => ?_, fun c4 => ?_⟩
  · refine kw_iconst hC dX7_leaf_20 rfl ?_
    exact hR.1 rfl _ _ _ _ dX7_leaf_21 ⟨_, rfl, by unfold q_leaf; (repeat' split) <;> omega, (by repeat (first | exact sM_rfl _ | exact hM | refine sM_up (by decide) ?_ | refine sM_cp (by decide) ?_ | refine sM_tk ?_ | refine sM_ap ?_ | refine sM_an ?_ | refine sM_fi (by decide) ?_ | refine sM_kp ?_ | refine sM_wz ?_))⟩
  · refine kw_iload_n hC dX7_leaf_7 rfl 2 rfl ?_
    refine kw_callS hC (c_X7_isLane hD (by omega)) gX7_leaf_X7_isLane rfl ⟨rfl, rfl⟩ 1 (by decide +kernel) ⟨by decide, by decide⟩ rfl rfl (Nat.le_of_ble_eq_true rfl) dX7_leaf_8 rfl (kd_ie ?_)
    refine kw_ifeq_b (tgt := 20) hC dX7_leaf_11 rfl (by decide) ⟨fun c11 => ?_, fun c11 => ?_⟩
    · refine kw_iconst hC dX7_leaf_20 rfl ?_
      exact hR.1 rfl _ _ _ _ dX7_leaf_21 ⟨_, rfl, by unfold q_leaf; (repeat' split) <;> omega, (by repeat (first | exact sM_rfl _ | exact hM | refine sM_up (by decide) ?_ | refine sM_cp (by decide) ?_ | refine sM_tk ?_ | refine sM_ap ?_ | refine sM_an ?_ | refine sM_fi (by decide) ?_ | refine sM_kp ?_ | refine sM_wz ?_))⟩
    · refine kw_iload_n hC dX7_leaf_14 rfl 3 rfl ?_
      refine kw_bipush hC dX7_leaf_15 rfl (by decide) ?_
      refine kw_icmp_le (tgt := 22) hC dX7_leaf_17 rfl (by decide) (by omega) (by omega) ⟨fun c17 => ?_, fun c17 => ?_⟩
      · refine kw_iload_n hC dX7_leaf_22 rfl 3 rfl ?_
        refine kw_if_ge (tgt := 29) hC dX7_leaf_23 rfl (by decide) (by omega) ⟨fun c23 => ?_, fun c23 => ?_⟩
        · refine kw_aload_n hC dX7_leaf_29 rfl 0 rfl ?_
          refine kg_0_3 hC w7 f31 dX7_leaf_30 rfl (by decide) (by decide) ?_
          refine kw_iload_n hC dX7_leaf_33 rfl 1 rfl ?_
          refine ka_21 hC dX7_leaf_34 rfl (by decide) (by decide) (by omega) (by omega) ?_
          refine kw_iload_n hC dX7_leaf_35 rfl 2 rfl ?_
          refine kw_iload_n hC dX7_leaf_36 rfl 3 rfl ?_
          refine kw_callV hC (c_X2_hold hD (by omega) (by omega)) gX7_leaf_X2_hold ⟨_, rfl⟩ rfl (by omega) (show (_ : Int) < 4 by omega) rfl ⟨rfl, rfl⟩ 2 (by decide +kernel) ⟨by decide, by decide⟩ rfl rfl (Nat.le_of_ble_eq_true rfl) dX7_leaf_37 rfl (kd_ve ?_)
          refine kw_iload_n hC dX7_leaf_40 rfl 3 rfl ?_
          exact hR.1 rfl _ _ _ _ dX7_leaf_41 ⟨_, rfl, by unfold q_leaf; (repeat' split) <;> omega, (by repeat (first | exact sM_rfl _ | exact hM | refine sM_up (by decide) ?_ | refine sM_cp (by decide) ?_ | refine sM_tk ?_ | refine sM_ap ?_ | refine sM_an ?_ | refine sM_fi (by decide) ?_ | refine sM_kp ?_ | refine sM_wz ?_))⟩
        · refine kw_bipush hC dX7_leaf_26 rfl (by decide) ?_
          exact hR.1 rfl _ _ _ _ dX7_leaf_28 ⟨_, rfl, by unfold q_leaf; (repeat' split) <;> omega, (by repeat (first | exact sM_rfl _ | exact hM | refine sM_up (by decide) ?_ | refine sM_cp (by decide) ?_ | refine sM_tk ?_ | refine sM_ap ?_ | refine sM_an ?_ | refine sM_fi (by decide) ?_ | refine sM_kp ?_ | refine sM_wz ?_))⟩
      · refine kw_iconst hC dX7_leaf_20 rfl ?_
        exact hR.1 rfl _ _ _ _ dX7_leaf_21 ⟨_, rfl, by unfold q_leaf; (repeat' split) <;> omega, (by repeat (first | exact sM_rfl _ | exact hM | refine sM_up (by decide) ?_ | refine sM_cp (by decide) ?_ | refine sM_tk ?_ | refine sM_ap ?_ | refine sM_an ?_ | refine sM_fi (by decide) ?_ | refine sM_kp ?_ | refine sM_wz ?_))⟩

set_option maxHeartbeats 4000000 in
set_option maxRecDepth 100000 in
/-- on a new object -/
theorem c1_X7_drop {g : wG} (hD : wD g) {S : wSt} {a : Int} (ha : -2147483648 ≤ a ∧ a ≤ 2147483647) (hF : nC S) (l : Launch) : Kt l yX7_drop wsX7_drop ({ frames := 1, cells := 0, slots := 0, locals := 20 } : Room) g S [vr g 0 0, vi a] (pI (fun r S' => r = q_drop a ∧ sM S S')) := by
  refine Kt.of (cc := cX7_drop) (nL := 2) (ret := (some .int)) (own := RX7) rfl hD (by decide) rfl (Nat.le_of_ble_eq_true rfl) ⟨rfl, rfl⟩ ?_
  intro E hC hR
  have f31 : Cond.fieldLink RX7 31 "MirrorBench" "leaves" "[LMirrorBench$Leaf;" ∈ wsX7_drop := by decide +kernel
  have f264 : Cond.fieldLink RX7 264 "MirrorBench$Leaf" "held" "Z" ∈ wsX7_drop := by decide +kernel
  have w2 : ∀ w ∈ wsX20, w ∈ wsX7_drop := by decide +kernel
  have w7 : ∀ w ∈ wsX70, w ∈ wsX7_drop := by decide +kernel
  show Wk E g 2 S 0 [(0, vr g 0 0), (1, vi a)] []
  obtain ⟨hm, hw, hlf, ⟨hh1, hh2⟩, ⟨hr1, hr2, hr3⟩, ⟨hf1, hf2, hf3⟩⟩ := hF
  refine kw_iload_n hC dX7_drop_0 rfl 1 rfl ?_
  refine kw_callS hC (c_X7_isLeaf hD (by omega)) gX7_drop_X7_isLeaf rfl ⟨rfl, rfl⟩ 1 (by decide +kernel) ⟨by decide, by decide⟩ rfl rfl (Nat.le_of_ble_eq_true rfl) dX7_drop_1 rfl (kd_ie ?_)
  refine kw_ifne_b (tgt := 9) hC dX7_drop_4 rfl (by decide) ⟨fun c4 => ?_, fun c4 => ?_⟩
  · obtain ⟨hlb, hlc⟩ := hlf a (by omega) (by omega)
    refine kw_aload_n hC dX7_drop_9 rfl 0 rfl ?_
    refine kg_0_3 hC w7 f31 dX7_drop_10 rfl (by decide) (by decide) ?_
    refine kw_iload_n hC dX7_drop_13 rfl 1 rfl ?_
    refine ka_21 hC dX7_drop_14 rfl (by decide) (by decide) (by omega) (by omega) ?_
    refine kg_6_1 hC w2 f264 dX7_drop_15 rfl (by omega) (by omega) ?_
    refine kw_if_ne (tgt := 24) hC dX7_drop_18 rfl (by decide) (by omega) ⟨fun c18 => False.elim (by omega), fun c18 => ?_⟩
    refine kw_bipush hC dX7_drop_21 rfl (by decide) ?_
    exact hR.1 rfl _ _ _ _ dX7_drop_23 ⟨_, rfl, by unfold q_drop; (repeat' split) <;> omega, (by repeat (first | exact sM_rfl _ | exact hM | refine sM_up (by decide) ?_ | refine sM_cp (by decide) ?_ | refine sM_tk ?_ | refine sM_ap ?_ | refine sM_an ?_ | refine sM_fi (by decide) ?_ | refine sM_kp ?_ | refine sM_wz ?_))⟩
  · refine kw_iconst hC dX7_drop_7 rfl ?_
    exact hR.1 rfl _ _ _ _ dX7_drop_8 ⟨_, rfl, by unfold q_drop; (repeat' split) <;> omega, (by repeat (first | exact sM_rfl _ | exact hM | refine sM_up (by decide) ?_ | refine sM_cp (by decide) ?_ | refine sM_tk ?_ | refine sM_ap ?_ | refine sM_an ?_ | refine sM_fi (by decide) ?_ | refine sM_kp ?_ | refine sM_wz ?_))⟩

set_option maxHeartbeats 4000000 in
set_option maxRecDepth 100000 in
/-- on a new object -/
theorem c1_X7_item {g : wG} (hD : wD g) {S : wSt} {a b c d : Int} (ha : -2147483648 ≤ a ∧ a ≤ 2147483647) (hb : -2147483648 ≤ b ∧ b ≤ 2147483647) (hc : -2147483648 ≤ c ∧ c ≤ 2147483647) (hd : -9223372036854775808 ≤ d ∧ d ≤ 9223372036854775807) (hF : nC S) (l : Launch) : Kt l yX7_item wsX7_item ({ frames := 1, cells := 0, slots := 0, locals := 21 } : Room) g S [vr g 0 0, vi a, vi b, vi c, vl d] (pI (fun r S' => r = q_item a b ∧ sM S S')) := by
  refine Kt.of (cc := cX7_item) (nL := 8) (ret := (some .int)) (own := RX7) rfl hD (by decide) rfl (Nat.le_of_ble_eq_true rfl) ⟨rfl, rfl⟩ ?_
  intro E hC hR
  have f31 : Cond.fieldLink RX7 31 "MirrorBench" "leaves" "[LMirrorBench$Leaf;" ∈ wsX7_item := by decide +kernel
  have w7 : ∀ w ∈ wsX70, w ∈ wsX7_item := by decide +kernel
  show Wk E g 8 S 0 [(0, vr g 0 0), (1, vi a), (2, vi b), (3, vi c), (4, vl d)] []
  obtain ⟨hm, hw, hlf, ⟨hh1, hh2⟩, ⟨hr1, hr2, hr3⟩, ⟨hf1, hf2, hf3⟩⟩ := hF
  refine kw_iload_n hC dX7_item_0 rfl 1 rfl ?_
  refine kw_callS hC (c_X7_isLeaf hD (by omega)) gX7_item_X7_isLeaf rfl ⟨rfl, rfl⟩ 1 (by decide +kernel) ⟨by decide, by decide⟩ rfl rfl (Nat.le_of_ble_eq_true rfl) dX7_item_1 rfl (kd_ie ?_)
  refine kw_ifeq_b (tgt := 14) hC dX7_item_4 rfl (by decide) ⟨fun c4 => ?_, fun c4 => ?_⟩
  · refine kw_iconst hC dX7_item_14 rfl ?_
    exact hR.1 rfl _ _ _ _ dX7_item_15 ⟨_, rfl, by unfold q_item; (repeat' split) <;> omega, (by repeat (first | exact sM_rfl _ | exact hM | refine sM_up (by decide) ?_ | refine sM_cp (by decide) ?_ | refine sM_tk ?_ | refine sM_ap ?_ | refine sM_an ?_ | refine sM_fi (by decide) ?_ | refine sM_kp ?_ | refine sM_wz ?_))⟩
  · refine kw_iload_n hC dX7_item_7 rfl 2 rfl ?_
    refine kw_callS hC (c_X7_isLane hD (by omega)) gX7_item_X7_isLane rfl ⟨rfl, rfl⟩ 1 (by decide +kernel) ⟨by decide, by decide⟩ rfl rfl (Nat.le_of_ble_eq_true rfl) dX7_item_8 rfl (kd_ie ?_)
    refine kw_ifne_b (tgt := 16) hC dX7_item_11 rfl (by decide) ⟨fun c11 => ?_, fun c11 => ?_⟩
    · obtain ⟨hlb, hlc⟩ := hlf a (by omega) (by omega)
      refine kw_aload_n hC dX7_item_16 rfl 0 rfl ?_
      refine kg_0_3 hC w7 f31 dX7_item_17 rfl (by decide) (by decide) ?_
      refine kw_iload_n hC dX7_item_20 rfl 1 rfl ?_
      refine ka_21 hC dX7_item_21 rfl (by decide) (by decide) (by omega) (by omega) ?_
      refine kw_astore (lv' := [(6, _), (0, _), (1, _), (2, _), (3, _), (4, _)]) hC dX7_item_22 rfl (by decide) rfl ?_
      refine kw_aload hC dX7_item_24 rfl 0 rfl ?_
      refine kw_iload_n hC dX7_item_26 rfl 3 rfl ?_
      refine kw_callV hC (c_X2_find hD (by omega) (by omega) (by omega) (by omega) (by omega)) gX7_item_X2_find ⟨_, rfl⟩ rfl (by omega) (show (_ : Int) < 4 by omega) rfl ⟨rfl, rfl⟩ 1 (by decide +kernel) ⟨by decide, by decide⟩ rfl rfl (Nat.le_of_ble_eq_true rfl) dX7_item_27 rfl (kd_ie ?_)
      refine kw_chi (z' := -11) (by rw [if_pos hlb]) ?_
      refine kw_istore (lv' := [(7, _), (6, _), (0, _), (1, _), (2, _), (3, _), (4, _)]) hC dX7_item_30 rfl (by decide) rfl ?_
      refine kw_iload hC dX7_item_32 rfl 0 rfl ?_
      refine kw_if_eq (tgt := 40) hC dX7_item_34 rfl (by decide) (by omega) ⟨fun c34 => False.elim (by omega), fun c34 => ?_⟩
      refine kw_iload hC dX7_item_37 rfl 0 rfl ?_
      exact hR.1 rfl _ _ _ _ dX7_item_39 ⟨_, rfl, by unfold q_item; (repeat' split) <;> omega, (by repeat (first | exact sM_rfl _ | exact hM | refine sM_up (by decide) ?_ | refine sM_cp (by decide) ?_ | refine sM_tk ?_ | refine sM_ap ?_ | refine sM_an ?_ | refine sM_fi (by decide) ?_ | refine sM_kp ?_ | refine sM_wz ?_))⟩
    · refine kw_iconst hC dX7_item_14 rfl ?_
      exact hR.1 rfl _ _ _ _ dX7_item_15 ⟨_, rfl, by unfold q_item; (repeat' split) <;> omega, (by repeat (first | exact sM_rfl _ | exact hM | refine sM_up (by decide) ?_ | refine sM_cp (by decide) ?_ | refine sM_tk ?_ | refine sM_ap ?_ | refine sM_an ?_ | refine sM_fi (by decide) ?_ | refine sM_kp ?_ | refine sM_wz ?_))⟩

set_option maxHeartbeats 4000000 in
set_option maxRecDepth 100000 in
/-- on a new object -/
theorem c1_X7_copy {g : wG} (hD : wD g) {S : wSt} {a b c d e : Int} (ha : -2147483648 ≤ a ∧ a ≤ 2147483647) (hb : -2147483648 ≤ b ∧ b ≤ 2147483647) (hc : -2147483648 ≤ c ∧ c ≤ 2147483647) (hd : -2147483648 ≤ d ∧ d ≤ 2147483647) (he : -2147483648 ≤ e ∧ e ≤ 2147483647) (hF : nC S) (l : Launch) : Kt l yX7_copy wsX7_copy ({ frames := 1, cells := 0, slots := 0, locals := 20 } : Room) g S [vr g 0 0, vi a, vi b, vi c, vi d, vi e] (pI (fun r S' => r = q_copy a c ∧ sM S S')) := by
  refine Kt.of (cc := cX7_copy) (nL := 8) (ret := (some .int)) (own := RX7) rfl hD (by decide) rfl (Nat.le_of_ble_eq_true rfl) ⟨rfl, rfl⟩ ?_
  intro E hC hR
  have f31 : Cond.fieldLink RX7 31 "MirrorBench" "leaves" "[LMirrorBench$Leaf;" ∈ wsX7_copy := by decide +kernel
  have f264 : Cond.fieldLink RX7 264 "MirrorBench$Leaf" "held" "Z" ∈ wsX7_copy := by decide +kernel
  have w2 : ∀ w ∈ wsX20, w ∈ wsX7_copy := by decide +kernel
  have w7 : ∀ w ∈ wsX70, w ∈ wsX7_copy := by decide +kernel
  show Wk E g 8 S 0 [(0, vr g 0 0), (1, vi a), (2, vi b), (3, vi c), (4, vi d), (5, vi e)] []
  obtain ⟨hm, hw, hlf, ⟨hh1, hh2⟩, ⟨hr1, hr2, hr3⟩, ⟨hf1, hf2, hf3⟩⟩ := hF
  refine kw_iload_n hC dX7_copy_0 rfl 1 rfl ?_
  refine kw_callS hC (c_X7_isLeaf hD (by omega)) gX7_copy_X7_isLeaf rfl ⟨rfl, rfl⟩ 1 (by decide +kernel) ⟨by decide, by decide⟩ rfl rfl (Nat.le_of_ble_eq_true rfl) dX7_copy_1 rfl (kd_ie ?_)
  refine kw_ifeq_b (tgt := 14) hC dX7_copy_4 rfl (by decide) ⟨fun c4 => ?_, fun c4 => ?_⟩
  · refine kw_iconst hC dX7_copy_14 rfl ?_
    exact hR.1 rfl _ _ _ _ dX7_copy_15 ⟨_, rfl, by unfold q_copy; (repeat' split) <;> omega, (by repeat (first | exact sM_rfl _ | exact hM | refine sM_up (by decide) ?_ | refine sM_cp (by decide) ?_ | refine sM_tk ?_ | refine sM_ap ?_ | refine sM_an ?_ | refine sM_fi (by decide) ?_ | refine sM_kp ?_ | refine sM_wz ?_))⟩
  · refine kw_iload_n hC dX7_copy_7 rfl 3 rfl ?_
    refine kw_callS hC (c_X7_isLeaf hD (by omega)) gX7_copy_X7_isLeaf rfl ⟨rfl, rfl⟩ 1 (by decide +kernel) ⟨by decide, by decide⟩ rfl rfl (Nat.le_of_ble_eq_true rfl) dX7_copy_8 rfl (kd_ie ?_)
    refine kw_ifne_b (tgt := 16) hC dX7_copy_11 rfl (by decide) ⟨fun c11 => ?_, fun c11 => ?_⟩
    · obtain ⟨hlb, hlc⟩ := hlf a (by omega) (by omega)
      refine kw_aload_n hC dX7_copy_16 rfl 0 rfl ?_
      refine kg_0_3 hC w7 f31 dX7_copy_17 rfl (by decide) (by decide) ?_
      refine kw_iload_n hC dX7_copy_20 rfl 1 rfl ?_
      refine ka_21 hC dX7_copy_21 rfl (by decide) (by decide) (by omega) (by omega) ?_
      refine kw_astore (lv' := [(6, _), (0, _), (1, _), (2, _), (3, _), (4, _), (5, _)]) hC dX7_copy_22 rfl (by decide) rfl ?_
      refine kw_aload_n hC dX7_copy_24 rfl 1 rfl ?_
      refine kg_0_3 hC w7 f31 dX7_copy_25 rfl (by decide) (by decide) ?_
      refine kw_iload_n hC dX7_copy_28 rfl 4 rfl ?_
      refine ka_21 hC dX7_copy_29 rfl (by decide) (by decide) (by omega) (by omega) ?_
      refine kw_astore (lv' := [(7, _), (6, _), (0, _), (1, _), (2, _), (3, _), (4, _), (5, _)]) hC dX7_copy_30 rfl (by decide) rfl ?_
      refine kw_aload hC dX7_copy_32 rfl 1 rfl ?_
      refine kg_6_1 hC w2 f264 dX7_copy_34 rfl (by omega) (by omega) ?_
      refine kw_if_eq (tgt := 48) hC dX7_copy_37 rfl (by decide) (by omega) ⟨fun c37 => ?_, fun c37 => False.elim (by omega)⟩
      refine kw_bipush hC dX7_copy_48 rfl (by decide) ?_
      exact hR.1 rfl _ _ _ _ dX7_copy_50 ⟨_, rfl, by unfold q_copy; (repeat' split) <;> omega, (by repeat (first | exact sM_rfl _ | exact hM | refine sM_up (by decide) ?_ | refine sM_cp (by decide) ?_ | refine sM_tk ?_ | refine sM_ap ?_ | refine sM_an ?_ | refine sM_fi (by decide) ?_ | refine sM_kp ?_ | refine sM_wz ?_))⟩
    · refine kw_iconst hC dX7_copy_14 rfl ?_
      exact hR.1 rfl _ _ _ _ dX7_copy_15 ⟨_, rfl, by unfold q_copy; (repeat' split) <;> omega, (by repeat (first | exact sM_rfl _ | exact hM | refine sM_up (by decide) ?_ | refine sM_cp (by decide) ?_ | refine sM_tk ?_ | refine sM_ap ?_ | refine sM_an ?_ | refine sM_fi (by decide) ?_ | refine sM_kp ?_ | refine sM_wz ?_))⟩
