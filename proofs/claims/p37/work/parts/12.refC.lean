theorem ldWV {S S1 : wSt} {a n : Int} (hR : RI S) (a0 : 0 ≤ a) (a1 : a < 8) (q : S1 30 0 14 = S 46 0 a) (h : ∀ j, 0 ≤ j → j < S 46 0 a → S1 53 0 j = S 45 0 (100 * a + j)) (hn : n = S 30 0 0) : WV (S1 53 0) (S1 30 0 14) n := fun j j0 j1 => by
  rw [q] at j1
  rw [h j j0 j1, hn]
  exact hR.lt a j a0 a1 j0 j1
theorem lmWV {S S1 : wSt} {a n : Int} (hR : RI S) (hw : WV (S 53 0) (S 30 0 14) (S 30 0 0)) (a0 : 0 ≤ a) (a1 : a < 8) (q : S1 30 0 14 = S 30 0 14 + S 46 0 a) (h2 : ∀ j, 0 ≤ j → j < S 30 0 14 → S1 53 0 j = S 53 0 j) (h : ∀ j, 0 ≤ j → j < S 46 0 a → S1 53 0 (S 30 0 14 + j) = S 45 0 (100 * a + j)) (hn : n = S 30 0 0) : WV (S1 53 0) (S1 30 0 14) n := fun j j0 j1 => by
  rw [q] at j1
  subst hn
  by_cases e : j < S 30 0 14
  · rw [h2 j j0 e]; exact hw j j0 e
  · have h5 := h (j - S 30 0 14) (by omega) (by omega)
    rw [show S 30 0 14 + (j - S 30 0 14) = j by omega] at h5
    rw [h5]
    exact hR.lt a _ a0 a1 (by omega) (by omega)
theorem lbWV {S S1 : wSt} {a n : Int} (hR : RI S) (a0 : 0 ≤ a) (a1 : a < 8) (q : S1 30 0 14 = S 46 0 a) (h : ∀ j, 0 ≤ j → j < S 46 0 a → S1 53 0 j = S 45 0 (100 * a + (S 46 0 a - 1 - j))) (hn : n = S 30 0 0) : WV (S1 53 0) (S1 30 0 14) n := fun j j0 j1 => by
  rw [q] at j1
  rw [h j j0 j1, hn]
  exact hR.lt a _ a0 a1 (by omega) (by omega)

set_option maxHeartbeats 4000000 in
set_option maxRecDepth 100000 in
theorem d_X8_clear {g : wG} (hD : wD g) {S : wSt} {a : Int} (ha : -2147483648 ≤ a ∧ a ≤ 2147483647) (hRS : RI S) (l : Launch) : Kt l yX8_clear wsX8_clear ({ frames := 2, cells := 0, slots := 0, locals := 45 } : Room) g S [vr g 30 0, vi a] (pI (fun _ S' => RI S' ∧ Fr tW S S')) := by
  refine Kt.of (cc := cX8_clear) (nL := 3) (ret := (some .int)) (own := RX8) rfl hD (by decide) rfl (Nat.le_of_ble_eq_true rfl) ⟨rfl, rfl⟩ ?_
  intro E hC hR9
  have f43 : Cond.fieldLink RX8 43 "MirrorBenchModel" "lengths" "[I" ∈ wsX8_clear := by decide +kernel
  have w8 : ∀ w ∈ wsX80, w ∈ wsX8_clear := by decide +kernel
  show Wk E g 3 S 0 [(0, vr g 30 0), (1, vi a)] []
  have hfS : Fr fV S S := Fr.rfl _ S
  refine kw_iload_n hC dX8_clear_0 rfl 1 rfl ?_
  refine kw_callS hC (d_X8_isSlot hD (by omega)) gX8_clear_X8_isSlot rfl ⟨rfl, rfl⟩ 1 (by decide +kernel) ⟨by decide, by decide⟩ rfl rfl (Nat.le_of_ble_eq_true rfl) dX8_clear_1 rfl (kd_ie ?_)
  refine kw_ifne_b (tgt := 9) hC dX8_clear_4 rfl (by decide) ⟨fun c4 => ?_, fun c4 => ?_⟩
  · refine kw_aload_n hC dX8_clear_9 rfl 0 rfl ?_
    refine kg_30_6 hC w8 f43 dX8_clear_10 rfl (by decide) (by decide) ?_
    refine kw_iload_n hC dX8_clear_13 rfl 1 rfl ?_
    refine ka_46 hC dX8_clear_14 rfl (by decide) (by decide) (by omega) (by omega) ?_
    refine kw_istore_n (lv' := [(2, _), (0, _), (1, _)]) hC dX8_clear_15 rfl (by decide) rfl ?_
    refine kw_aload_n hC dX8_clear_16 rfl 1 rfl ?_
    refine kg_30_6 hC w8 f43 dX8_clear_17 rfl (by decide) (by decide) ?_
    refine kw_iload_n hC dX8_clear_20 rfl 2 rfl ?_
    refine kw_iconst hC dX8_clear_21 rfl ?_
    refine ks_46 hC dX8_clear_22 rfl (by decide) (by decide) (by omega) (by omega) ?_
    refine kw_hv hfS (by unfold fV; omega) (fun S2 hfS2 hv2 ho2 => ?_)
    have hw9 := hRS.wd hfS2 (hRS.wdo.len (a := a) (fun j => ho2 45 0 j (by omega)) (fun s hs => ho2 46 0 s (by omega)) (by omega) (fun k k0 k1 => by rw [hv2] at k1; omega))
    refine kw_iload_n hC dX8_clear_23 rfl 0 rfl ?_
    exact hR9.1 rfl _ _ _ _ dX8_clear_24 (by first | exact ⟨_, rfl, hw9, fV_tW hfS2⟩ | exact ⟨_, rfl, hRS, Fr.rfl _ S⟩)
  · refine kw_iconst hC dX8_clear_7 rfl ?_
    exact hR9.1 rfl _ _ _ _ dX8_clear_8 (by first | exact ⟨_, rfl, hw9, fV_tW hfS⟩ | exact ⟨_, rfl, hRS, Fr.rfl _ S⟩)

set_option maxHeartbeats 4000000 in
set_option maxRecDepth 100000 in
theorem d_X8_put {g : wG} (hD : wD g) {S : wSt} {a b : Int} (ha : -2147483648 ≤ a ∧ a ≤ 2147483647) (hb : -2147483648 ≤ b ∧ b ≤ 2147483647) (hRS : RI S) (l : Launch) : Kt l yX8_put wsX8_put ({ frames := 2, cells := 0, slots := 0, locals := 47 } : Room) g S [vr g 30 0, vi a, vi b] (pI (fun _ S' => RI S' ∧ Fr tW S S')) := by
  refine Kt.of (cc := cX8_put) (nL := 3) (ret := (some .int)) (own := RX8) rfl hD (by decide) rfl (Nat.le_of_ble_eq_true rfl) ⟨rfl, rfl⟩ ?_
  intro E hC hR9
  have f43 : Cond.fieldLink RX8 43 "MirrorBenchModel" "lengths" "[I" ∈ wsX8_put := by decide +kernel
  have f52 : Cond.fieldLink RX8 52 "MirrorBenchModel" "words" "[I" ∈ wsX8_put := by decide +kernel
  have w8 : ∀ w ∈ wsX80, w ∈ wsX8_put := by decide +kernel
  show Wk E g 3 S 0 [(0, vr g 30 0), (1, vi a), (2, vi b)] []
  have hfS : Fr fV S S := Fr.rfl _ S
  have hn := hRS.n
  refine kw_iload_n hC dX8_put_0 rfl 1 rfl ?_
  refine kw_callS hC (d_X8_isSlot hD (by omega)) gX8_put_X8_isSlot rfl ⟨rfl, rfl⟩ 1 (by decide +kernel) ⟨by decide, by decide⟩ rfl rfl (Nat.le_of_ble_eq_true rfl) dX8_put_1 rfl (kd_ie ?_)
  refine kw_ifeq_b (tgt := 16) hC dX8_put_4 rfl (by decide) ⟨fun c4 => ?_, fun c4 => ?_⟩
  · refine kw_iconst hC dX8_put_16 rfl ?_
    exact hR9.1 rfl _ _ _ _ dX8_put_17 (by first | exact ⟨_, rfl, hw9, fV_tW hfS⟩ | exact ⟨_, rfl, hRS, Fr.rfl _ S⟩)
  · refine kw_aload_n hC dX8_put_7 rfl 0 rfl ?_
    refine kw_iload_n hC dX8_put_8 rfl 2 rfl ?_
    refine kw_i2l hC dX8_put_9 rfl (by omega) ?_
    refine kw_callV hC (d_X8_isMirror hD (by omega) (by omega) (by omega)) gX8_put_X8_isMirror ⟨_, rfl⟩ rfl (by decide) (by decide) rfl ⟨rfl, rfl⟩ 1 (by decide +kernel) ⟨by decide, by decide⟩ rfl rfl (Nat.le_of_ble_eq_true rfl) dX8_put_10 rfl (kd_ie ?_)
    refine kw_ifne_b (tgt := 18) hC dX8_put_13 rfl (by decide) ⟨fun c13 => ?_, fun c13 => ?_⟩
    · have hla := hRS.ln a (by omega) (by omega)
      refine kw_aload_n hC dX8_put_18 rfl 0 rfl ?_
      refine kg_30_6 hC w8 f43 dX8_put_19 rfl (by decide) (by decide) ?_
      refine kw_iload_n hC dX8_put_22 rfl 1 rfl ?_
      refine ka_46 hC dX8_put_23 rfl (by decide) (by decide) (by omega) (by omega) ?_
      refine kw_bipush hC dX8_put_24 rfl (by decide) ?_
      refine kw_icmp_ne (tgt := 32) hC dX8_put_26 rfl (by decide) (by omega) (by omega) ⟨fun c26 => ?_, fun c26 => ?_⟩
      · refine kw_aload_n hC dX8_put_32 rfl 0 rfl ?_
        refine kg_30_5 hC w8 f52 dX8_put_33 rfl (by decide) (by decide) ?_
        refine kw_bipush hC dX8_put_36 rfl (by decide) ?_
        refine kw_iload_n hC dX8_put_38 rfl 1 rfl ?_
        refine kw_imul hC dX8_put_39 rfl ?_
        refine kw_aload_n hC dX8_put_40 rfl 0 rfl ?_
        refine kg_30_6 hC w8 f43 dX8_put_41 rfl (by decide) (by decide) ?_
        refine kw_iload_n hC dX8_put_44 rfl 1 rfl ?_
        refine ka_46 hC dX8_put_45 rfl (by decide) (by decide) (by omega) (by omega) ?_
        refine kw_iadd hC dX8_put_46 rfl ?_
        refine kw_iload_n hC dX8_put_47 rfl 2 rfl ?_
        refine ks_45 hC dX8_put_48 rfl (by decide) (by decide) (by omega) (by omega) ?_
        refine kw_hv hfS (by unfold fV; omega) (fun S4 hfS4 hv4 ho4 => ?_)
        have hw1 := hRS.wdo.let (W' := S4) (p := 100 * a + S 46 0 a) (fun s => ho4 46 0 s (by omega)) (fun j hj => ho4 45 0 j (by omega)) (by rw [hv4]; omega)
        have hlq : S4 46 0 a = S 46 0 a := ho4 46 0 a (by omega)
        refine kw_aload_n hC dX8_put_49 rfl 0 rfl ?_
        refine kg_30_6 hC w8 f43 dX8_put_50 rfl (by decide) (by decide) ?_
        refine kw_iload_n hC dX8_put_53 rfl 1 rfl ?_
        refine kw_dup2 hC dX8_put_54 rfl rfl rfl ?_
        refine ka_46 hC dX8_put_55 rfl (by decide) (by decide) (by omega) (by omega) ?_
        refine kw_chi (z' := S 46 0 a) (ho4 46 0 a (by omega)) ?_
        have hz := hv4
        refine kw_iconst hC dX8_put_56 rfl ?_
        refine kw_iadd hC dX8_put_57 rfl ?_
        refine ks_46 hC dX8_put_58 rfl (by decide) (by decide) (by omega) (by omega) ?_
        refine kw_hv hfS4 (by unfold fV; omega) (fun S5 hfS5 hv5 ho5 => ?_)
        have hw9 := hRS.wd hfS5 (hw1.len (a := a) (fun j => ho5 45 0 j (by omega)) (fun s hs => ho5 46 0 s (by omega)) (by omega) (fun k k0 k1 => by rw [hv5] at k1; rcases Decidable.em (k = S 46 0 a) with e | e; exact (by rw [e, hz]; omega); exact hw1.2 a k (by omega) (by omega) k0 (by omega)))
        refine kw_aload_n hC dX8_put_59 rfl 0 rfl ?_
        refine kg_30_6 hC w8 f43 dX8_put_60 rfl (by decide) (by decide) ?_
        refine kw_iload_n hC dX8_put_63 rfl 1 rfl ?_
        refine ka_46 hC dX8_put_64 rfl (by decide) (by decide) (by omega) (by omega) ?_
        exact hR9.1 rfl _ _ _ _ dX8_put_65 (by first | exact ⟨_, rfl, hw9, fV_tW hfS5⟩ | exact ⟨_, rfl, hRS, Fr.rfl _ S⟩)
      · refine kw_bipush hC dX8_put_29 rfl (by decide) ?_
        exact hR9.1 rfl _ _ _ _ dX8_put_31 (by first | exact ⟨_, rfl, hw9, fV_tW hfS⟩ | exact ⟨_, rfl, hRS, Fr.rfl _ S⟩)
    · refine kw_iconst hC dX8_put_16 rfl ?_
      exact hR9.1 rfl _ _ _ _ dX8_put_17 (by first | exact ⟨_, rfl, hw9, fV_tW hfS⟩ | exact ⟨_, rfl, hRS, Fr.rfl _ S⟩)

set_option maxHeartbeats 4000000 in
set_option maxRecDepth 100000 in
theorem d_X8_at {g : wG} (hD : wD g) {S : wSt} {a b : Int} (ha : -2147483648 ≤ a ∧ a ≤ 2147483647) (hb : -2147483648 ≤ b ∧ b ≤ 2147483647) (hRS : RI S) (l : Launch) : Kt l yX8_at wsX8_at ({ frames := 2, cells := 0, slots := 0, locals := 45 } : Room) g S [vr g 30 0, vi a, vi b] (pI (fun _ S' => RI S' ∧ Fr tW S S')) := by
  refine Kt.of (cc := cX8_at) (nL := 3) (ret := (some .int)) (own := RX8) rfl hD (by decide) rfl (Nat.le_of_ble_eq_true rfl) ⟨rfl, rfl⟩ ?_
  intro E hC hR9
  have f43 : Cond.fieldLink RX8 43 "MirrorBenchModel" "lengths" "[I" ∈ wsX8_at := by decide +kernel
  have f52 : Cond.fieldLink RX8 52 "MirrorBenchModel" "words" "[I" ∈ wsX8_at := by decide +kernel
  have l55 : Cond.constantLong RX8 55 (Int64.ofInt (-1)) ∈ wsX8_at := by decide +kernel
  have w8 : ∀ w ∈ wsX80, w ∈ wsX8_at := by decide +kernel
  show Wk E g 3 S 0 [(0, vr g 30 0), (1, vi a), (2, vi b)] []
  refine kw_iload_n hC dX8_at_0 rfl 1 rfl ?_
  refine kw_callS hC (d_X8_isSlot hD (by omega)) gX8_at_X8_isSlot rfl ⟨rfl, rfl⟩ 1 (by decide +kernel) ⟨by decide, by decide⟩ rfl rfl (Nat.le_of_ble_eq_true rfl) dX8_at_1 rfl (kd_ie ?_)
  refine kw_ifeq_b (tgt := 27) hC dX8_at_4 rfl (by decide) ⟨fun c4 => ?_, fun c4 => ?_⟩
  · refine kw_iconst hC dX8_at_27 rfl ?_
    exact hR9.1 rfl _ _ _ _ dX8_at_28 ⟨_, rfl, hRS, Fr.rfl _ S⟩
  · refine kw_iload_n hC dX8_at_7 rfl 2 rfl ?_
    refine kw_i2l hC dX8_at_8 rfl (by omega) ?_
    refine kw_ldc2 (z := -1) hC dX8_at_9 rfl l55 ?_
    have hla := hRS.ln a (by omega) (by omega)
    refine kw_aload_n hC dX8_at_12 rfl 0 rfl ?_
    refine kg_30_6 hC w8 f43 dX8_at_13 rfl (by decide) (by decide) ?_
    refine kw_iload_n hC dX8_at_16 rfl 1 rfl ?_
    refine ka_46 hC dX8_at_17 rfl (by decide) (by decide) (by omega) (by omega) ?_
    refine kw_iconst hC dX8_at_18 rfl ?_
    refine kw_isub hC dX8_at_19 rfl ?_
    refine kw_i2l hC dX8_at_20 rfl (by omega) ?_
    refine kw_callS hC (d_X8_in hD (by omega) (by omega) (by omega)) gX8_at_X8_in rfl ⟨rfl, rfl⟩ 3 (by decide +kernel) ⟨by decide, by decide⟩ rfl rfl (Nat.le_of_ble_eq_true rfl) dX8_at_21 rfl (kd_ie ?_)
    refine kw_ifne_b (tgt := 29) hC dX8_at_24 rfl (by decide) ⟨fun c24 => ?_, fun c24 => ?_⟩
    · refine kw_iload_n hC dX8_at_29 rfl 2 rfl ?_
      refine kw_iconst hC dX8_at_30 rfl ?_
      refine kw_icmp_ne (tgt := 43) hC dX8_at_31 rfl (by decide) (by omega) (by omega) ⟨fun c31 => ?_, fun c31 => ?_⟩
      · refine kw_aload_n hC dX8_at_43 rfl 0 rfl ?_
        refine kg_30_5 hC w8 f52 dX8_at_44 rfl (by decide) (by decide) ?_
        refine kw_bipush hC dX8_at_47 rfl (by decide) ?_
        refine kw_iload_n hC dX8_at_49 rfl 1 rfl ?_
        refine kw_imul hC dX8_at_50 rfl ?_
        refine kw_iload_n hC dX8_at_51 rfl 2 rfl ?_
        refine kw_iadd hC dX8_at_52 rfl ?_
        refine ka_45 hC dX8_at_53 rfl (by decide) (by decide) (by omega) (by omega) ?_
        exact hR9.1 rfl _ _ _ _ dX8_at_54 ⟨_, rfl, hRS, Fr.rfl _ S⟩
      · refine kw_aload_n hC dX8_at_34 rfl 0 rfl ?_
        refine kg_30_6 hC w8 f43 dX8_at_35 rfl (by decide) (by decide) ?_
        refine kw_iload_n hC dX8_at_38 rfl 1 rfl ?_
        refine ka_46 hC dX8_at_39 rfl (by decide) (by decide) (by omega) (by omega) ?_
        refine kw_goto (tgt := 54) hC dX8_at_40 rfl (by decide) ?_
        exact hR9.1 rfl _ _ _ _ dX8_at_54 ⟨_, rfl, hRS, Fr.rfl _ S⟩
    · refine kw_iconst hC dX8_at_27 rfl ?_
      exact hR9.1 rfl _ _ _ _ dX8_at_28 ⟨_, rfl, hRS, Fr.rfl _ S⟩

set_option maxHeartbeats 4000000 in
set_option maxRecDepth 100000 in
theorem d_X8_times {g : wG} (hD : wD g) {S : wSt} {a b c : Int} (ha : -2147483648 ≤ a ∧ a ≤ 2147483647) (hb : -2147483648 ≤ b ∧ b ≤ 2147483647) (hc : -2147483648 ≤ c ∧ c ≤ 2147483647) (hRS : RI S) (l : Launch) : Kt l yX8_times wsX8_times ({ frames := 2, cells := 0, slots := 0, locals := 45 } : Room) g S [vr g 30 0, vi a, vi b, vi c] (pI (fun _ S' => RI S' ∧ Fr tW S S')) := by
  refine Kt.of (cc := cX8_times) (nL := 4) (ret := (some .int)) (own := RX8) rfl hD (by decide) rfl (Nat.le_of_ble_eq_true rfl) ⟨rfl, rfl⟩ ?_
  intro E hC hR9
  have f43 : Cond.fieldLink RX8 43 "MirrorBenchModel" "lengths" "[I" ∈ wsX8_times := by decide +kernel
  have w8 : ∀ w ∈ wsX80, w ∈ wsX8_times := by decide +kernel
  show Wk E g 4 S 0 [(0, vr g 30 0), (1, vi a), (2, vi b), (3, vi c)] []
  have hfS : Fr tR S S := Fr.rfl _ S
  have hRS := hRS.fr hfS
  have hnS := hRS.n
  have enS : S 30 0 0 = S 30 0 0 := hfS 30 0 0 (by unfold tR; omega)
  refine kw_iload_n hC dX8_times_0 rfl 1 rfl ?_
  refine kw_callS hC (d_X8_isSlot hD (by omega)) gX8_times_X8_isSlot rfl ⟨rfl, rfl⟩ 1 (by decide +kernel) ⟨by decide, by decide⟩ rfl rfl (Nat.le_of_ble_eq_true rfl) dX8_times_1 rfl (kd_ie ?_)
  refine kw_ifeq_b (tgt := 21) hC dX8_times_4 rfl (by decide) ⟨fun c4 => ?_, fun c4 => ?_⟩
  · refine kw_iconst hC dX8_times_21 rfl ?_
    exact hR9.1 rfl _ _ _ _ dX8_times_22 (by first | exact ⟨_, rfl, hp9.2.1, (tR_tW hfS).trans (fV_tW hp9.2.2.1)⟩ | exact ⟨_, rfl, hRS, tR_tW hfS⟩)
  · refine kw_iload_n hC dX8_times_7 rfl 2 rfl ?_
    refine kw_callS hC (d_X8_isSlot hD (by omega)) gX8_times_X8_isSlot rfl ⟨rfl, rfl⟩ 1 (by decide +kernel) ⟨by decide, by decide⟩ rfl rfl (Nat.le_of_ble_eq_true rfl) dX8_times_8 rfl (kd_ie ?_)
    refine kw_ifeq_b (tgt := 21) hC dX8_times_11 rfl (by decide) ⟨fun c11 => ?_, fun c11 => ?_⟩
    · refine kw_iconst hC dX8_times_21 rfl ?_
      exact hR9.1 rfl _ _ _ _ dX8_times_22 (by first | exact ⟨_, rfl, hp9.2.1, (tR_tW hfS).trans (fV_tW hp9.2.2.1)⟩ | exact ⟨_, rfl, hRS, tR_tW hfS⟩)
    · refine kw_iload_n hC dX8_times_14 rfl 3 rfl ?_
      refine kw_callS hC (d_X8_isSlot hD (by omega)) gX8_times_X8_isSlot rfl ⟨rfl, rfl⟩ 1 (by decide +kernel) ⟨by decide, by decide⟩ rfl rfl (Nat.le_of_ble_eq_true rfl) dX8_times_15 rfl (kd_ie ?_)
      refine kw_ifne_b (tgt := 23) hC dX8_times_18 rfl (by decide) ⟨fun c18 => ?_, fun c18 => ?_⟩
      · have hla := hRS.ln a (by omega) (by omega)
        have hlb := hRS.ln b (by omega) (by omega)
        refine kw_aload_n hC dX8_times_23 rfl 0 rfl ?_
        refine kg_30_6 hC w8 f43 dX8_times_24 rfl (by decide) (by decide) ?_
        refine kw_iload_n hC dX8_times_27 rfl 1 rfl ?_
        refine ka_46 hC dX8_times_28 rfl (by decide) (by decide) (by omega) (by omega) ?_
        refine kw_aload_n hC dX8_times_29 rfl 0 rfl ?_
        refine kg_30_6 hC w8 f43 dX8_times_30 rfl (by decide) (by decide) ?_
        refine kw_iload_n hC dX8_times_33 rfl 2 rfl ?_
        refine ka_46 hC dX8_times_34 rfl (by decide) (by decide) (by omega) (by omega) ?_
        refine kw_iadd hC dX8_times_35 rfl ?_
        refine kw_bipush hC dX8_times_36 rfl (by decide) ?_
        refine kw_icmp_le (tgt := 44) hC dX8_times_38 rfl (by decide) (by omega) (by omega) ⟨fun c38 => ?_, fun c38 => ?_⟩
        · refine kw_aload_n hC dX8_times_44 rfl 0 rfl ?_
          refine kw_iload_n hC dX8_times_45 rfl 1 rfl ?_
          refine kw_callV hC (d_X8_load hD (by omega) (by omega) hRS) gX8_times_X8_load ⟨_, rfl⟩ rfl (by decide) (by decide) rfl ⟨rfl, rfl⟩ 1 (by decide +kernel) ⟨by decide, by decide⟩ rfl rfl (Nat.le_of_ble_eq_true rfl) dX8_times_46 rfl (kd_v (fun S5 hp5 => ?_))
          obtain ⟨hg5, hp5⟩ := hp5
          have hfS5 : Fr tR S S5 := hfS.trans (hg5.mono (fun k i j h => by unfold fL at h; unfold tR; omega))
          have hRS5 := hRS.fr hfS5
          have hnS5 := hRS5.n
          have enS5 : S5 30 0 0 = S 30 0 0 := hfS5 30 0 0 (by unfold tR; omega)
          obtain ⟨q14, qW⟩ := hp5
          have hwv : WV (S5 53 0) (S5 30 0 14) (S5 30 0 0) := ldWV hRS (by omega) (by omega) q14 qW (by omega)
          have hl5 := hRS.ln a (by omega) (by omega)
          refine kw_aload_n hC dX8_times_49 rfl 0 rfl ?_
          refine kw_iload_n hC dX8_times_50 rfl 2 rfl ?_
          refine kw_callV hC (d_X8_loadMore hD (by omega) (by omega) hRS5 (by omega) (by rw [hfS5 46 0 b (by unfold tR; omega)]; omega)) gX8_times_X8_loadMore ⟨_, rfl⟩ rfl (by decide) (by decide) rfl ⟨rfl, rfl⟩ 1 (by decide +kernel) ⟨by decide, by decide⟩ rfl rfl (Nat.le_of_ble_eq_true rfl) dX8_times_51 rfl (kd_v (fun S6 hp6 => ?_))
          obtain ⟨hg6, hp6⟩ := hp6
          have hfS6 : Fr tR S S6 := hfS5.trans (hg6.mono (fun k i j h => by unfold fL at h; unfold tR; omega))
          have hRS6 := hRS.fr hfS6
          have hnS6 := hRS6.n
          have enS6 : S6 30 0 0 = S 30 0 0 := hfS6 30 0 0 (by unfold tR; omega)
          obtain ⟨q15, qX, qY⟩ := hp6
          have hlb2 : S5 46 0 b = S 46 0 b := hfS5 46 0 b (by unfold tR; omega)
          have hwv : WV (S6 53 0) (S6 30 0 14) (S6 30 0 0) := lmWV hRS5 hwv (by omega) (by omega) q15 qX qY (by omega)
          refine kw_aload_n hC dX8_times_54 rfl 0 rfl ?_
          refine kw_iload_n hC dX8_times_55 rfl 3 rfl ?_
          refine kw_callV hC (d_X8_store hD (by omega) (by omega) hRS6 hwv (by omega) (by omega)) gX8_times_X8_store ⟨_, rfl⟩ rfl (by decide) (by decide) rfl ⟨rfl, rfl⟩ 1 (by decide +kernel) ⟨by decide, by decide⟩ rfl rfl (Nat.le_of_ble_eq_true rfl) dX8_times_56 rfl (kd_i (fun r9 Sz hp9 => ?_))
          exact hR9.1 rfl _ _ _ _ dX8_times_59 (by first | exact ⟨_, rfl, hp9.2.1, (tR_tW hfS6).trans (fV_tW hp9.2.2.1)⟩ | exact ⟨_, rfl, hRS6, tR_tW hfS6⟩)
        · refine kw_bipush hC dX8_times_41 rfl (by decide) ?_
          exact hR9.1 rfl _ _ _ _ dX8_times_43 (by first | exact ⟨_, rfl, hp9.2.1, (tR_tW hfS).trans (fV_tW hp9.2.2.1)⟩ | exact ⟨_, rfl, hRS, tR_tW hfS⟩)
      · refine kw_iconst hC dX8_times_21 rfl ?_
        exact hR9.1 rfl _ _ _ _ dX8_times_22 (by first | exact ⟨_, rfl, hp9.2.1, (tR_tW hfS).trans (fV_tW hp9.2.2.1)⟩ | exact ⟨_, rfl, hRS, tR_tW hfS⟩)

set_option maxHeartbeats 4000000 in
set_option maxRecDepth 100000 in
theorem d_X8_back {g : wG} (hD : wD g) {S : wSt} {a b : Int} (ha : -2147483648 ≤ a ∧ a ≤ 2147483647) (hb : -2147483648 ≤ b ∧ b ≤ 2147483647) (hRS : RI S) (l : Launch) : Kt l yX8_back wsX8_back ({ frames := 2, cells := 0, slots := 0, locals := 45 } : Room) g S [vr g 30 0, vi a, vi b] (pI (fun _ S' => RI S' ∧ Fr tW S S')) := by
  refine Kt.of (cc := cX8_back) (nL := 3) (ret := (some .int)) (own := RX8) rfl hD (by decide) rfl (Nat.le_of_ble_eq_true rfl) ⟨rfl, rfl⟩ ?_
  intro E hC hR9
  show Wk E g 3 S 0 [(0, vr g 30 0), (1, vi a), (2, vi b)] []
  have hfS : Fr tR S S := Fr.rfl _ S
  have hRS := hRS.fr hfS
  have hnS := hRS.n
  have enS : S 30 0 0 = S 30 0 0 := hfS 30 0 0 (by unfold tR; omega)
  refine kw_iload_n hC dX8_back_0 rfl 1 rfl ?_
  refine kw_callS hC (d_X8_isSlot hD (by omega)) gX8_back_X8_isSlot rfl ⟨rfl, rfl⟩ 1 (by decide +kernel) ⟨by decide, by decide⟩ rfl rfl (Nat.le_of_ble_eq_true rfl) dX8_back_1 rfl (kd_ie ?_)
  refine kw_ifeq_b (tgt := 14) hC dX8_back_4 rfl (by decide) ⟨fun c4 => ?_, fun c4 => ?_⟩
  · refine kw_iconst hC dX8_back_14 rfl ?_
    exact hR9.1 rfl _ _ _ _ dX8_back_15 (by first | exact ⟨_, rfl, hp9.2.1, (tR_tW hfS).trans (fV_tW hp9.2.2.1)⟩ | exact ⟨_, rfl, hRS, tR_tW hfS⟩)
  · refine kw_iload_n hC dX8_back_7 rfl 2 rfl ?_
    refine kw_callS hC (d_X8_isSlot hD (by omega)) gX8_back_X8_isSlot rfl ⟨rfl, rfl⟩ 1 (by decide +kernel) ⟨by decide, by decide⟩ rfl rfl (Nat.le_of_ble_eq_true rfl) dX8_back_8 rfl (kd_ie ?_)
    refine kw_ifne_b (tgt := 16) hC dX8_back_11 rfl (by decide) ⟨fun c11 => ?_, fun c11 => ?_⟩
    · refine kw_aload_n hC dX8_back_16 rfl 0 rfl ?_
      refine kw_iload_n hC dX8_back_17 rfl 1 rfl ?_
      refine kw_callV hC (d_X8_loadBack hD (by omega) (by omega) hRS) gX8_back_X8_loadBack ⟨_, rfl⟩ rfl (by decide) (by decide) rfl ⟨rfl, rfl⟩ 1 (by decide +kernel) ⟨by decide, by decide⟩ rfl rfl (Nat.le_of_ble_eq_true rfl) dX8_back_18 rfl (kd_v (fun S3 hp3 => ?_))
      obtain ⟨hg3, hp3⟩ := hp3
      have hfS3 : Fr tR S S3 := hfS.trans (hg3.mono (fun k i j h => by unfold fL at h; unfold tR; omega))
      have hRS3 := hRS.fr hfS3
      have hnS3 := hRS3.n
      have enS3 : S3 30 0 0 = S 30 0 0 := hfS3 30 0 0 (by unfold tR; omega)
      obtain ⟨q14, qW⟩ := hp3
      have hwv : WV (S3 53 0) (S3 30 0 14) (S3 30 0 0) := lbWV hRS (by omega) (by omega) q14 qW (by omega)
      have hl3 := hRS.ln a (by omega) (by omega)
      refine kw_aload_n hC dX8_back_21 rfl 0 rfl ?_
      refine kw_iload_n hC dX8_back_22 rfl 2 rfl ?_
      refine kw_callV hC (d_X8_store hD (by omega) (by omega) hRS3 hwv (by omega) (by omega)) gX8_back_X8_store ⟨_, rfl⟩ rfl (by decide) (by decide) rfl ⟨rfl, rfl⟩ 1 (by decide +kernel) ⟨by decide, by decide⟩ rfl rfl (Nat.le_of_ble_eq_true rfl) dX8_back_23 rfl (kd_i (fun r9 Sz hp9 => ?_))
      exact hR9.1 rfl _ _ _ _ dX8_back_26 (by first | exact ⟨_, rfl, hp9.2.1, (tR_tW hfS3).trans (fV_tW hp9.2.2.1)⟩ | exact ⟨_, rfl, hRS3, tR_tW hfS3⟩)
    · refine kw_iconst hC dX8_back_14 rfl ?_
      exact hR9.1 rfl _ _ _ _ dX8_back_15 (by first | exact ⟨_, rfl, hp9.2.1, (tR_tW hfS).trans (fV_tW hp9.2.2.1)⟩ | exact ⟨_, rfl, hRS, tR_tW hfS⟩)

set_option maxHeartbeats 4000000 in
set_option maxRecDepth 100000 in
theorem d_X8_without {g : wG} (hD : wD g) {S : wSt} {a b : Int} (ha : -2147483648 ≤ a ∧ a ≤ 2147483647) (hb : -2147483648 ≤ b ∧ b ≤ 2147483647) (hRS : RI S) (l : Launch) : Kt l yX8_without wsX8_without ({ frames := 2, cells := 0, slots := 0, locals := 45 } : Room) g S [vr g 30 0, vi a, vi b] (pI (fun _ S' => RI S' ∧ Fr tW S S')) := by
  refine Kt.of (cc := cX8_without) (nL := 5) (ret := (some .int)) (own := RX8) rfl hD (by decide) rfl (Nat.le_of_ble_eq_true rfl) ⟨rfl, rfl⟩ ?_
  intro E hC hR9
  have f14 : Cond.fieldLink RX8 14 "MirrorBenchModel" "kinds" "[I" ∈ wsX8_without := by decide +kernel
  have f43 : Cond.fieldLink RX8 43 "MirrorBenchModel" "lengths" "[I" ∈ wsX8_without := by decide +kernel
  have f52 : Cond.fieldLink RX8 52 "MirrorBenchModel" "words" "[I" ∈ wsX8_without := by decide +kernel
  have f57 : Cond.fieldLink RX8 57 "MirrorBenchModel" "wMany" "I" ∈ wsX8_without := by decide +kernel
  have f60 : Cond.fieldLink RX8 60 "MirrorBenchModel" "w" "[I" ∈ wsX8_without := by decide +kernel
  have w8 : ∀ w ∈ wsX80, w ∈ wsX8_without := by decide +kernel
  show Wk E g 5 S 0 [(0, vr g 30 0), (1, vi a), (2, vi b)] []
  have hfS : Fr tR S S := Fr.rfl _ S
  have hRS := hRS.fr hfS
  have hnS := hRS.n
  have enS : S 30 0 0 = S 30 0 0 := hfS 30 0 0 (by unfold tR; omega)
  refine kw_iload_n hC dX8_without_0 rfl 1 rfl ?_
  refine kw_callS hC (d_X8_isSlot hD (by omega)) gX8_without_X8_isSlot rfl ⟨rfl, rfl⟩ 1 (by decide +kernel) ⟨by decide, by decide⟩ rfl rfl (Nat.le_of_ble_eq_true rfl) dX8_without_1 rfl (kd_ie ?_)
  refine kw_ifeq_b (tgt := 14) hC dX8_without_4 rfl (by decide) ⟨fun c4 => ?_, fun c4 => ?_⟩
  · refine kw_iconst hC dX8_without_14 rfl ?_
    exact hR9.1 rfl _ _ _ _ dX8_without_15 (by first | exact ⟨_, rfl, hp9.2.1, (tR_tW hfS).trans (fV_tW hp9.2.2.1)⟩ | exact ⟨_, rfl, hRS, tR_tW hfS⟩)
  · refine kw_iload_n hC dX8_without_7 rfl 2 rfl ?_
    refine kw_callS hC (d_X8_isSlot hD (by omega)) gX8_without_X8_isSlot rfl ⟨rfl, rfl⟩ 1 (by decide +kernel) ⟨by decide, by decide⟩ rfl rfl (Nat.le_of_ble_eq_true rfl) dX8_without_8 rfl (kd_ie ?_)
    refine kw_ifne_b (tgt := 16) hC dX8_without_11 rfl (by decide) ⟨fun c11 => ?_, fun c11 => ?_⟩
    · have hla := hRS.ln a (by omega) (by omega)
      refine kw_aload_n hC dX8_without_16 rfl 0 rfl ?_
      refine kw_iconst hC dX8_without_17 rfl ?_
      refine kp_30_14 hC w8 f57 dX8_without_18 rfl (by decide) (by decide) ?_
      refine kw_hv hfS (by unfold tR; omega) (fun S3 hfS3 hv3 ho3 => ?_)
      have hRS3 := hRS.fr hfS3
      have hnS3 := hRS3.n
      have enS3 : S3 30 0 0 = S 30 0 0 := hfS3 30 0 0 (by unfold tR; omega)
      refine kw_iconst hC dX8_without_21 rfl ?_
      refine kw_istore_n (lv' := [(3, _), (0, _), (1, _), (2, _)]) hC dX8_without_22 rfl (by decide) rfl ?_
      have hL23 : ∀ (n23 : Nat) (x : Int) (W23 : wSt), Fr tR S W23 → (0 ≤ x) → (x ≤ S 46 0 a) → (0 ≤ W23 30 0 14) → (W23 30 0 14 ≤ x) → (WV (W23 53 0) (W23 30 0 14) (S 30 0 0)) → S 46 0 a - x < (n23 : Int) → Wk E g 5 W23 23 [(0, vr g 30 0), (1, vi a), (2, vi b), (3, vi x)] [] := by
        intro n23
        induction n23 with
        | zero => intro x W23 hfW23 hx0 hx1 w0 w1 hwv hm23; exact absurd hm23 (by omega)
        | succ n23 ih23 =>
          intro x W23 hfW23 hx0 hx1 w0 w1 hwv hm23
          have hRW23 := hRS.fr hfW23
          have hnW23 := hRW23.n
          have enW23 : W23 30 0 0 = S 30 0 0 := hfW23 30 0 0 (by unfold tR; omega)
          have hla2 : W23 46 0 a = S 46 0 a := hfW23 46 0 a (by unfold tR; omega)
          refine kw_iload_n hC dX8_without_23 rfl 3 rfl ?_
          refine kw_aload_n hC dX8_without_24 rfl 0 rfl ?_
          refine kg_30_6 hC w8 f43 dX8_without_25 rfl (by decide) (by decide) ?_
          refine kw_iload_n hC dX8_without_28 rfl 1 rfl ?_
          refine ka_46 hC dX8_without_29 rfl (by decide) (by decide) (by omega) (by omega) ?_
          refine kw_icmp_ge (tgt := 84) hC dX8_without_30 rfl (by decide) (by omega) (by omega) ⟨fun c30 => ?_, fun c30 => ?_⟩
          · refine kw_aload_n hC dX8_without_84 rfl 0 rfl ?_
            refine kw_iload_n hC dX8_without_85 rfl 2 rfl ?_
            refine kw_callV hC (d_X8_store hD (by omega) (by omega) hRW23 (hwv.eq (fun _ _ _ => rfl) rfl enW23) (by omega) (by omega)) gX8_without_X8_store ⟨_, rfl⟩ rfl (by decide) (by decide) rfl ⟨rfl, rfl⟩ 1 (by decide +kernel) ⟨by decide, by decide⟩ rfl rfl (Nat.le_of_ble_eq_true rfl) dX8_without_86 rfl (kd_i (fun r9 Sz hp9 => ?_))
            exact hR9.1 rfl _ _ _ _ dX8_without_89 (by first | exact ⟨_, rfl, hp9.2.1, (tR_tW hfW23).trans (fV_tW hp9.2.2.1)⟩ | exact ⟨_, rfl, hRW23, tR_tW hfW23⟩)
          · refine kw_aload_n hC dX8_without_33 rfl 0 rfl ?_
            refine kg_30_5 hC w8 f52 dX8_without_34 rfl (by decide) (by decide) ?_
            refine kw_bipush hC dX8_without_37 rfl (by decide) ?_
            refine kw_iload_n hC dX8_without_39 rfl 1 rfl ?_
            refine kw_imul hC dX8_without_40 rfl ?_
            refine kw_iload_n hC dX8_without_41 rfl 3 rfl ?_
            refine kw_iadd hC dX8_without_42 rfl ?_
            refine ka_45 hC dX8_without_43 rfl (by decide) (by decide) (by omega) (by omega) ?_
            have hlt := hRW23.lt a x (by omega) (by omega) (by omega) (by omega)
            refine kw_istore (lv' := [(4, _), (0, _), (1, _), (2, _), (3, _)]) hC dX8_without_44 rfl (by decide) rfl ?_
            refine kw_aload_n hC dX8_without_46 rfl 1 rfl ?_
            refine kg_30_1 hC w8 f14 dX8_without_47 rfl (by decide) (by decide) ?_
            refine kw_iload hC dX8_without_50 rfl 0 rfl ?_
            refine ka_41 hC dX8_without_52 rfl (by decide) (by decide) (by omega) (by omega) ?_
            have hkd := hRW23.kd (W23 45 0 (100 * a + x)) (by omega) (by omega)
            refine kw_iconst hC dX8_without_53 rfl ?_
            refine kw_icmp_eq (tgt := 78) hC dX8_without_54 rfl (by decide) (by omega) (by omega) ⟨fun c54 => ?_, fun c54 => ?_⟩
            · refine kw_iinc (lv' := [(3, _), (4, _), (0, _), (1, _), (2, _)]) hC dX8_without_78 rfl 4 rfl (by decide) rfl ?_
              refine kw_goto (tgt := 23) hC dX8_without_81 rfl (by decide) ?_
              refine kw_lv [2, 3, 4, 0] rfl ?_
              exact ih23 (x + 1) W23 hfW23 (by omega) (by omega) (by omega) (by omega) hwv (by omega)
            · refine kw_aload_n hC dX8_without_57 rfl 1 rfl ?_
              refine kg_30_13 hC w8 f60 dX8_without_58 rfl (by decide) (by decide) ?_
              refine kw_aload_n hC dX8_without_61 rfl 1 rfl ?_
              refine kg_30_14 hC w8 f57 dX8_without_62 rfl (by decide) (by decide) ?_
              refine kw_iload hC dX8_without_65 rfl 0 rfl ?_
              refine ks_53 hC dX8_without_67 rfl (by decide) (by decide) (by omega) (by omega) ?_
              refine kw_hv hfW23 (by unfold tR; omega) (fun S6 hfS6 hv6 ho6 => ?_)
              have hRS6 := hRS.fr hfS6
              have hnS6 := hRS6.n
              have enS6 : S6 30 0 0 = S 30 0 0 := hfS6 30 0 0 (by unfold tR; omega)
              have w14 : S6 30 0 14 = W23 30 0 14 := ho6 30 0 14 (by omega)
              have hw1 : WV (S6 53 0) (W23 30 0 14 + 1) (S 30 0 0) := hwv.add (fun j hj => ho6 53 0 j (by omega)) (by rw [hv6]; omega)
              refine kw_aload_n hC dX8_without_68 rfl 1 rfl ?_
              refine kw_dup hC dX8_without_69 rfl rfl ?_
              refine kg_30_14 hC w8 f57 dX8_without_70 rfl (by decide) (by decide) ?_
              refine kw_iconst hC dX8_without_73 rfl ?_
              refine kw_iadd hC dX8_without_74 rfl ?_
              refine kp_30_14 hC w8 f57 dX8_without_75 rfl (by decide) (by decide) ?_
              refine kw_hv hfS6 (by unfold tR; omega) (fun S7 hfS7 hv7 ho7 => ?_)
              have hRS7 := hRS.fr hfS7
              have hnS7 := hRS7.n
              have enS7 : S7 30 0 0 = S 30 0 0 := hfS7 30 0 0 (by unfold tR; omega)
              have hwv : WV (S7 53 0) (S7 30 0 14) (S 30 0 0) := hw1.eq (fun j _ _ => ho7 53 0 j (by omega)) (by have := hv7; omega) rfl
              have x14 := hv7
              refine kw_iinc (lv' := [(3, _), (4, _), (0, _), (1, _), (2, _)]) hC dX8_without_78 rfl 4 rfl (by decide) rfl ?_
              refine kw_goto (tgt := 23) hC dX8_without_81 rfl (by decide) ?_
              refine kw_lv [2, 3, 4, 0] rfl ?_
              exact ih23 (x + 1) S7 hfS7 (by omega) (by omega) (by omega) (by omega) hwv (by omega)
      refine kw_lv [1, 2, 3, 0] rfl ?_
      exact hL23 101 0 S3 hfS3 (by omega) (by omega) (by have := hv3; omega) (by have := hv3; omega) (fun j j0 j1 => by have := hv3; omega) (by omega)
    · refine kw_iconst hC dX8_without_14 rfl ?_
      exact hR9.1 rfl _ _ _ _ dX8_without_15 (by first | exact ⟨_, rfl, hp9.2.1, (tR_tW hfS).trans (fV_tW hp9.2.2.1)⟩ | exact ⟨_, rfl, hRS, tR_tW hfS⟩)

set_option maxHeartbeats 4000000 in
set_option maxRecDepth 100000 in
theorem d_X8_cut {g : wG} (hD : wD g) {S : wSt} {a b : Int} (ha : -2147483648 ≤ a ∧ a ≤ 2147483647) (hb : -2147483648 ≤ b ∧ b ≤ 2147483647) (hRS : RI S) (l : Launch) : Kt l yX8_cut wsX8_cut ({ frames := 2, cells := 0, slots := 0, locals := 45 } : Room) g S [vr g 30 0, vi a, vi b] (pI (fun _ S' => RI S' ∧ Fr tW S S')) := by
  refine Kt.of (cc := cX8_cut) (nL := 5) (ret := (some .int)) (own := RX8) rfl hD (by decide) rfl (Nat.le_of_ble_eq_true rfl) ⟨rfl, rfl⟩ ?_
  intro E hC hR9
  have f43 : Cond.fieldLink RX8 43 "MirrorBenchModel" "lengths" "[I" ∈ wsX8_cut := by decide +kernel
  have f52 : Cond.fieldLink RX8 52 "MirrorBenchModel" "words" "[I" ∈ wsX8_cut := by decide +kernel
  have w8 : ∀ w ∈ wsX80, w ∈ wsX8_cut := by decide +kernel
  show Wk E g 5 S 0 [(0, vr g 30 0), (1, vi a), (2, vi b)] []
  have hfS : Fr fV S S := Fr.rfl _ S
  have hn := hRS.n
  refine kw_iload_n hC dX8_cut_0 rfl 1 rfl ?_
  refine kw_callS hC (d_X8_isSlot hD (by omega)) gX8_cut_X8_isSlot rfl ⟨rfl, rfl⟩ 1 (by decide +kernel) ⟨by decide, by decide⟩ rfl rfl (Nat.le_of_ble_eq_true rfl) dX8_cut_1 rfl (kd_ie ?_)
  refine kw_ifeq_b (tgt := 25) hC dX8_cut_4 rfl (by decide) ⟨fun c4 => ?_, fun c4 => ?_⟩
  · refine kw_iconst hC dX8_cut_25 rfl ?_
    exact hR9.1 rfl _ _ _ _ dX8_cut_26 (by first | exact ⟨_, rfl, hw9, fV_tW hfS⟩ | exact ⟨_, rfl, hRS, Fr.rfl _ S⟩)
  · have hla := hRS.ln a (by omega) (by omega)
    refine kw_iload_n hC dX8_cut_7 rfl 2 rfl ?_
    refine kw_i2l hC dX8_cut_8 rfl (by omega) ?_
    refine kw_lconst (z := 0) hC dX8_cut_9 rfl rfl ?_
    refine kw_aload_n hC dX8_cut_10 rfl 0 rfl ?_
    refine kg_30_6 hC w8 f43 dX8_cut_11 rfl (by decide) (by decide) ?_
    refine kw_iload_n hC dX8_cut_14 rfl 1 rfl ?_
    refine ka_46 hC dX8_cut_15 rfl (by decide) (by decide) (by omega) (by omega) ?_
    refine kw_iconst hC dX8_cut_16 rfl ?_
    refine kw_isub hC dX8_cut_17 rfl ?_
    refine kw_i2l hC dX8_cut_18 rfl (by omega) ?_
    refine kw_callS hC (d_X8_in hD (by omega) (by omega) (by omega)) gX8_cut_X8_in rfl ⟨rfl, rfl⟩ 3 (by decide +kernel) ⟨by decide, by decide⟩ rfl rfl (Nat.le_of_ble_eq_true rfl) dX8_cut_19 rfl (kd_ie ?_)
    refine kw_ifne_b (tgt := 27) hC dX8_cut_22 rfl (by decide) ⟨fun c22 => ?_, fun c22 => ?_⟩
    · refine kw_bipush hC dX8_cut_27 rfl (by decide) ?_
      refine kw_iload_n hC dX8_cut_29 rfl 1 rfl ?_
      refine kw_imul hC dX8_cut_30 rfl ?_
      refine kw_iload_n hC dX8_cut_31 rfl 2 rfl ?_
      refine kw_iadd hC dX8_cut_32 rfl ?_
      refine kw_istore_n (lv' := [(3, _), (0, _), (1, _), (2, _)]) hC dX8_cut_33 rfl (by decide) rfl ?_
      have hl1 := hRS.lt a b (by omega) (by omega) (by omega) (by omega)
      have hl2 := hRS.lt a (b + 1) (by omega) (by omega) (by omega) (by omega)
      rw [← Int.add_assoc] at hl2
      refine kw_aload_n hC dX8_cut_34 rfl 1 rfl ?_
      refine kg_30_5 hC w8 f52 dX8_cut_35 rfl (by decide) (by decide) ?_
      refine kw_iload_n hC dX8_cut_38 rfl 0 rfl ?_
      refine ka_45 hC dX8_cut_39 rfl (by decide) (by decide) (by omega) (by omega) ?_
      refine kw_aload_n hC dX8_cut_40 rfl 1 rfl ?_
      refine kg_30_5 hC w8 f52 dX8_cut_41 rfl (by decide) (by decide) ?_
      refine kw_iload_n hC dX8_cut_44 rfl 0 rfl ?_
      refine kw_iconst hC dX8_cut_45 rfl ?_
      refine kw_iadd hC dX8_cut_46 rfl ?_
      refine ka_45 hC dX8_cut_47 rfl (by decide) (by decide) (by omega) (by omega) ?_
      refine kw_icmp_eq (tgt := 54) hC dX8_cut_48 rfl (by decide) (by omega) (by omega) ⟨fun c48 => ?_, fun c48 => ?_⟩
      · refine kw_iload_n hC dX8_cut_54 rfl 3 rfl ?_
        refine kw_istore (lv' := [(4, _), (3, _), (0, _), (1, _), (2, _)]) hC dX8_cut_55 rfl (by decide) rfl ?_
        have hL57 : ∀ (n57 : Nat) (x : Int) (W57 : wSt), Fr fV S W57 → (b ≤ x) → (x ≤ 100) → (W57 46 0 a = S 46 0 a) → (WdO (S 30 0 0) W57) → 100 - x < (n57 : Int) → Wk E g 5 W57 57 [(0, vr g 30 0), (1, vi a), (2, vi b), (3, vi (100 * a + b)), (4, vi x)] [] := by
          intro n57
          induction n57 with
          | zero => intro x W57 hfW57 hx0 hx1 q46 hW hm57; exact absurd hm57 (by omega)
          | succ n57 ih57 =>
            intro x W57 hfW57 hx0 hx1 q46 hW hm57
            refine kw_iload hC dX8_cut_57 rfl 4 rfl ?_
            refine kw_iconst hC dX8_cut_59 rfl ?_
            refine kw_iadd hC dX8_cut_60 rfl ?_
            refine kw_aload_n hC dX8_cut_61 rfl 0 rfl ?_
            refine kg_30_6 hC w8 f43 dX8_cut_62 rfl (by decide) (by decide) ?_
            refine kw_iload_n hC dX8_cut_65 rfl 1 rfl ?_
            refine ka_46 hC dX8_cut_66 rfl (by decide) (by decide) (by omega) (by omega) ?_
            refine kw_icmp_ge (tgt := 102) hC dX8_cut_67 rfl (by decide) (by omega) (by omega) ⟨fun c67 => ?_, fun c67 => ?_⟩
            · refine kw_aload_n hC dX8_cut_102 rfl 0 rfl ?_
              refine kg_30_6 hC w8 f43 dX8_cut_103 rfl (by decide) (by decide) ?_
              refine kw_iload_n hC dX8_cut_106 rfl 1 rfl ?_
              refine kw_dup2 hC dX8_cut_107 rfl rfl rfl ?_
              refine ka_46 hC dX8_cut_108 rfl (by decide) (by decide) (by omega) (by omega) ?_
              refine kw_chi (z' := S 46 0 a) q46 ?_
              refine kw_iconst hC dX8_cut_109 rfl ?_
              refine kw_isub hC dX8_cut_110 rfl ?_
              refine ks_46 hC dX8_cut_111 rfl (by decide) (by decide) (by omega) (by omega) ?_
              refine kw_hv hfW57 (by unfold fV; omega) (fun S5 hfS5 hv5 ho5 => ?_)
              have hw9 := hRS.wd hfS5 (hW.len (a := a) (fun j => ho5 45 0 j (by omega)) (fun s hs => ho5 46 0 s (by omega)) (by omega) (fun k k0 k1 => by rw [hv5] at k1; exact hW.2 a k (by omega) (by omega) k0 (by omega)))
              refine kw_aload_n hC dX8_cut_112 rfl 0 rfl ?_
              refine kg_30_6 hC w8 f43 dX8_cut_113 rfl (by decide) (by decide) ?_
              refine kw_iload_n hC dX8_cut_116 rfl 1 rfl ?_
              refine ka_46 hC dX8_cut_117 rfl (by decide) (by decide) (by omega) (by omega) ?_
              exact hR9.1 rfl _ _ _ _ dX8_cut_118 (by first | exact ⟨_, rfl, hw9, fV_tW hfS5⟩ | exact ⟨_, rfl, hRS, Fr.rfl _ S⟩)
            · have hl3 := hW.2 a (x + 2) (by omega) (by omega) (by omega) (by omega)
              rw [← Int.add_assoc] at hl3
              refine kw_aload_n hC dX8_cut_70 rfl 0 rfl ?_
              refine kg_30_5 hC w8 f52 dX8_cut_71 rfl (by decide) (by decide) ?_
              refine kw_bipush hC dX8_cut_74 rfl (by decide) ?_
              refine kw_iload_n hC dX8_cut_76 rfl 1 rfl ?_
              refine kw_imul hC dX8_cut_77 rfl ?_
              refine kw_iload hC dX8_cut_78 rfl 4 rfl ?_
              refine kw_iadd hC dX8_cut_80 rfl ?_
              refine kw_aload_n hC dX8_cut_81 rfl 0 rfl ?_
              refine kg_30_5 hC w8 f52 dX8_cut_82 rfl (by decide) (by decide) ?_
              refine kw_bipush hC dX8_cut_85 rfl (by decide) ?_
              refine kw_iload_n hC dX8_cut_87 rfl 1 rfl ?_
              refine kw_imul hC dX8_cut_88 rfl ?_
              refine kw_iload hC dX8_cut_89 rfl 4 rfl ?_
              refine kw_iadd hC dX8_cut_91 rfl ?_
              refine kw_iconst hC dX8_cut_92 rfl ?_
              refine kw_iadd hC dX8_cut_93 rfl ?_
              refine ka_45 hC dX8_cut_94 rfl (by decide) (by decide) (by omega) (by omega) ?_
              refine ks_45 hC dX8_cut_95 rfl (by decide) (by decide) (by omega) (by omega) ?_
              refine kw_hv hfW57 (by unfold fV; omega) (fun S6 hfS6 hv6 ho6 => ?_)
              have hW9 := hW.let (W' := S6) (p := 100 * a + x) (fun s => ho6 46 0 s (by omega)) (fun j hj => ho6 45 0 j (by omega)) (by rw [hv6]; exact hl3)
              have q9 : S6 46 0 a = S 46 0 a := (ho6 46 0 a (by omega)).trans q46
              refine kw_iinc (lv' := [(4, _), (0, _), (1, _), (2, _), (3, _)]) hC dX8_cut_96 rfl 4 rfl (by decide) rfl ?_
              refine kw_goto (tgt := 57) hC dX8_cut_99 rfl (by decide) ?_
              refine kw_lv [1, 2, 3, 4, 0] rfl ?_
              exact ih57 (x + 1) S6 hfS6 (by omega) (by omega) q9 hW9 (by omega)
        refine kw_lv [2, 3, 4, 1, 0] rfl ?_
        exact hL57 101 b S hfS (by omega) (by omega) rfl hRS.wdo (by omega)
      · refine kw_bipush hC dX8_cut_51 rfl (by decide) ?_
        exact hR9.1 rfl _ _ _ _ dX8_cut_53 (by first | exact ⟨_, rfl, hw9, fV_tW hfS⟩ | exact ⟨_, rfl, hRS, Fr.rfl _ S⟩)
    · refine kw_iconst hC dX8_cut_25 rfl ?_
      exact hR9.1 rfl _ _ _ _ dX8_cut_26 (by first | exact ⟨_, rfl, hw9, fV_tW hfS⟩ | exact ⟨_, rfl, hRS, Fr.rfl _ S⟩)

def mAt (i j x y : Int) : Int := if i = j then 1 else if x * y = 0 then 2 else if x * y = 1 then 3 else if x * y = 2 then 4 else if x * y = 3 then 6 else 0
theorem mAt_r (i j x y : Int) : 0 ≤ mAt i j x y ∧ mAt i j x y ≤ 6 := by unfold mAt; (repeat' split) <;> omega
theorem mt_mul {S : wSt} (hR : RI S) {i j : Int} (i0 : 0 ≤ i) (i1 : i < 6) (j0 : 0 ≤ j) (j1 : j < 6) : 0 ≤ S 42 0 (6 * i + j) * S 42 0 (6 * j + i) ∧ S 42 0 (6 * i + j) * S 42 0 (6 * j + i) ≤ 4 := ⟨Int.mul_nonneg (hR.mt i j i0 i1 j0 j1).1 (hR.mt j i j0 j1 i0 i1).1, hR.set.2.2.2.2.2 i j i0 i1 j0 j1⟩

set_option maxHeartbeats 4000000 in
set_option maxRecDepth 100000 in
theorem d_X8_meetsAt {g : wG} (hD : wD g) {S : wSt} {a b : Int} (a0 : 0 ≤ a) (a1 : a < 6) (b0 : 0 ≤ b) (b1 : b < 6) (hRS : RI S) (l : Launch) : Kt l yX8_meetsAt wsX8_meetsAt ({ frames := 0, cells := 0, slots := 0, locals := 0 } : Room) g S [vr g 30 0, vi a, vi b] (pI (fun r S' => r = mAt a b (S 42 0 (6 * a + b)) (S 42 0 (6 * b + a)) ∧ S' = S)) := by
  refine Kt.of (cc := cX8_meetsAt) (nL := 4) (ret := (some .int)) (own := RX8) rfl hD (by decide) rfl (Nat.le_of_ble_eq_true rfl) ⟨rfl, rfl⟩ ?_
  intro E hC hR9
  have f17 : Cond.fieldLink RX8 17 "MirrorBenchModel" "meets" "[I" ∈ wsX8_meetsAt := by decide +kernel
  have w8 : ∀ w ∈ wsX80, w ∈ wsX8_meetsAt := by decide +kernel
  show Wk E g 4 S 0 [(0, vr g 30 0), (1, vi a), (2, vi b)] []
  have hp := mt_mul hRS a0 a1 b0 b1
  refine kw_aload_n hC dX8_meetsAt_0 rfl 0 rfl ?_
  refine kg_30_2 hC w8 f17 dX8_meetsAt_1 rfl (by decide) (by decide) ?_
  refine kw_bipush hC dX8_meetsAt_4 rfl (by decide) ?_
  refine kw_iload_n hC dX8_meetsAt_6 rfl 1 rfl ?_
  refine kw_imul hC dX8_meetsAt_7 rfl ?_
  refine kw_iload_n hC dX8_meetsAt_8 rfl 2 rfl ?_
  refine kw_iadd hC dX8_meetsAt_9 rfl ?_
  refine ka_42 hC dX8_meetsAt_10 rfl (by decide) (by decide) (by omega) (by omega) ?_
  refine kw_aload_n hC dX8_meetsAt_11 rfl 0 rfl ?_
  refine kg_30_2 hC w8 f17 dX8_meetsAt_12 rfl (by decide) (by decide) ?_
  refine kw_bipush hC dX8_meetsAt_15 rfl (by decide) ?_
  refine kw_iload_n hC dX8_meetsAt_17 rfl 2 rfl ?_
  refine kw_imul hC dX8_meetsAt_18 rfl ?_
  refine kw_iload_n hC dX8_meetsAt_19 rfl 1 rfl ?_
  refine kw_iadd hC dX8_meetsAt_20 rfl ?_
  refine ka_42 hC dX8_meetsAt_21 rfl (by decide) (by decide) (by omega) (by omega) ?_
  refine kw_imul hC dX8_meetsAt_22 rfl ?_
  refine kw_istore_n (lv' := [(3, _), (0, _), (1, _), (2, _)]) hC dX8_meetsAt_23 rfl (by decide) rfl ?_
  refine kw_iload_n hC dX8_meetsAt_24 rfl 2 rfl ?_
  refine kw_iload_n hC dX8_meetsAt_25 rfl 3 rfl ?_
  refine kw_icmp_ne (tgt := 33) hC dX8_meetsAt_26 rfl (by decide) (by omega) (by omega) ⟨fun c26 => ?_, fun c26 => ?_⟩
  · refine kw_iload_n hC dX8_meetsAt_33 rfl 0 rfl ?_
    refine kw_if_ne (tgt := 41) hC dX8_meetsAt_34 rfl (by decide) (by omega) ⟨fun c34 => ?_, fun c34 => ?_⟩
    · refine kw_iload_n hC dX8_meetsAt_41 rfl 0 rfl ?_
      refine kw_iconst hC dX8_meetsAt_42 rfl ?_
      refine kw_icmp_ne (tgt := 50) hC dX8_meetsAt_43 rfl (by decide) (by omega) (by omega) ⟨fun c43 => ?_, fun c43 => ?_⟩
      · refine kw_iload_n hC dX8_meetsAt_50 rfl 0 rfl ?_
        refine kw_iconst hC dX8_meetsAt_51 rfl ?_
        refine kw_icmp_ne (tgt := 59) hC dX8_meetsAt_52 rfl (by decide) (by omega) (by omega) ⟨fun c52 => ?_, fun c52 => ?_⟩
        · refine kw_iload_n hC dX8_meetsAt_59 rfl 0 rfl ?_
          refine kw_iconst hC dX8_meetsAt_60 rfl ?_
          refine kw_icmp_ne (tgt := 69) hC dX8_meetsAt_61 rfl (by decide) (by omega) (by omega) ⟨fun c61 => ?_, fun c61 => ?_⟩
          · refine kw_iconst hC dX8_meetsAt_69 rfl ?_
            exact hR9.1 rfl _ _ _ _ dX8_meetsAt_70 ⟨_, rfl, by unfold mAt; (repeat' split) <;> omega, rfl⟩
          · refine kw_bipush hC dX8_meetsAt_64 rfl (by decide) ?_
            refine kw_goto (tgt := 70) hC dX8_meetsAt_66 rfl (by decide) ?_
            exact hR9.1 rfl _ _ _ _ dX8_meetsAt_70 ⟨_, rfl, by unfold mAt; (repeat' split) <;> omega, rfl⟩
        · refine kw_iconst hC dX8_meetsAt_55 rfl ?_
          refine kw_goto (tgt := 70) hC dX8_meetsAt_56 rfl (by decide) ?_
          exact hR9.1 rfl _ _ _ _ dX8_meetsAt_70 ⟨_, rfl, by unfold mAt; (repeat' split) <;> omega, rfl⟩
      · refine kw_iconst hC dX8_meetsAt_46 rfl ?_
        refine kw_goto (tgt := 70) hC dX8_meetsAt_47 rfl (by decide) ?_
        exact hR9.1 rfl _ _ _ _ dX8_meetsAt_70 ⟨_, rfl, by unfold mAt; (repeat' split) <;> omega, rfl⟩
    · refine kw_iconst hC dX8_meetsAt_37 rfl ?_
      refine kw_goto (tgt := 70) hC dX8_meetsAt_38 rfl (by decide) ?_
      exact hR9.1 rfl _ _ _ _ dX8_meetsAt_70 ⟨_, rfl, by unfold mAt; (repeat' split) <;> omega, rfl⟩
  · refine kw_iconst hC dX8_meetsAt_29 rfl ?_
    refine kw_goto (tgt := 70) hC dX8_meetsAt_30 rfl (by decide) ?_
    exact hR9.1 rfl _ _ _ _ dX8_meetsAt_70 ⟨_, rfl, by unfold mAt; (repeat' split) <;> omega, rfl⟩

set_option maxHeartbeats 4000000 in
set_option maxRecDepth 100000 in
theorem d_X8_change {g : wG} (hD : wD g) {S : wSt} {a b : Int} (ha : -2147483648 ≤ a ∧ a ≤ 2147483647) (hb : -2147483648 ≤ b ∧ b ≤ 2147483647) (hRS : RI S) (l : Launch) : Kt l yX8_change wsX8_change ({ frames := 2, cells := 0, slots := 0, locals := 45 } : Room) g S [vr g 30 0, vi a, vi b] (pI (fun _ S' => RI S' ∧ Fr tW S S')) := by
  refine Kt.of (cc := cX8_change) (nL := 7) (ret := (some .int)) (own := RX8) rfl hD (by decide) rfl (Nat.le_of_ble_eq_true rfl) ⟨rfl, rfl⟩ ?_
  intro E hC hR9
  have f43 : Cond.fieldLink RX8 43 "MirrorBenchModel" "lengths" "[I" ∈ wsX8_change := by decide +kernel
  have f52 : Cond.fieldLink RX8 52 "MirrorBenchModel" "words" "[I" ∈ wsX8_change := by decide +kernel
  have w8 : ∀ w ∈ wsX80, w ∈ wsX8_change := by decide +kernel
  show Wk E g 7 S 0 [(0, vr g 30 0), (1, vi a), (2, vi b)] []
  have hfS : Fr fV S S := Fr.rfl _ S
  have hn := hRS.n
  refine kw_iload_n hC dX8_change_0 rfl 1 rfl ?_
  refine kw_callS hC (d_X8_isSlot hD (by omega)) gX8_change_X8_isSlot rfl ⟨rfl, rfl⟩ 1 (by decide +kernel) ⟨by decide, by decide⟩ rfl rfl (Nat.le_of_ble_eq_true rfl) dX8_change_1 rfl (kd_ie ?_)
  refine kw_ifeq_b (tgt := 25) hC dX8_change_4 rfl (by decide) ⟨fun c4 => ?_, fun c4 => ?_⟩
  · refine kw_iconst hC dX8_change_25 rfl ?_
    exact hR9.1 rfl _ _ _ _ dX8_change_26 (by first | exact ⟨_, rfl, hw9, fV_tW hfS⟩ | exact ⟨_, rfl, hRS, Fr.rfl _ S⟩)
  · have hla := hRS.ln a (by omega) (by omega)
    refine kw_iload_n hC dX8_change_7 rfl 2 rfl ?_
    refine kw_i2l hC dX8_change_8 rfl (by omega) ?_
    refine kw_lconst (z := 0) hC dX8_change_9 rfl rfl ?_
    refine kw_aload_n hC dX8_change_10 rfl 0 rfl ?_
    refine kg_30_6 hC w8 f43 dX8_change_11 rfl (by decide) (by decide) ?_
    refine kw_iload_n hC dX8_change_14 rfl 1 rfl ?_
    refine ka_46 hC dX8_change_15 rfl (by decide) (by decide) (by omega) (by omega) ?_
    refine kw_iconst hC dX8_change_16 rfl ?_
    refine kw_isub hC dX8_change_17 rfl ?_
    refine kw_i2l hC dX8_change_18 rfl (by omega) ?_
    refine kw_callS hC (d_X8_in hD (by omega) (by omega) (by omega)) gX8_change_X8_in rfl ⟨rfl, rfl⟩ 3 (by decide +kernel) ⟨by decide, by decide⟩ rfl rfl (Nat.le_of_ble_eq_true rfl) dX8_change_19 rfl (kd_ie ?_)
    refine kw_ifne_b (tgt := 27) hC dX8_change_22 rfl (by decide) ⟨fun c22 => ?_, fun c22 => ?_⟩
    · have hl1 := hRS.lt a b (by omega) (by omega) (by omega) (by omega)
      have hl2 := hRS.lt a (b + 1) (by omega) (by omega) (by omega) (by omega)
      rw [← Int.add_assoc] at hl2
      refine kw_aload_n hC dX8_change_27 rfl 0 rfl ?_
      refine kg_30_5 hC w8 f52 dX8_change_28 rfl (by decide) (by decide) ?_
      refine kw_bipush hC dX8_change_31 rfl (by decide) ?_
      refine kw_iload_n hC dX8_change_33 rfl 1 rfl ?_
      refine kw_imul hC dX8_change_34 rfl ?_
      refine kw_iload_n hC dX8_change_35 rfl 2 rfl ?_
      refine kw_iadd hC dX8_change_36 rfl ?_
      refine ka_45 hC dX8_change_37 rfl (by decide) (by decide) (by omega) (by omega) ?_
      refine kw_istore_n (lv' := [(3, _), (0, _), (1, _), (2, _)]) hC dX8_change_38 rfl (by decide) rfl ?_
      refine kw_aload_n hC dX8_change_39 rfl 1 rfl ?_
      refine kg_30_5 hC w8 f52 dX8_change_40 rfl (by decide) (by decide) ?_
      refine kw_bipush hC dX8_change_43 rfl (by decide) ?_
      refine kw_iload_n hC dX8_change_45 rfl 2 rfl ?_
      refine kw_imul hC dX8_change_46 rfl ?_
      refine kw_iload_n hC dX8_change_47 rfl 3 rfl ?_
      refine kw_iadd hC dX8_change_48 rfl ?_
      refine kw_iconst hC dX8_change_49 rfl ?_
      refine kw_iadd hC dX8_change_50 rfl ?_
      refine ka_45 hC dX8_change_51 rfl (by decide) (by decide) (by omega) (by omega) ?_
      refine kw_istore (lv' := [(4, _), (3, _), (0, _), (1, _), (2, _)]) hC dX8_change_52 rfl (by decide) rfl ?_
      refine kw_aload_n hC dX8_change_54 rfl 2 rfl ?_
      refine kw_iload_n hC dX8_change_55 rfl 1 rfl ?_
      refine kw_iload hC dX8_change_56 rfl 0 rfl ?_
      refine kw_callV hC (d_X8_meetsAt hD (by omega) (by omega) (by omega) (by omega) hRS) gX8_change_X8_meetsAt ⟨_, rfl⟩ rfl (by decide) (by decide) rfl ⟨rfl, rfl⟩ 2 (by decide +kernel) ⟨by decide, by decide⟩ rfl rfl (Nat.le_of_ble_eq_true rfl) dX8_change_58 rfl (kd_ie ?_)
      obtain ⟨m, hm⟩ : ∃ m, m = mAt (S 45 0 (100 * a + b)) (S 45 0 (100 * a + b + 1)) (S 42 0 (6 * S 45 0 (100 * a + b) + S 45 0 (100 * a + b + 1))) (S 42 0 (6 * S 45 0 (100 * a + b + 1) + S 45 0 (100 * a + b))) := ⟨_, rfl⟩
      rw [← hm]
      have hmr : 0 ≤ m ∧ m ≤ 6 := hm ▸ mAt_r _ _ _ _
      refine kw_istore (lv' := [(5, _), (4, _), (3, _), (0, _), (1, _), (2, _)]) hC dX8_change_61 rfl (by decide) rfl ?_
      refine kw_iload hC dX8_change_63 rfl 0 rfl ?_
      refine kw_iconst hC dX8_change_65 rfl ?_
      refine kw_icmp_lt (tgt := 82) hC dX8_change_66 rfl (by decide) (by omega) (by omega) ⟨fun c66 => ?_, fun c66 => ?_⟩
      · refine kw_bipush hC dX8_change_82 rfl (by decide) ?_
        exact hR9.1 rfl _ _ _ _ dX8_change_84 (by first | exact ⟨_, rfl, hw9, fV_tW hfS⟩ | exact ⟨_, rfl, hRS, Fr.rfl _ S⟩)
      · refine kw_iload_n hC dX8_change_69 rfl 5 rfl ?_
        refine kw_iload hC dX8_change_70 rfl 0 rfl ?_
        refine kw_iadd hC dX8_change_72 rfl ?_
        refine kw_aload_n hC dX8_change_73 rfl 3 rfl ?_
        refine kg_30_6 hC w8 f43 dX8_change_74 rfl (by decide) (by decide) ?_
        refine kw_iload_n hC dX8_change_77 rfl 4 rfl ?_
        refine ka_46 hC dX8_change_78 rfl (by decide) (by decide) (by omega) (by omega) ?_
        refine kw_icmp_le (tgt := 85) hC dX8_change_79 rfl (by decide) (by omega) (by omega) ⟨fun c79 => ?_, fun c79 => ?_⟩
        · refine kw_iconst hC dX8_change_85 rfl ?_
          refine kw_istore (lv' := [(6, _), (5, _), (4, _), (3, _), (0, _), (1, _), (2, _)]) hC dX8_change_86 rfl (by decide) rfl ?_
          have hL88 : ∀ (n88 : Nat) (x : Int), (0 ≤ x) → (x ≤ m) → m - x < (n88 : Int) → Wk E g 7 S 88 [(0, vr g 30 0), (1, vi a), (2, vi b), (3, vi (S 45 0 (100 * a + b))), (4, vi (S 45 0 (100 * a + b + 1))), (5, vi m), (6, vi x)] [] := by
            intro n88
            induction n88 with
            | zero => intro x hx0 hx1 hm88; exact absurd hm88 (by omega)
            | succ n88 ih88 =>
              intro x hx0 hx1 hm88
              refine kw_iload hC dX8_change_88 rfl 6 rfl ?_
              refine kw_iload hC dX8_change_90 rfl 5 rfl ?_
              refine kw_icmp_ge (tgt := 134) hC dX8_change_92 rfl (by decide) (by omega) (by omega) ⟨fun c92 => ?_, fun c92 => ?_⟩
              · refine kw_iconst hC dX8_change_134 rfl ?_
                refine kw_istore (lv' := [(6, _), (0, _), (1, _), (2, _), (3, _), (4, _), (5, _)]) hC dX8_change_135 rfl (by decide) rfl ?_
                have hL137 : ∀ (n137 : Nat) (y : Int) (W137 : wSt), Fr fV S W137 → (0 ≤ y) → (y ≤ m) → (WdO (S 30 0 0) W137) → m - y < (n137 : Int) → Wk E g 7 W137 137 [(0, vr g 30 0), (1, vi a), (2, vi b), (3, vi (S 45 0 (100 * a + b))), (4, vi (S 45 0 (100 * a + b + 1))), (5, vi m), (6, vi y)] [] := by
                  intro n137
                  induction n137 with
                  | zero => intro y W137 hfW137 hy0 hy1 hW hm137; exact absurd hm137 (by omega)
                  | succ n137 ih137 =>
                    intro y W137 hfW137 hy0 hy1 hW hm137
                    refine kw_iload hC dX8_change_137 rfl 6 rfl ?_
                    refine kw_iload hC dX8_change_139 rfl 5 rfl ?_
                    refine kw_icmp_ge (tgt := 177) hC dX8_change_141 rfl (by decide) (by omega) (by omega) ⟨fun c141 => ?_, fun c141 => ?_⟩
                    · refine kw_iload hC dX8_change_177 rfl 5 rfl ?_
                      have hw9 := hRS.wd hfW137 hW
                      exact hR9.1 rfl _ _ _ _ dX8_change_179 (by first | exact ⟨_, rfl, hw9, fV_tW hfW137⟩ | exact ⟨_, rfl, hRS, Fr.rfl _ S⟩)
                    · refine kw_aload_n hC dX8_change_144 rfl 0 rfl ?_
                      refine kg_30_5 hC w8 f52 dX8_change_145 rfl (by decide) (by decide) ?_
                      refine kw_bipush hC dX8_change_148 rfl (by decide) ?_
                      refine kw_iload_n hC dX8_change_150 rfl 1 rfl ?_
                      refine kw_imul hC dX8_change_151 rfl ?_
                      refine kw_iload_n hC dX8_change_152 rfl 2 rfl ?_
                      refine kw_iadd hC dX8_change_153 rfl ?_
                      refine kw_iload hC dX8_change_154 rfl 6 rfl ?_
                      refine kw_iadd hC dX8_change_156 rfl ?_
                      refine kw_iload hC dX8_change_157 rfl 6 rfl ?_
                      refine kw_iconst hC dX8_change_159 rfl ?_
                      refine kw_irem hC dX8_change_160 rfl (by omega) (by omega) ?_
                      refine kw_if_ne (tgt := 169) hC dX8_change_161 rfl (by decide) (by omega) ⟨fun c161 => ?_, fun c161 => ?_⟩
                      · refine kw_iload_n hC dX8_change_169 rfl 3 rfl ?_
                        refine ks_45 hC dX8_change_170 rfl (by decide) (by decide) (by omega) (by omega) ?_
                        refine kw_hv hfW137 (by unfold fV; omega) (fun S8 hfS8 hv8 ho8 => ?_)
                        have hW9 := hW.let (W' := S8) (p := 100 * a + b + y) (fun s => ho8 46 0 s (by omega)) (fun j hj => ho8 45 0 j (by omega)) (by rw [hv8]; omega)
                        refine kw_iinc (lv' := [(6, _), (0, _), (1, _), (2, _), (3, _), (4, _), (5, _)]) hC dX8_change_171 rfl 6 rfl (by decide) rfl ?_
                        refine kw_goto (tgt := 137) hC dX8_change_174 rfl (by decide) ?_
                        refine kw_lv [1, 2, 3, 4, 5, 6, 0] rfl ?_
                        exact ih137 (y + 1) S8 hfS8 (by omega) (by omega) hW9 (by omega)
                      · refine kw_iload hC dX8_change_164 rfl 4 rfl ?_
                        refine kw_goto (tgt := 170) hC dX8_change_166 rfl (by decide) ?_
                        refine ks_45 hC dX8_change_170 rfl (by decide) (by decide) (by omega) (by omega) ?_
                        refine kw_hv hfW137 (by unfold fV; omega) (fun S9 hfS9 hv9 ho9 => ?_)
                        have hW9 := hW.let (W' := S9) (p := 100 * a + b + y) (fun s => ho9 46 0 s (by omega)) (fun j hj => ho9 45 0 j (by omega)) (by rw [hv9]; omega)
                        refine kw_iinc (lv' := [(6, _), (0, _), (1, _), (2, _), (3, _), (4, _), (5, _)]) hC dX8_change_171 rfl 6 rfl (by decide) rfl ?_
                        refine kw_goto (tgt := 137) hC dX8_change_174 rfl (by decide) ?_
                        refine kw_lv [1, 2, 3, 4, 5, 6, 0] rfl ?_
                        exact ih137 (y + 1) S9 hfS9 (by omega) (by omega) hW9 (by omega)
                refine kw_lv [1, 2, 3, 4, 5, 6, 0] rfl ?_
                exact hL137 7 0 S hfS (by omega) (by omega) hRS.wdo (by omega)
              · refine kw_aload_n hC dX8_change_95 rfl 0 rfl ?_
                refine kg_30_5 hC w8 f52 dX8_change_96 rfl (by decide) (by decide) ?_
                refine kw_bipush hC dX8_change_99 rfl (by decide) ?_
                refine kw_iload_n hC dX8_change_101 rfl 1 rfl ?_
                refine kw_imul hC dX8_change_102 rfl ?_
                refine kw_iload_n hC dX8_change_103 rfl 2 rfl ?_
                refine kw_iadd hC dX8_change_104 rfl ?_
                refine kw_iload hC dX8_change_105 rfl 6 rfl ?_
                refine kw_iadd hC dX8_change_107 rfl ?_
                refine ka_45 hC dX8_change_108 rfl (by decide) (by decide) (by omega) (by omega) ?_
                have hl4 := hRS.lt a (b + x) (by omega) (by omega) (by omega) (by omega)
                rw [← Int.add_assoc] at hl4
                refine kw_iload hC dX8_change_109 rfl 6 rfl ?_
                refine kw_iconst hC dX8_change_111 rfl ?_
                refine kw_irem hC dX8_change_112 rfl (by omega) (by omega) ?_
                refine kw_if_ne (tgt := 120) hC dX8_change_113 rfl (by decide) (by omega) ⟨fun c113 => ?_, fun c113 => ?_⟩
                · refine kw_iload hC dX8_change_120 rfl 4 rfl ?_
                  refine kw_icmp_eq (tgt := 128) hC dX8_change_122 rfl (by decide) (by omega) (by omega) ⟨fun c122 => ?_, fun c122 => ?_⟩
                  · refine kw_iinc (lv' := [(6, _), (0, _), (1, _), (2, _), (3, _), (4, _), (5, _)]) hC dX8_change_128 rfl 6 rfl (by decide) rfl ?_
                    refine kw_goto (tgt := 88) hC dX8_change_131 rfl (by decide) ?_
                    refine kw_lv [1, 2, 3, 4, 5, 6, 0] rfl ?_
                    exact ih88 (x + 1) (by omega) (by omega) (by omega)
                  · refine kw_bipush hC dX8_change_125 rfl (by decide) ?_
                    exact hR9.1 rfl _ _ _ _ dX8_change_127 (by first | exact ⟨_, rfl, hw9, fV_tW hfS⟩ | exact ⟨_, rfl, hRS, Fr.rfl _ S⟩)
                · refine kw_iload_n hC dX8_change_116 rfl 3 rfl ?_
                  refine kw_goto (tgt := 122) hC dX8_change_117 rfl (by decide) ?_
                  refine kw_icmp_eq (tgt := 128) hC dX8_change_122 rfl (by decide) (by omega) (by omega) ⟨fun c122 => ?_, fun c122 => ?_⟩
                  · refine kw_iinc (lv' := [(6, _), (0, _), (1, _), (2, _), (3, _), (4, _), (5, _)]) hC dX8_change_128 rfl 6 rfl (by decide) rfl ?_
                    refine kw_goto (tgt := 88) hC dX8_change_131 rfl (by decide) ?_
                    refine kw_lv [1, 2, 3, 4, 5, 6, 0] rfl ?_
                    exact ih88 (x + 1) (by omega) (by omega) (by omega)
                  · refine kw_bipush hC dX8_change_125 rfl (by decide) ?_
                    exact hR9.1 rfl _ _ _ _ dX8_change_127 (by first | exact ⟨_, rfl, hw9, fV_tW hfS⟩ | exact ⟨_, rfl, hRS, Fr.rfl _ S⟩)
          refine kw_lv [4, 5, 6, 3, 2, 1, 0] rfl ?_
          exact hL88 7 0 (by omega) (by omega) (by omega)
        · refine kw_bipush hC dX8_change_82 rfl (by decide) ?_
          exact hR9.1 rfl _ _ _ _ dX8_change_84 (by first | exact ⟨_, rfl, hw9, fV_tW hfS⟩ | exact ⟨_, rfl, hRS, Fr.rfl _ S⟩)
    · refine kw_iconst hC dX8_change_25 rfl ?_
      exact hR9.1 rfl _ _ _ _ dX8_change_26 (by first | exact ⟨_, rfl, hw9, fV_tW hfS⟩ | exact ⟨_, rfl, hRS, Fr.rfl _ S⟩)

set_option maxHeartbeats 4000000 in
set_option maxRecDepth 100000 in
theorem d_X8_shorten {g : wG} (hD : wD g) {S : wSt} {a b : Int} (ha : -2147483648 ≤ a ∧ a ≤ 2147483647) (hb : -2147483648 ≤ b ∧ b ≤ 2147483647) (hRS : RI S) (l : Launch) : Kt l yX8_shorten wsX8_shorten ({ frames := 4, cells := 0, slots := 0, locals := 93 } : Room) g S [vr g 30 0, vi a, vi b] (pI (fun _ S' => RI S' ∧ Fr tW S S')) := by
  refine Kt.of (cc := cX8_shorten) (nL := 3) (ret := (some .int)) (own := RX8) rfl hD (by decide) rfl (Nat.le_of_ble_eq_true rfl) ⟨rfl, rfl⟩ ?_
  intro E hC hR9
  show Wk E g 3 S 0 [(0, vr g 30 0), (1, vi a), (2, vi b)] []
  have hfS : Fr tR S S := Fr.rfl _ S
  have hRS := hRS.fr hfS
  have hnS := hRS.n
  have enS : S 30 0 0 = S 30 0 0 := hfS 30 0 0 (by unfold tR; omega)
  refine kw_iload_n hC dX8_shorten_0 rfl 1 rfl ?_
  refine kw_callS hC (d_X8_isSlot hD (by omega)) gX8_shorten_X8_isSlot rfl ⟨rfl, rfl⟩ 1 (by decide +kernel) ⟨by decide, by decide⟩ rfl rfl (Nat.le_of_ble_eq_true rfl) dX8_shorten_1 rfl (kd_ie ?_)
  refine kw_ifeq_b (tgt := 14) hC dX8_shorten_4 rfl (by decide) ⟨fun c4 => ?_, fun c4 => ?_⟩
  · refine kw_iconst hC dX8_shorten_14 rfl ?_
    exact hR9.1 rfl _ _ _ _ dX8_shorten_15 (by first | exact ⟨_, rfl, hp9.2.1, (tR_tW hfS).trans (fV_tW hp9.2.2.1)⟩ | exact ⟨_, rfl, hRS, tR_tW hfS⟩)
  · refine kw_iload_n hC dX8_shorten_7 rfl 2 rfl ?_
    refine kw_callS hC (d_X8_isSlot hD (by omega)) gX8_shorten_X8_isSlot rfl ⟨rfl, rfl⟩ 1 (by decide +kernel) ⟨by decide, by decide⟩ rfl rfl (Nat.le_of_ble_eq_true rfl) dX8_shorten_8 rfl (kd_ie ?_)
    refine kw_ifne_b (tgt := 16) hC dX8_shorten_11 rfl (by decide) ⟨fun c11 => ?_, fun c11 => ?_⟩
    · refine kw_aload_n hC dX8_shorten_16 rfl 0 rfl ?_
      refine kw_iload_n hC dX8_shorten_17 rfl 1 rfl ?_
      refine kw_callV hC (d_X8_load hD (by omega) (by omega) hRS) gX8_shorten_X8_load ⟨_, rfl⟩ rfl (by decide) (by decide) rfl ⟨rfl, rfl⟩ 1 (by decide +kernel) ⟨by decide, by decide⟩ rfl rfl (Nat.le_of_ble_eq_true rfl) dX8_shorten_18 rfl (kd_v (fun S3 hp3 => ?_))
      obtain ⟨hg3, hp3⟩ := hp3
      have hfS3 : Fr tR S S3 := hfS.trans (hg3.mono (fun k i j h => by unfold fL at h; unfold tR; omega))
      have hRS3 := hRS.fr hfS3
      have hnS3 := hRS3.n
      have enS3 : S3 30 0 0 = S 30 0 0 := hfS3 30 0 0 (by unfold tR; omega)
      obtain ⟨q14, qW⟩ := hp3
      have hwv : WV (S3 53 0) (S3 30 0 14) (S3 30 0 0) := ldWV hRS (by omega) (by omega) q14 qW (by omega)
      have hl3 := hRS.ln a (by omega) (by omega)
      refine kw_aload_n hC dX8_shorten_21 rfl 0 rfl ?_
      refine kw_callV hC (d_X8_shortOf hD hRS3 hwv (by omega) (by omega)) gX8_shorten_X8_shortOf ⟨_, rfl⟩ rfl (by decide) (by decide) rfl ⟨rfl, rfl⟩ 0 (by decide +kernel) ⟨by decide, by decide⟩ rfl rfl (Nat.le_of_ble_eq_true rfl) dX8_shorten_22 rfl (kd_i (fun r4 S4 hp4 => ?_))
      obtain ⟨hg4, hp4⟩ := hp4
      have hfS4 : Fr tR S S4 := hfS3.trans (hg4.mono (fun k i j h => by unfold fS at h; unfold tR; omega))
      have hRS4 := hRS.fr hfS4
      have hnS4 := hRS4.n
      have enS4 : S4 30 0 0 = S 30 0 0 := hfS4 30 0 0 (by unfold tR; omega)
      obtain ⟨hb4, ⟨r0, r1⟩, hrv, hgr⟩ := hp4
      replace hrv : WV (S4 47 0) (S4 30 0 8) (S4 30 0 0) := hrv.eq (fun _ _ _ => rfl) rfl (by omega)
      refine kw_if_ne (tgt := 31) hC dX8_shorten_25 rfl (by decide) (by omega) ⟨fun c25 => ?_, fun c25 => ?_⟩
      · refine kw_aload_n hC dX8_shorten_31 rfl 0 rfl ?_
        refine kw_callV hC (d_X8_rToW hD (by omega) (by omega)) gX8_shorten_X8_rToW ⟨_, rfl⟩ rfl (by decide) (by decide) rfl ⟨rfl, rfl⟩ 0 (by decide +kernel) ⟨by decide, by decide⟩ rfl rfl (Nat.le_of_ble_eq_true rfl) dX8_shorten_32 rfl (kd_v (fun S6 hp6 => ?_))
        obtain ⟨hg6, hp6⟩ := hp6
        have hfS6 : Fr tR S S6 := hfS4.trans (hg6.mono (fun k i j h => by unfold fL at h; unfold tR; omega))
        have hRS6 := hRS.fr hfS6
        have hnS6 := hRS6.n
        have enS6 : S6 30 0 0 = S 30 0 0 := hfS6 30 0 0 (by unfold tR; omega)
        obtain ⟨q14, qW⟩ := hp6
        have hwv : WV (S6 53 0) (S6 30 0 14) (S6 30 0 0) := hrv.eq (fun j j0 j1 => qW j j0 (by omega)) q14 (by omega)
        refine kw_aload_n hC dX8_shorten_35 rfl 0 rfl ?_
        refine kw_iload_n hC dX8_shorten_36 rfl 2 rfl ?_
        refine kw_callV hC (d_X8_store hD (by omega) (by omega) hRS6 hwv (by omega) (by omega)) gX8_shorten_X8_store ⟨_, rfl⟩ rfl (by decide) (by decide) rfl ⟨rfl, rfl⟩ 1 (by decide +kernel) ⟨by decide, by decide⟩ rfl rfl (Nat.le_of_ble_eq_true rfl) dX8_shorten_37 rfl (kd_i (fun r9 Sz hp9 => ?_))
        exact hR9.1 rfl _ _ _ _ dX8_shorten_40 (by first | exact ⟨_, rfl, hp9.2.1, (tR_tW hfS6).trans (fV_tW hp9.2.2.1)⟩ | exact ⟨_, rfl, hRS6, tR_tW hfS6⟩)
      · refine kw_bipush hC dX8_shorten_28 rfl (by decide) ?_
        exact hR9.1 rfl _ _ _ _ dX8_shorten_30 (by first | exact ⟨_, rfl, hp9.2.1, (tR_tW hfS4).trans (fV_tW hp9.2.2.1)⟩ | exact ⟨_, rfl, hRS4, tR_tW hfS4⟩)
    · refine kw_iconst hC dX8_shorten_14 rfl ?_
      exact hR9.1 rfl _ _ _ _ dX8_shorten_15 (by first | exact ⟨_, rfl, hp9.2.1, (tR_tW hfS).trans (fV_tW hp9.2.2.1)⟩ | exact ⟨_, rfl, hRS, tR_tW hfS⟩)

set_option maxHeartbeats 4000000 in
set_option maxRecDepth 100000 in
theorem d_X8_form {g : wG} (hD : wD g) {S : wSt} {a b : Int} (ha : -2147483648 ≤ a ∧ a ≤ 2147483647) (hb : -2147483648 ≤ b ∧ b ≤ 2147483647) (hRS : RI S) (l : Launch) : Kt l yX8_form wsX8_form ({ frames := 5, cells := 0, slots := 0, locals := 114 } : Room) g S [vr g 30 0, vi a, vi b] (pI (fun _ S' => RI S' ∧ Fr tW S S')) := by
  refine Kt.of (cc := cX8_form) (nL := 3) (ret := (some .int)) (own := RX8) rfl hD (by decide) rfl (Nat.le_of_ble_eq_true rfl) ⟨rfl, rfl⟩ ?_
  intro E hC hR9
  show Wk E g 3 S 0 [(0, vr g 30 0), (1, vi a), (2, vi b)] []
  have hfS : Fr tR S S := Fr.rfl _ S
  have hRS := hRS.fr hfS
  have hnS := hRS.n
  have enS : S 30 0 0 = S 30 0 0 := hfS 30 0 0 (by unfold tR; omega)
  refine kw_iload_n hC dX8_form_0 rfl 1 rfl ?_
  refine kw_callS hC (d_X8_isSlot hD (by omega)) gX8_form_X8_isSlot rfl ⟨rfl, rfl⟩ 1 (by decide +kernel) ⟨by decide, by decide⟩ rfl rfl (Nat.le_of_ble_eq_true rfl) dX8_form_1 rfl (kd_ie ?_)
  refine kw_ifeq_b (tgt := 14) hC dX8_form_4 rfl (by decide) ⟨fun c4 => ?_, fun c4 => ?_⟩
  · refine kw_iconst hC dX8_form_14 rfl ?_
    exact hR9.1 rfl _ _ _ _ dX8_form_15 (by first | exact ⟨_, rfl, hp9.2.1, (tR_tW hfS).trans (fV_tW hp9.2.2.1)⟩ | exact ⟨_, rfl, hRS, tR_tW hfS⟩)
  · refine kw_iload_n hC dX8_form_7 rfl 2 rfl ?_
    refine kw_callS hC (d_X8_isSlot hD (by omega)) gX8_form_X8_isSlot rfl ⟨rfl, rfl⟩ 1 (by decide +kernel) ⟨by decide, by decide⟩ rfl rfl (Nat.le_of_ble_eq_true rfl) dX8_form_8 rfl (kd_ie ?_)
    refine kw_ifne_b (tgt := 16) hC dX8_form_11 rfl (by decide) ⟨fun c11 => ?_, fun c11 => ?_⟩
    · refine kw_aload_n hC dX8_form_16 rfl 0 rfl ?_
      refine kw_iload_n hC dX8_form_17 rfl 1 rfl ?_
      refine kw_callV hC (d_X8_load hD (by omega) (by omega) hRS) gX8_form_X8_load ⟨_, rfl⟩ rfl (by decide) (by decide) rfl ⟨rfl, rfl⟩ 1 (by decide +kernel) ⟨by decide, by decide⟩ rfl rfl (Nat.le_of_ble_eq_true rfl) dX8_form_18 rfl (kd_v (fun S3 hp3 => ?_))
      obtain ⟨hg3, hp3⟩ := hp3
      have hfS3 : Fr tR S S3 := hfS.trans (hg3.mono (fun k i j h => by unfold fL at h; unfold tR; omega))
      have hRS3 := hRS.fr hfS3
      have hnS3 := hRS3.n
      have enS3 : S3 30 0 0 = S 30 0 0 := hfS3 30 0 0 (by unfold tR; omega)
      obtain ⟨q14, qW⟩ := hp3
      have hwv : WV (S3 53 0) (S3 30 0 14) (S3 30 0 0) := ldWV hRS (by omega) (by omega) q14 qW (by omega)
      have hl3 := hRS.ln a (by omega) (by omega)
      refine kw_aload_n hC dX8_form_21 rfl 0 rfl ?_
      refine kw_callV hC (d_X8_formOfW hD hRS3 hwv (by omega) (by omega)) gX8_form_X8_formOfW ⟨_, rfl⟩ rfl (by decide) (by decide) rfl ⟨rfl, rfl⟩ 0 (by decide +kernel) ⟨by decide, by decide⟩ rfl rfl (Nat.le_of_ble_eq_true rfl) dX8_form_22 rfl (kd_i (fun r4 S4 hp4 => ?_))
      obtain ⟨hg4, hp4⟩ := hp4
      have hfS4 : Fr tR S S4 := hfS3.trans (hg4.mono (fun k i j h => by unfold fW at h; unfold tR; omega))
      have hRS4 := hRS.fr hfS4
      have hnS4 := hRS4.n
      have enS4 : S4 30 0 0 = S 30 0 0 := hfS4 30 0 0 (by unfold tR; omega)
      obtain ⟨hb4, ⟨w0, w1⟩, hwv, hgw⟩ := hp4
      replace hwv : WV (S4 53 0) (S4 30 0 14) (S4 30 0 0) := hwv.eq (fun _ _ _ => rfl) rfl (by omega)
      refine kw_if_eq (tgt := 36) hC dX8_form_25 rfl (by decide) (by omega) ⟨fun c25 => ?_, fun c25 => ?_⟩
      · refine kw_bipush hC dX8_form_36 rfl (by decide) ?_
        exact hR9.1 rfl _ _ _ _ dX8_form_38 (by first | exact ⟨_, rfl, hp9.2.1, (tR_tW hfS4).trans (fV_tW hp9.2.2.1)⟩ | exact ⟨_, rfl, hRS4, tR_tW hfS4⟩)
      · refine kw_aload_n hC dX8_form_28 rfl 0 rfl ?_
        refine kw_iload_n hC dX8_form_29 rfl 2 rfl ?_
        refine kw_callV hC (d_X8_store hD (by omega) (by omega) hRS4 hwv (by omega) (by omega)) gX8_form_X8_store ⟨_, rfl⟩ rfl (by decide) (by decide) rfl ⟨rfl, rfl⟩ 1 (by decide +kernel) ⟨by decide, by decide⟩ rfl rfl (Nat.le_of_ble_eq_true rfl) dX8_form_30 rfl (kd_i (fun r9 Sz hp9 => ?_))
        refine kw_goto (tgt := 38) hC dX8_form_33 rfl (by decide) ?_
        exact hR9.1 rfl _ _ _ _ dX8_form_38 (by first | exact ⟨_, rfl, hp9.2.1, (tR_tW hfS4).trans (fV_tW hp9.2.2.1)⟩ | exact ⟨_, rfl, hRS4, tR_tW hfS4⟩)
    · refine kw_iconst hC dX8_form_14 rfl ?_
      exact hR9.1 rfl _ _ _ _ dX8_form_15 (by first | exact ⟨_, rfl, hp9.2.1, (tR_tW hfS).trans (fV_tW hp9.2.2.1)⟩ | exact ⟨_, rfl, hRS, tR_tW hfS⟩)

set_option maxHeartbeats 4000000 in
set_option maxRecDepth 100000 in
theorem d_X8_same {g : wG} (hD : wD g) {S : wSt} {a b : Int} (ha : -2147483648 ≤ a ∧ a ≤ 2147483647) (hb : -2147483648 ≤ b ∧ b ≤ 2147483647) (hRS : RI S) (l : Launch) : Kt l yX8_same wsX8_same ({ frames := 5, cells := 0, slots := 0, locals := 114 } : Room) g S [vr g 30 0, vi a, vi b] (pI (fun _ S' => RI S' ∧ Fr tW S S')) := by
  refine Kt.of (cc := cX8_same) (nL := 5) (ret := (some .int)) (own := RX8) rfl hD (by decide) rfl (Nat.le_of_ble_eq_true rfl) ⟨rfl, rfl⟩ ?_
  intro E hC hR9
  have f57 : Cond.fieldLink RX8 57 "MirrorBenchModel" "wMany" "I" ∈ wsX8_same := by decide +kernel
  have f60 : Cond.fieldLink RX8 60 "MirrorBenchModel" "w" "[I" ∈ wsX8_same := by decide +kernel
  have f126 : Cond.fieldLink RX8 126 "MirrorBenchModel" "vMany" "I" ∈ wsX8_same := by decide +kernel
  have f129 : Cond.fieldLink RX8 129 "MirrorBenchModel" "v" "[I" ∈ wsX8_same := by decide +kernel
  have w8 : ∀ w ∈ wsX80, w ∈ wsX8_same := by decide +kernel
  show Wk E g 5 S 0 [(0, vr g 30 0), (1, vi a), (2, vi b)] []
  have hfS : Fr tR S S := Fr.rfl _ S
  have hRS := hRS.fr hfS
  have hnS := hRS.n
  have enS : S 30 0 0 = S 30 0 0 := hfS 30 0 0 (by unfold tR; omega)
  refine kw_iload_n hC dX8_same_0 rfl 1 rfl ?_
  refine kw_callS hC (d_X8_isSlot hD (by omega)) gX8_same_X8_isSlot rfl ⟨rfl, rfl⟩ 1 (by decide +kernel) ⟨by decide, by decide⟩ rfl rfl (Nat.le_of_ble_eq_true rfl) dX8_same_1 rfl (kd_ie ?_)
  refine kw_ifeq_b (tgt := 14) hC dX8_same_4 rfl (by decide) ⟨fun c4 => ?_, fun c4 => ?_⟩
  · refine kw_iconst hC dX8_same_14 rfl ?_
    exact hR9.1 rfl _ _ _ _ dX8_same_15 (by first | exact ⟨_, rfl, hp9.2.1, (tR_tW hfS).trans (fV_tW hp9.2.2.1)⟩ | exact ⟨_, rfl, hRS, tR_tW hfS⟩)
  · refine kw_iload_n hC dX8_same_7 rfl 2 rfl ?_
    refine kw_callS hC (d_X8_isSlot hD (by omega)) gX8_same_X8_isSlot rfl ⟨rfl, rfl⟩ 1 (by decide +kernel) ⟨by decide, by decide⟩ rfl rfl (Nat.le_of_ble_eq_true rfl) dX8_same_8 rfl (kd_ie ?_)
    refine kw_ifne_b (tgt := 16) hC dX8_same_11 rfl (by decide) ⟨fun c11 => ?_, fun c11 => ?_⟩
    · refine kw_aload_n hC dX8_same_16 rfl 0 rfl ?_
      refine kw_iload_n hC dX8_same_17 rfl 1 rfl ?_
      refine kw_callV hC (d_X8_load hD (by omega) (by omega) hRS) gX8_same_X8_load ⟨_, rfl⟩ rfl (by decide) (by decide) rfl ⟨rfl, rfl⟩ 1 (by decide +kernel) ⟨by decide, by decide⟩ rfl rfl (Nat.le_of_ble_eq_true rfl) dX8_same_18 rfl (kd_v (fun S3 hp3 => ?_))
      obtain ⟨hg3, hp3⟩ := hp3
      have hfS3 : Fr tR S S3 := hfS.trans (hg3.mono (fun k i j h => by unfold fL at h; unfold tR; omega))
      have hRS3 := hRS.fr hfS3
      have hnS3 := hRS3.n
      have enS3 : S3 30 0 0 = S 30 0 0 := hfS3 30 0 0 (by unfold tR; omega)
      obtain ⟨q14, qW⟩ := hp3
      have hwv : WV (S3 53 0) (S3 30 0 14) (S3 30 0 0) := ldWV hRS (by omega) (by omega) q14 qW (by omega)
      have hl3 := hRS.ln a (by omega) (by omega)
      refine kw_aload_n hC dX8_same_21 rfl 0 rfl ?_
      refine kw_callV hC (d_X8_formOfW hD hRS3 hwv (by omega) (by omega)) gX8_same_X8_formOfW ⟨_, rfl⟩ rfl (by decide) (by decide) rfl ⟨rfl, rfl⟩ 0 (by decide +kernel) ⟨by decide, by decide⟩ rfl rfl (Nat.le_of_ble_eq_true rfl) dX8_same_22 rfl (kd_i (fun r4 S4 hp4 => ?_))
      obtain ⟨hg4, hp4⟩ := hp4
      have hfS4 : Fr tR S S4 := hfS3.trans (hg4.mono (fun k i j h => by unfold fW at h; unfold tR; omega))
      have hRS4 := hRS.fr hfS4
      have hnS4 := hRS4.n
      have enS4 : S4 30 0 0 = S 30 0 0 := hfS4 30 0 0 (by unfold tR; omega)
      obtain ⟨hb4, ⟨w0, w1⟩, hwv, hgw⟩ := hp4
      replace hwv : WV (S4 53 0) (S4 30 0 14) (S4 30 0 0) := hwv.eq (fun _ _ _ => rfl) rfl (by omega)
      refine kw_if_ne (tgt := 31) hC dX8_same_25 rfl (by decide) (by omega) ⟨fun c25 => ?_, fun c25 => ?_⟩
      · refine kw_aload_n hC dX8_same_31 rfl 0 rfl ?_
        refine kw_callV hC (d_X8_wToV hD (by omega) (by omega)) gX8_same_X8_wToV ⟨_, rfl⟩ rfl (by decide) (by decide) rfl ⟨rfl, rfl⟩ 0 (by decide +kernel) ⟨by decide, by decide⟩ rfl rfl (Nat.le_of_ble_eq_true rfl) dX8_same_32 rfl (kd_v (fun S6 hp6 => ?_))
        obtain ⟨hg6, hp6⟩ := hp6
        have hfS6 : Fr tR S S6 := hfS4.trans (hg6.mono (fun k i j h => by unfold fX at h; unfold tR; omega))
        have hRS6 := hRS.fr hfS6
        have hnS6 := hRS6.n
        have enS6 : S6 30 0 0 = S 30 0 0 := hfS6 30 0 0 (by unfold tR; omega)
        refine kw_aload_n hC dX8_same_35 rfl 0 rfl ?_
        refine kw_iload_n hC dX8_same_36 rfl 2 rfl ?_
        refine kw_callV hC (d_X8_load hD (by omega) (by omega) hRS6) gX8_same_X8_load ⟨_, rfl⟩ rfl (by decide) (by decide) rfl ⟨rfl, rfl⟩ 1 (by decide +kernel) ⟨by decide, by decide⟩ rfl rfl (Nat.le_of_ble_eq_true rfl) dX8_same_37 rfl (kd_v (fun S7 hp7 => ?_))
        obtain ⟨hg7, hp7⟩ := hp7
        have hfS7 : Fr tR S S7 := hfS6.trans (hg7.mono (fun k i j h => by unfold fL at h; unfold tR; omega))
        have hRS7 := hRS.fr hfS7
        have hnS7 := hRS7.n
        have enS7 : S7 30 0 0 = S 30 0 0 := hfS7 30 0 0 (by unfold tR; omega)
        obtain ⟨q14, qW⟩ := hp7
        have hwv : WV (S7 53 0) (S7 30 0 14) (S7 30 0 0) := ldWV hRS6 (by omega) (by omega) q14 qW (by omega)
        have hl7 := hRS6.ln b (by omega) (by omega)
        refine kw_aload_n hC dX8_same_40 rfl 0 rfl ?_
        refine kw_callV hC (d_X8_formOfW hD hRS7 hwv (by omega) (by omega)) gX8_same_X8_formOfW ⟨_, rfl⟩ rfl (by decide) (by decide) rfl ⟨rfl, rfl⟩ 0 (by decide +kernel) ⟨by decide, by decide⟩ rfl rfl (Nat.le_of_ble_eq_true rfl) dX8_same_41 rfl (kd_i (fun r8 S8 hp8 => ?_))
        obtain ⟨hg8, hp8⟩ := hp8
        have hfS8 : Fr tR S S8 := hfS7.trans (hg8.mono (fun k i j h => by unfold fW at h; unfold tR; omega))
        have hRS8 := hRS.fr hfS8
        have hnS8 := hRS8.n
        have enS8 : S8 30 0 0 = S 30 0 0 := hfS8 30 0 0 (by unfold tR; omega)
        obtain ⟨hb8, ⟨w0, w1⟩, hwv, hgw⟩ := hp8
        replace hwv : WV (S8 53 0) (S8 30 0 14) (S8 30 0 0) := hwv.eq (fun _ _ _ => rfl) rfl (by omega)
        refine kw_if_ne (tgt := 50) hC dX8_same_44 rfl (by decide) (by omega) ⟨fun c44 => ?_, fun c44 => ?_⟩
        · refine kw_aload_n hC dX8_same_50 rfl 0 rfl ?_
          refine kg_30_12 hC w8 f126 dX8_same_51 rfl (by decide) (by decide) ?_
          refine kw_nri ?_
          refine kw_aload_n hC dX8_same_54 rfl 0 rfl ?_
          refine kg_30_14 hC w8 f57 dX8_same_55 rfl (by decide) (by decide) ?_
          refine kw_icmp_ne (tgt := 65) hC dX8_same_58 rfl (by decide) (ni_r _) (by omega) ⟨fun c58 => ?_, fun c58 => ?_⟩
          · refine kw_iconst hC dX8_same_65 rfl ?_
            refine kw_istore_n (lv' := [(3, _), (0, _), (1, _), (2, _)]) hC dX8_same_66 rfl (by decide) rfl ?_
            refine kw_iconst hC dX8_same_67 rfl ?_
            refine kw_istore (lv' := [(4, _), (3, _), (0, _), (1, _), (2, _)]) hC dX8_same_68 rfl (by decide) rfl ?_
            have hL70 : ∀ (n70 : Nat) (x : Int) (z : Int), (0 ≤ x) → (x ≤ S8 30 0 14) → (z = 0 ∨ z = 1) → S8 30 0 14 - x < (n70 : Int) → Wk E g 5 S8 70 [(0, vr g 30 0), (1, vi a), (2, vi b), (3, vi z), (4, vi x)] [] := by
              intro n70
              induction n70 with
              | zero => intro x z hx0 hx1 hz hm70; exact absurd hm70 (by omega)
              | succ n70 ih70 =>
                intro x z hx0 hx1 hz hm70
                refine kw_iload hC dX8_same_70 rfl 4 rfl ?_
                refine kw_aload_n hC dX8_same_72 rfl 0 rfl ?_
                refine kg_30_14 hC w8 f57 dX8_same_73 rfl (by decide) (by decide) ?_
                refine kw_icmp_ge (tgt := 112) hC dX8_same_76 rfl (by decide) (by omega) (by omega) ⟨fun c76 => ?_, fun c76 => ?_⟩
                · refine kw_iload_n hC dX8_same_112 rfl 3 rfl ?_
                  refine kw_if_eq (tgt := 120) hC dX8_same_113 rfl (by decide) (by omega) ⟨fun c113 => ?_, fun c113 => ?_⟩
                  · refine kw_iconst hC dX8_same_120 rfl ?_
                    exact hR9.1 rfl _ _ _ _ dX8_same_121 (by first | exact ⟨_, rfl, hp9.2.1, (tR_tW hfS8).trans (fV_tW hp9.2.2.1)⟩ | exact ⟨_, rfl, hRS8, tR_tW hfS8⟩)
                  · refine kw_iconst hC dX8_same_116 rfl ?_
                    refine kw_goto (tgt := 121) hC dX8_same_117 rfl (by decide) ?_
                    exact hR9.1 rfl _ _ _ _ dX8_same_121 (by first | exact ⟨_, rfl, hp9.2.1, (tR_tW hfS8).trans (fV_tW hp9.2.2.1)⟩ | exact ⟨_, rfl, hRS8, tR_tW hfS8⟩)
                · refine kw_iload_n hC dX8_same_79 rfl 3 rfl ?_
                  refine kw_if_eq (tgt := 112) hC dX8_same_80 rfl (by decide) (by omega) ⟨fun c80 => ?_, fun c80 => ?_⟩
                  · refine kw_iload_n hC dX8_same_112 rfl 3 rfl ?_
                    refine kw_if_eq (tgt := 120) hC dX8_same_113 rfl (by decide) (by omega) ⟨fun c113 => ?_, fun c113 => ?_⟩
                    · refine kw_iconst hC dX8_same_120 rfl ?_
                      exact hR9.1 rfl _ _ _ _ dX8_same_121 (by first | exact ⟨_, rfl, hp9.2.1, (tR_tW hfS8).trans (fV_tW hp9.2.2.1)⟩ | exact ⟨_, rfl, hRS8, tR_tW hfS8⟩)
                    · refine kw_iconst hC dX8_same_116 rfl ?_
                      refine kw_goto (tgt := 121) hC dX8_same_117 rfl (by decide) ?_
                      exact hR9.1 rfl _ _ _ _ dX8_same_121 (by first | exact ⟨_, rfl, hp9.2.1, (tR_tW hfS8).trans (fV_tW hp9.2.2.1)⟩ | exact ⟨_, rfl, hRS8, tR_tW hfS8⟩)
                  · refine kw_aload_n hC dX8_same_83 rfl 0 rfl ?_
                    refine kg_30_11 hC w8 f129 dX8_same_84 rfl (by decide) (by decide) ?_
                    refine kw_iload hC dX8_same_87 rfl 4 rfl ?_
                    refine ka_51 hC dX8_same_89 rfl (by decide) (by decide) (by omega) (by omega) ?_
                    refine kw_nri ?_
                    refine kw_aload_n hC dX8_same_90 rfl 0 rfl ?_
                    refine kg_30_13 hC w8 f60 dX8_same_91 rfl (by decide) (by decide) ?_
                    refine kw_iload hC dX8_same_94 rfl 4 rfl ?_
                    refine ka_53 hC dX8_same_96 rfl (by decide) (by decide) (by omega) (by omega) ?_
                    refine kw_nri ?_
                    refine kw_icmp_ne (tgt := 104) hC dX8_same_97 rfl (by decide) (ni_r _) (ni_r _) ⟨fun c97 => ?_, fun c97 => ?_⟩
                    · refine kw_iconst hC dX8_same_104 rfl ?_
                      refine kw_istore_n (lv' := [(3, _), (0, _), (1, _), (2, _), (4, _)]) hC dX8_same_105 rfl (by decide) rfl ?_
                      refine kw_iinc (lv' := [(4, _), (3, _), (0, _), (1, _), (2, _)]) hC dX8_same_106 rfl 4 rfl (by decide) rfl ?_
                      refine kw_goto (tgt := 70) hC dX8_same_109 rfl (by decide) ?_
                      refine kw_lv [2, 3, 4, 1, 0] rfl ?_
                      exact ih70 (x + 1) _ (by omega) (by omega) (by omega) (by omega)
                    · refine kw_iconst hC dX8_same_100 rfl ?_
                      refine kw_goto (tgt := 105) hC dX8_same_101 rfl (by decide) ?_
                      refine kw_istore_n (lv' := [(3, _), (0, _), (1, _), (2, _), (4, _)]) hC dX8_same_105 rfl (by decide) rfl ?_
                      refine kw_iinc (lv' := [(4, _), (3, _), (0, _), (1, _), (2, _)]) hC dX8_same_106 rfl 4 rfl (by decide) rfl ?_
                      refine kw_goto (tgt := 70) hC dX8_same_109 rfl (by decide) ?_
                      refine kw_lv [2, 3, 4, 1, 0] rfl ?_
                      exact ih70 (x + 1) _ (by omega) (by omega) (by omega) (by omega)
            refine kw_lv [2, 3, 4, 1, 0] rfl ?_
            exact hL70 101 0 _ (by omega) (by omega) (by omega) (by omega)
          · refine kw_iconst hC dX8_same_61 rfl ?_
            refine kw_goto (tgt := 66) hC dX8_same_62 rfl (by decide) ?_
            refine kw_istore_n (lv' := [(3, _), (0, _), (1, _), (2, _)]) hC dX8_same_66 rfl (by decide) rfl ?_
            refine kw_iconst hC dX8_same_67 rfl ?_
            refine kw_istore (lv' := [(4, _), (3, _), (0, _), (1, _), (2, _)]) hC dX8_same_68 rfl (by decide) rfl ?_
            have hL70 : ∀ (n70 : Nat) (x : Int) (z : Int), (0 ≤ x) → (x ≤ S8 30 0 14) → (z = 0 ∨ z = 1) → S8 30 0 14 - x < (n70 : Int) → Wk E g 5 S8 70 [(0, vr g 30 0), (1, vi a), (2, vi b), (3, vi z), (4, vi x)] [] := by
              intro n70
              induction n70 with
              | zero => intro x z hx0 hx1 hz hm70; exact absurd hm70 (by omega)
              | succ n70 ih70 =>
                intro x z hx0 hx1 hz hm70
                refine kw_iload hC dX8_same_70 rfl 4 rfl ?_
                refine kw_aload_n hC dX8_same_72 rfl 0 rfl ?_
                refine kg_30_14 hC w8 f57 dX8_same_73 rfl (by decide) (by decide) ?_
                refine kw_icmp_ge (tgt := 112) hC dX8_same_76 rfl (by decide) (by omega) (by omega) ⟨fun c76 => ?_, fun c76 => ?_⟩
                · refine kw_iload_n hC dX8_same_112 rfl 3 rfl ?_
                  refine kw_if_eq (tgt := 120) hC dX8_same_113 rfl (by decide) (by omega) ⟨fun c113 => ?_, fun c113 => ?_⟩
                  · refine kw_iconst hC dX8_same_120 rfl ?_
                    exact hR9.1 rfl _ _ _ _ dX8_same_121 (by first | exact ⟨_, rfl, hp9.2.1, (tR_tW hfS8).trans (fV_tW hp9.2.2.1)⟩ | exact ⟨_, rfl, hRS8, tR_tW hfS8⟩)
                  · refine kw_iconst hC dX8_same_116 rfl ?_
                    refine kw_goto (tgt := 121) hC dX8_same_117 rfl (by decide) ?_
                    exact hR9.1 rfl _ _ _ _ dX8_same_121 (by first | exact ⟨_, rfl, hp9.2.1, (tR_tW hfS8).trans (fV_tW hp9.2.2.1)⟩ | exact ⟨_, rfl, hRS8, tR_tW hfS8⟩)
                · refine kw_iload_n hC dX8_same_79 rfl 3 rfl ?_
                  refine kw_if_eq (tgt := 112) hC dX8_same_80 rfl (by decide) (by omega) ⟨fun c80 => ?_, fun c80 => ?_⟩
                  · refine kw_iload_n hC dX8_same_112 rfl 3 rfl ?_
                    refine kw_if_eq (tgt := 120) hC dX8_same_113 rfl (by decide) (by omega) ⟨fun c113 => ?_, fun c113 => ?_⟩
                    · refine kw_iconst hC dX8_same_120 rfl ?_
                      exact hR9.1 rfl _ _ _ _ dX8_same_121 (by first | exact ⟨_, rfl, hp9.2.1, (tR_tW hfS8).trans (fV_tW hp9.2.2.1)⟩ | exact ⟨_, rfl, hRS8, tR_tW hfS8⟩)
                    · refine kw_iconst hC dX8_same_116 rfl ?_
                      refine kw_goto (tgt := 121) hC dX8_same_117 rfl (by decide) ?_
                      exact hR9.1 rfl _ _ _ _ dX8_same_121 (by first | exact ⟨_, rfl, hp9.2.1, (tR_tW hfS8).trans (fV_tW hp9.2.2.1)⟩ | exact ⟨_, rfl, hRS8, tR_tW hfS8⟩)
                  · refine kw_aload_n hC dX8_same_83 rfl 0 rfl ?_
                    refine kg_30_11 hC w8 f129 dX8_same_84 rfl (by decide) (by decide) ?_
                    refine kw_iload hC dX8_same_87 rfl 4 rfl ?_
                    refine ka_51 hC dX8_same_89 rfl (by decide) (by decide) (by omega) (by omega) ?_
                    refine kw_nri ?_
                    refine kw_aload_n hC dX8_same_90 rfl 0 rfl ?_
                    refine kg_30_13 hC w8 f60 dX8_same_91 rfl (by decide) (by decide) ?_
                    refine kw_iload hC dX8_same_94 rfl 4 rfl ?_
                    refine ka_53 hC dX8_same_96 rfl (by decide) (by decide) (by omega) (by omega) ?_
                    refine kw_nri ?_
                    refine kw_icmp_ne (tgt := 104) hC dX8_same_97 rfl (by decide) (ni_r _) (ni_r _) ⟨fun c97 => ?_, fun c97 => ?_⟩
                    · refine kw_iconst hC dX8_same_104 rfl ?_
                      refine kw_istore_n (lv' := [(3, _), (0, _), (1, _), (2, _), (4, _)]) hC dX8_same_105 rfl (by decide) rfl ?_
                      refine kw_iinc (lv' := [(4, _), (3, _), (0, _), (1, _), (2, _)]) hC dX8_same_106 rfl 4 rfl (by decide) rfl ?_
                      refine kw_goto (tgt := 70) hC dX8_same_109 rfl (by decide) ?_
                      refine kw_lv [2, 3, 4, 1, 0] rfl ?_
                      exact ih70 (x + 1) _ (by omega) (by omega) (by omega) (by omega)
                    · refine kw_iconst hC dX8_same_100 rfl ?_
                      refine kw_goto (tgt := 105) hC dX8_same_101 rfl (by decide) ?_
                      refine kw_istore_n (lv' := [(3, _), (0, _), (1, _), (2, _), (4, _)]) hC dX8_same_105 rfl (by decide) rfl ?_
                      refine kw_iinc (lv' := [(4, _), (3, _), (0, _), (1, _), (2, _)]) hC dX8_same_106 rfl 4 rfl (by decide) rfl ?_
                      refine kw_goto (tgt := 70) hC dX8_same_109 rfl (by decide) ?_
                      refine kw_lv [2, 3, 4, 1, 0] rfl ?_
                      exact ih70 (x + 1) _ (by omega) (by omega) (by omega) (by omega)
            refine kw_lv [2, 3, 4, 1, 0] rfl ?_
            exact hL70 101 0 _ (by omega) (by omega) (by omega) (by omega)
        · refine kw_bipush hC dX8_same_47 rfl (by decide) ?_
          exact hR9.1 rfl _ _ _ _ dX8_same_49 (by first | exact ⟨_, rfl, hp9.2.1, (tR_tW hfS8).trans (fV_tW hp9.2.2.1)⟩ | exact ⟨_, rfl, hRS8, tR_tW hfS8⟩)
      · refine kw_bipush hC dX8_same_28 rfl (by decide) ?_
        exact hR9.1 rfl _ _ _ _ dX8_same_30 (by first | exact ⟨_, rfl, hp9.2.1, (tR_tW hfS4).trans (fV_tW hp9.2.2.1)⟩ | exact ⟨_, rfl, hRS4, tR_tW hfS4⟩)
    · refine kw_iconst hC dX8_same_14 rfl ?_
      exact hR9.1 rfl _ _ _ _ dX8_same_15 (by first | exact ⟨_, rfl, hp9.2.1, (tR_tW hfS).trans (fV_tW hp9.2.2.1)⟩ | exact ⟨_, rfl, hRS, tR_tW hfS⟩)
