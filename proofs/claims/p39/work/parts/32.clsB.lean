set_option maxHeartbeats 4000000 in
set_option maxRecDepth 100000 in
theorem d_X7_isKind {g : wG} (hD : wD g) {S : wSt} {a : Int} (ha : -2147483648 ≤ a ∧ a ≤ 2147483647) (l : Launch) : Kt l yX7_isKind wsX7_isKind ({ frames := 0, cells := 0, slots := 0, locals := 0 } : Room) g S [vi a] (pI (fun r S' => r = bz (0 ≤ a ∧ a < 3) ∧ S' = S)) := by
  refine Kt.of (cc := cX7_isKind) (nL := 1) (ret := (some .boolean)) (own := RX7) rfl hD (by decide) rfl (Nat.le_of_ble_eq_true rfl) ⟨rfl, rfl⟩ ?_
  intro E hC hR9
  show Wk E g 1 S 0 [(0, vi a)] []
  refine kw_iload_n hC dX7_isKind_0 rfl 0 rfl ?_
  refine kw_if_lt (tgt := 13) hC dX7_isKind_1 rfl (by decide) (by omega) ⟨fun c1 => ?_, fun c1 => ?_⟩
  · refine kw_iconst hC dX7_isKind_13 rfl ?_
    exact hR9.2.1 rfl _ _ _ _ dX7_isKind_14 (by omega) ⟨_, rfl, by first | exact (bz_t (by omega)).symm | exact (bz_f (by omega)).symm, rfl⟩
  · refine kw_iload_n hC dX7_isKind_4 rfl 0 rfl ?_
    refine kw_iconst hC dX7_isKind_5 rfl ?_
    refine kw_icmp_ge (tgt := 13) hC dX7_isKind_6 rfl (by decide) (by omega) (by omega) ⟨fun c6 => ?_, fun c6 => ?_⟩
    · refine kw_iconst hC dX7_isKind_13 rfl ?_
      exact hR9.2.1 rfl _ _ _ _ dX7_isKind_14 (by omega) ⟨_, rfl, by first | exact (bz_t (by omega)).symm | exact (bz_f (by omega)).symm, rfl⟩
    · refine kw_iconst hC dX7_isKind_9 rfl ?_
      refine kw_goto (tgt := 14) hC dX7_isKind_10 rfl (by decide) ?_
      exact hR9.2.1 rfl _ _ _ _ dX7_isKind_14 (by omega) ⟨_, rfl, by first | exact (bz_t (by omega)).symm | exact (bz_f (by omega)).symm, rfl⟩
set_option maxHeartbeats 4000000 in
set_option maxRecDepth 100000 in
theorem d_X7_isSlot {g : wG} (hD : wD g) {S : wSt} {a : Int} (ha : -2147483648 ≤ a ∧ a ≤ 2147483647) (l : Launch) : Kt l yX7_isSlot wsX7_isSlot ({ frames := 0, cells := 0, slots := 0, locals := 0 } : Room) g S [vi a] (pI (fun r S' => r = bz (0 ≤ a ∧ a < 8) ∧ S' = S)) := by
  refine Kt.of (cc := cX7_isSlot) (nL := 1) (ret := (some .boolean)) (own := RX7) rfl hD (by decide) rfl (Nat.le_of_ble_eq_true rfl) ⟨rfl, rfl⟩ ?_
  intro E hC hR9
  show Wk E g 1 S 0 [(0, vi a)] []
  refine kw_iload_n hC dX7_isSlot_0 rfl 0 rfl ?_
  refine kw_if_lt (tgt := 14) hC dX7_isSlot_1 rfl (by decide) (by omega) ⟨fun c1 => ?_, fun c1 => ?_⟩
  · refine kw_iconst hC dX7_isSlot_14 rfl ?_
    exact hR9.2.1 rfl _ _ _ _ dX7_isSlot_15 (by omega) ⟨_, rfl, by first | exact (bz_t (by omega)).symm | exact (bz_f (by omega)).symm, rfl⟩
  · refine kw_iload_n hC dX7_isSlot_4 rfl 0 rfl ?_
    refine kw_bipush hC dX7_isSlot_5 rfl (by decide) ?_
    refine kw_icmp_ge (tgt := 14) hC dX7_isSlot_7 rfl (by decide) (by omega) (by omega) ⟨fun c7 => ?_, fun c7 => ?_⟩
    · refine kw_iconst hC dX7_isSlot_14 rfl ?_
      exact hR9.2.1 rfl _ _ _ _ dX7_isSlot_15 (by omega) ⟨_, rfl, by first | exact (bz_t (by omega)).symm | exact (bz_f (by omega)).symm, rfl⟩
    · refine kw_iconst hC dX7_isSlot_10 rfl ?_
      refine kw_goto (tgt := 15) hC dX7_isSlot_11 rfl (by decide) ?_
      exact hR9.2.1 rfl _ _ _ _ dX7_isSlot_15 (by omega) ⟨_, rfl, by first | exact (bz_t (by omega)).symm | exact (bz_f (by omega)).symm, rfl⟩
set_option maxHeartbeats 4000000 in
set_option maxRecDepth 100000 in
theorem d_X3_has {g : wG} (hD : wD g) {S : wSt} {p a : Int} (p0 : 0 ≤ p) (p1 : p < 17) (ha : -2147483648 ≤ a ∧ a ≤ 2147483647) (s0 : 0 ≤ S 3 p 2) (s1 : S 3 p 2 ≤ 6) (l : Launch) : Kt l yX3_has wsX3_has ({ frames := 0, cells := 0, slots := 0, locals := 0 } : Room) g S [vr g 3 p, vi a] (pI (fun r S' => r = bz (0 ≤ a ∧ a < S 3 p 2) ∧ S' = S)) := by
  refine Kt.of (cc := cX3_has) (nL := 2) (ret := (some .boolean)) (own := RX3) rfl hD (by decide) rfl (Nat.le_of_ble_eq_true rfl) ⟨rfl, rfl⟩ ?_
  intro E hC hR9
  have f18 : Cond.fieldLink RX3 18 "MirrorBench$Mirrors" "size" "I" ∈ wsX3_has := by decide +kernel
  have w3 : ∀ w ∈ wsX30, w ∈ wsX3_has := by decide +kernel
  show Wk E g 2 S 0 [(0, vr g 3 p), (1, vi a)] []
  refine kw_iload_n hC dX3_has_0 rfl 1 rfl ?_
  refine kw_if_lt (tgt := 16) hC dX3_has_1 rfl (by decide) (by omega) ⟨fun c1 => ?_, fun c1 => ?_⟩
  · refine kw_iconst hC dX3_has_16 rfl ?_
    exact hR9.2.1 rfl _ _ _ _ dX3_has_17 (by omega) ⟨_, rfl, by first | exact (bz_t (by omega)).symm | exact (bz_f (by omega)).symm, rfl⟩
  · refine kw_iload_n hC dX3_has_4 rfl 1 rfl ?_
    refine kw_aload_n hC dX3_has_5 rfl 0 rfl ?_
    refine kg_3_2 hC w3 f18 dX3_has_6 rfl (by omega) (by omega) ?_
    refine kw_icmp_ge (tgt := 16) hC dX3_has_9 rfl (by decide) (by omega) (by omega) ⟨fun c9 => ?_, fun c9 => ?_⟩
    · refine kw_iconst hC dX3_has_16 rfl ?_
      exact hR9.2.1 rfl _ _ _ _ dX3_has_17 (by omega) ⟨_, rfl, by first | exact (bz_t (by omega)).symm | exact (bz_f (by omega)).symm, rfl⟩
    · refine kw_iconst hC dX3_has_12 rfl ?_
      refine kw_goto (tgt := 17) hC dX3_has_13 rfl (by decide) ?_
      exact hR9.2.1 rfl _ _ _ _ dX3_has_17 (by omega) ⟨_, rfl, by first | exact (bz_t (by omega)).symm | exact (bz_f (by omega)).symm, rfl⟩
set_option maxHeartbeats 4000000 in
set_option maxRecDepth 100000 in
theorem d_X7_store {g : wG} (hD : wD g) {S : wSt} {b a : Int} (a0 : 0 ≤ a) (a1 : a < 8) (b0 : 8 ≤ b) (b1 : b < 12) (hRS : CI S) (hw : WV (S 2 b) (S 1 b 1) (S 3 16 2)) (m0 : 0 ≤ S 1 b 1) (m1 : S 1 b 1 ≤ 100) (l : Launch) : Kt l yX7_store wsX7_store ({ frames := 2, cells := 0, slots := 0, locals := 47 } : Room) g S [vr g 0 0, vr g 1 b, vi a] (pI (fun r S' => r = S 1 b 1 ∧ CI S' ∧ Fr (fWd a) S S' ∧ S' 1 a 1 = S 1 b 1 ∧ ∀ j, 0 ≤ j → j < S 1 b 1 → S' 2 a j = S 2 b j)) := by
  refine Kt.of (cc := cX7_store) (nL := 3) (ret := (some .int)) (own := RX7) rfl hD (by decide) rfl (Nat.le_of_ble_eq_true rfl) ⟨rfl, rfl⟩ ?_
  intro E hC hR9
  have f25 : Cond.fieldLink RX7 25 "MirrorBench" "slots" "[LMirrorBench$Word;" ∈ wsX7_store := by decide +kernel
  have f131 : Cond.fieldLink RX7 131 "MirrorBench$Word" "length" "I" ∈ wsX7_store := by decide +kernel
  have w6 : ∀ w ∈ wsX60, w ∈ wsX7_store := by decide +kernel
  have w7 : ∀ w ∈ wsX70, w ∈ wsX7_store := by decide +kernel
  show Wk E g 3 S 0 [(0, vr g 0 0), (1, vr g 1 b), (2, vi a)] []
  have hfS : Fr (fWd a) S S := Fr.rfl _ S
  refine kw_aload_n hC dX7_store_0 rfl 0 rfl ?_
  refine kg_0_2 hC w7 f25 dX7_store_1 rfl (by decide) (by decide) ?_
  refine kw_iload_n hC dX7_store_4 rfl 2 rfl ?_
  refine ka_20 hC dX7_store_5 rfl (by decide) (by decide) (by omega) (by omega) ?_
  refine kw_aload_n hC dX7_store_6 rfl 1 rfl ?_
  refine kw_callV hC (d_X6_take hD (by omega) (by omega) (by omega) (by omega) (by omega) (by omega)) gX7_store_X6_take ⟨_, rfl⟩ rfl (by omega) (show (_ : Int) < 12 by omega) rfl ⟨rfl, rfl⟩ 1 (by decide +kernel) ⟨by decide, by decide⟩ rfl rfl (Nat.le_of_ble_eq_true rfl) dX7_store_7 rfl (kd_v (fun S1 hp1 => ?_))
  obtain ⟨hg1, hp1⟩ := hp1
  have hfS1 : Fr (fWd a) S S1 := hfS.trans (hg1.mono (fun k i j h => by unfold fWd at h; unfold fWd; omega))
  obtain ⟨y1, y2⟩ := hp1
  refine kw_aload_n hC dX7_store_10 rfl 1 rfl ?_
  refine kg_1_1 hC w6 f131 dX7_store_11 rfl (by omega) (by omega) ?_
  refine kw_chi (z' := S 1 b 1) (hg1 1 b 1 (by unfold fWd; omega)) ?_
  exact hR9.1 rfl _ _ _ _ dX7_store_14 ⟨_, rfl, rfl, hRS.wd (hfS1.mono (fun k i j h => by unfold fWd at h; unfold fZ; omega)) (fun s s0 s1 => by rcases Decidable.em (s = a) with e | e; exact (by rw [e, y1]; exact ⟨⟨m0, m1⟩, hw.eq (fun j j0 j1 => y2 j j0 j1) rfl rfl⟩); exact (by have e1 : S1 1 s = S 1 s := funext fun j => hfS1 1 s j (by unfold fWd; omega); have e2 : S1 2 s = S 2 s := funext fun j => hfS1 2 s j (by unfold fWd; omega); rw [e1, e2]; exact ⟨hRS.ln s s0 s1, hRS.wv s s0 s1⟩)), hfS1, y1, y2⟩
theorem fWd_tX {a : Int} {S S' : wSt} (h : Fr (fWd a) S S') : Fr tX S S' := h.mono (fun k i j q => by unfold fWd at q; unfold tX; omega)
theorem fZ_tX {S S' : wSt} (h : Fr fZ S S') : Fr tX S S' := h.mono (fun k i j q => by unfold fZ at q; unfold tX; omega)
theorem Fr.w1 {T : Nat → Int → Int → Prop} {S S' : wSt} (f : Fr T S S') {s : Int} (h1 : ∀ j, ¬ T 1 s j) : S' 1 s = S 1 s := funext fun j => f 1 s j (h1 j)
theorem WV.fr {T : Nat → Int → Int → Prop} {S S' : wSt} {s n n' : Int} (h : WV (S 2 s) (S 1 s 1) n) (f : Fr T S S') (h1 : ¬ T 1 s 1) (h2 : ∀ j, ¬ T 2 s j) (hn : n' = n) : WV (S' 2 s) (S' 1 s 1) n' := h.eq (fun j _ _ => f 2 s j (h2 j)) (f 1 s 1 h1) hn
set_option maxHeartbeats 4000000 in
set_option maxRecDepth 100000 in
theorem d_X7_put {g : wG} (hD : wD g) {S : wSt} {a b : Int} (ha : -2147483648 ≤ a ∧ a ≤ 2147483647) (hb : -2147483648 ≤ b ∧ b ≤ 2147483647) (hRS : CI S) (l : Launch) : Kt l yX7_put wsX7_put ({ frames := 1, cells := 0, slots := 0, locals := 21 } : Room) g S [vr g 0 0, vi a, vi b] (pI (fun _ S' => CI S' ∧ Fr tX S S')) := by
  refine Kt.of (cc := cX7_put) (nL := 3) (ret := (some .int)) (own := RX7) rfl hD (by decide) rfl (Nat.le_of_ble_eq_true rfl) ⟨rfl, rfl⟩ ?_
  intro E hC hR9
  have f12 : Cond.fieldLink RX7 12 "MirrorBench" "set" "LMirrorBench$Mirrors;" ∈ wsX7_put := by decide +kernel
  have f25 : Cond.fieldLink RX7 25 "MirrorBench" "slots" "[LMirrorBench$Word;" ∈ wsX7_put := by decide +kernel
  have f131 : Cond.fieldLink RX7 131 "MirrorBench$Word" "length" "I" ∈ wsX7_put := by decide +kernel
  have w6 : ∀ w ∈ wsX60, w ∈ wsX7_put := by decide +kernel
  have w7 : ∀ w ∈ wsX70, w ∈ wsX7_put := by decide +kernel
  show Wk E g 3 S 0 [(0, vr g 0 0), (1, vi a), (2, vi b)] []
  have hfS : Fr fZ S S := Fr.rfl _ S
  have hn := hRS.n
  refine kw_iload_n hC dX7_put_0 rfl 1 rfl ?_
  refine kw_callS hC (d_X7_isSlot hD (by omega)) gX7_put_X7_isSlot rfl ⟨rfl, rfl⟩ 1 (by decide +kernel) ⟨by decide, by decide⟩ rfl rfl (Nat.le_of_ble_eq_true rfl) dX7_put_1 rfl (kd_ie ?_)
  refine kw_ifeq_b (tgt := 18) hC dX7_put_4 rfl (by decide) ⟨fun c4 => ?_, fun c4 => ?_⟩
  · refine kw_iconst hC dX7_put_18 rfl ?_
    exact hR9.1 rfl _ _ _ _ dX7_put_19 (by first | exact ⟨_, rfl, hw9, fZ_tX hfS⟩ | exact ⟨_, rfl, hRS, Fr.rfl _ S⟩)
  · refine kw_aload_n hC dX7_put_7 rfl 0 rfl ?_
    refine kg_0_0 hC w7 f12 dX7_put_8 rfl (by decide) (by decide) ?_
    refine kw_iload_n hC dX7_put_11 rfl 2 rfl ?_
    refine kw_callV hC (d_X3_has hD (by omega) (by omega) (by omega) (by omega) (by omega)) gX7_put_X3_has ⟨_, rfl⟩ rfl (by omega) (show (16 : Int) < 17 by omega) rfl ⟨rfl, rfl⟩ 1 (by decide +kernel) ⟨by decide, by decide⟩ rfl rfl (Nat.le_of_ble_eq_true rfl) dX7_put_12 rfl (kd_ie ?_)
    refine kw_ifne_b (tgt := 20) hC dX7_put_15 rfl (by decide) ⟨fun c15 => ?_, fun c15 => ?_⟩
    · have hla := hRS.ln a (by omega) (by omega)
      have hwa := hRS.wv a (by omega) (by omega)
      refine kw_aload_n hC dX7_put_20 rfl 0 rfl ?_
      refine kg_0_2 hC w7 f25 dX7_put_21 rfl (by decide) (by decide) ?_
      refine kw_iload_n hC dX7_put_24 rfl 1 rfl ?_
      refine ka_20 hC dX7_put_25 rfl (by decide) (by decide) (by omega) (by omega) ?_
      refine kg_1_1 hC w6 f131 dX7_put_26 rfl (by omega) (by omega) ?_
      refine kw_bipush hC dX7_put_29 rfl (by decide) ?_
      refine kw_icmp_ne (tgt := 37) hC dX7_put_31 rfl (by decide) (by omega) (by omega) ⟨fun c31 => ?_, fun c31 => ?_⟩
      · refine kw_aload_n hC dX7_put_37 rfl 0 rfl ?_
        refine kg_0_2 hC w7 f25 dX7_put_38 rfl (by decide) (by decide) ?_
        refine kw_iload_n hC dX7_put_41 rfl 1 rfl ?_
        refine ka_20 hC dX7_put_42 rfl (by decide) (by decide) (by omega) (by omega) ?_
        refine kw_iload_n hC dX7_put_43 rfl 2 rfl ?_
        refine kw_callV hC (d_X6_add hD (by omega) (by omega) (by omega) (by omega)) gX7_put_X6_add ⟨_, rfl⟩ rfl (by omega) (show (_ : Int) < 12 by omega) rfl ⟨rfl, rfl⟩ 1 (by decide +kernel) ⟨by decide, by decide⟩ rfl rfl (Nat.le_of_ble_eq_true rfl) dX7_put_44 rfl (kd_v (fun S4 hp4 => ?_))
        obtain ⟨hg4, hp4⟩ := hp4
        have hfS4 : Fr fZ S S4 := hfS.trans (hg4.mono (fun k i j h => by unfold fWd at h; unfold fZ; omega))
        obtain ⟨y1, y2, y3⟩ := hp4
        have hw9 := hRS.wd hfS4 (fun s s0 s1 => by rcases Decidable.em (s = a) with e | e; exact (by rw [e, y1]; exact ⟨by omega, hwa.add (fun j hj => y3 j hj) (by rw [y2]; omega)⟩); exact (by rw [hg4 1 s 1 (by unfold fWd; omega), show S4 2 s = S 2 s from funext fun j => hg4 2 s j (by unfold fWd; omega)]; exact ⟨hRS.ln s s0 s1, hRS.wv s s0 s1⟩))
        refine kw_aload_n hC dX7_put_47 rfl 0 rfl ?_
        refine kg_0_2 hC w7 f25 dX7_put_48 rfl (by decide) (by decide) ?_
        refine kw_iload_n hC dX7_put_51 rfl 1 rfl ?_
        refine ka_20 hC dX7_put_52 rfl (by decide) (by decide) (by omega) (by omega) ?_
        refine kg_1_1 hC w6 f131 dX7_put_53 rfl (by omega) (by omega) ?_
        exact hR9.1 rfl _ _ _ _ dX7_put_56 (by first | exact ⟨_, rfl, hw9, fZ_tX hfS4⟩ | exact ⟨_, rfl, hRS, Fr.rfl _ S⟩)
      · refine kw_bipush hC dX7_put_34 rfl (by decide) ?_
        exact hR9.1 rfl _ _ _ _ dX7_put_36 (by first | exact ⟨_, rfl, hw9, fZ_tX hfS⟩ | exact ⟨_, rfl, hRS, Fr.rfl _ S⟩)
    · refine kw_iconst hC dX7_put_18 rfl ?_
      exact hR9.1 rfl _ _ _ _ dX7_put_19 (by first | exact ⟨_, rfl, hw9, fZ_tX hfS⟩ | exact ⟨_, rfl, hRS, Fr.rfl _ S⟩)
set_option maxHeartbeats 4000000 in
set_option maxRecDepth 100000 in
theorem d_X7_at {g : wG} (hD : wD g) {S : wSt} {a b : Int} (ha : -2147483648 ≤ a ∧ a ≤ 2147483647) (hb : -2147483648 ≤ b ∧ b ≤ 2147483647) (hRS : CI S) (l : Launch) : Kt l yX7_at wsX7_at ({ frames := 1, cells := 0, slots := 0, locals := 20 } : Room) g S [vr g 0 0, vi a, vi b] (pI (fun _ S' => CI S' ∧ Fr tX S S')) := by
  refine Kt.of (cc := cX7_at) (nL := 4) (ret := (some .int)) (own := RX7) rfl hD (by decide) rfl (Nat.le_of_ble_eq_true rfl) ⟨rfl, rfl⟩ ?_
  intro E hC hR9
  have f25 : Cond.fieldLink RX7 25 "MirrorBench" "slots" "[LMirrorBench$Word;" ∈ wsX7_at := by decide +kernel
  have f131 : Cond.fieldLink RX7 131 "MirrorBench$Word" "length" "I" ∈ wsX7_at := by decide +kernel
  have f157 : Cond.fieldLink RX7 157 "MirrorBench$Word" "mirrors" "[I" ∈ wsX7_at := by decide +kernel
  have w6 : ∀ w ∈ wsX60, w ∈ wsX7_at := by decide +kernel
  have w7 : ∀ w ∈ wsX70, w ∈ wsX7_at := by decide +kernel
  show Wk E g 4 S 0 [(0, vr g 0 0), (1, vi a), (2, vi b)] []
  refine kw_iload_n hC dX7_at_0 rfl 1 rfl ?_
  refine kw_callS hC (d_X7_isSlot hD (by omega)) gX7_at_X7_isSlot rfl ⟨rfl, rfl⟩ 1 (by decide +kernel) ⟨by decide, by decide⟩ rfl rfl (Nat.le_of_ble_eq_true rfl) dX7_at_1 rfl (kd_ie ?_)
  refine kw_ifne_b (tgt := 9) hC dX7_at_4 rfl (by decide) ⟨fun c4 => ?_, fun c4 => ?_⟩
  · have hla := hRS.ln a (by omega) (by omega)
    have hwa := hRS.wv a (by omega) (by omega)
    refine kw_aload_n hC dX7_at_9 rfl 0 rfl ?_
    refine kg_0_2 hC w7 f25 dX7_at_10 rfl (by decide) (by decide) ?_
    refine kw_iload_n hC dX7_at_13 rfl 1 rfl ?_
    refine ka_20 hC dX7_at_14 rfl (by decide) (by decide) (by omega) (by omega) ?_
    refine kw_astore_n (lv' := [(3, _), (0, _), (1, _), (2, _)]) hC dX7_at_15 rfl (by decide) rfl ?_
    refine kw_iload_n hC dX7_at_16 rfl 3 rfl ?_
    refine kw_iconst hC dX7_at_17 rfl ?_
    refine kw_icmp_ne (tgt := 26) hC dX7_at_18 rfl (by decide) (by omega) (by omega) ⟨fun c18 => ?_, fun c18 => ?_⟩
    · refine kw_iload_n hC dX7_at_26 rfl 3 rfl ?_
      refine kw_if_lt (tgt := 47) hC dX7_at_27 rfl (by decide) (by omega) ⟨fun c27 => ?_, fun c27 => ?_⟩
      · refine kw_iconst hC dX7_at_47 rfl ?_
        exact hR9.1 rfl _ _ _ _ dX7_at_48 ⟨_, rfl, hRS, Fr.rfl _ S⟩
      · refine kw_iload_n hC dX7_at_30 rfl 3 rfl ?_
        refine kw_aload_n hC dX7_at_31 rfl 0 rfl ?_
        refine kg_1_1 hC w6 f131 dX7_at_32 rfl (by omega) (by omega) ?_
        refine kw_icmp_ge (tgt := 47) hC dX7_at_35 rfl (by decide) (by omega) (by omega) ⟨fun c35 => ?_, fun c35 => ?_⟩
        · refine kw_iconst hC dX7_at_47 rfl ?_
          exact hR9.1 rfl _ _ _ _ dX7_at_48 ⟨_, rfl, hRS, Fr.rfl _ S⟩
        · refine kw_aload_n hC dX7_at_38 rfl 0 rfl ?_
          refine kg_1_0 hC w6 f157 dX7_at_39 rfl (by omega) (by omega) ?_
          refine kw_iload_n hC dX7_at_42 rfl 3 rfl ?_
          refine ka_2 hC dX7_at_43 rfl (by omega) (by omega) (by omega) (by omega) ?_
          refine kw_goto (tgt := 48) hC dX7_at_44 rfl (by decide) ?_
          exact hR9.1 rfl _ _ _ _ dX7_at_48 ⟨_, rfl, hRS, Fr.rfl _ S⟩
    · refine kw_aload_n hC dX7_at_21 rfl 0 rfl ?_
      refine kg_1_1 hC w6 f131 dX7_at_22 rfl (by omega) (by omega) ?_
      exact hR9.1 rfl _ _ _ _ dX7_at_25 ⟨_, rfl, hRS, Fr.rfl _ S⟩
  · refine kw_iconst hC dX7_at_7 rfl ?_
    exact hR9.1 rfl _ _ _ _ dX7_at_8 ⟨_, rfl, hRS, Fr.rfl _ S⟩
set_option maxHeartbeats 4000000 in
set_option maxRecDepth 100000 in
theorem d_X7_times {g : wG} (hD : wD g) {S : wSt} {a b c : Int} (ha : -2147483648 ≤ a ∧ a ≤ 2147483647) (hb : -2147483648 ≤ b ∧ b ≤ 2147483647) (hc : -2147483648 ≤ c ∧ c ≤ 2147483647) (hRS : CI S) (l : Launch) : Kt l yX7_times wsX7_times ({ frames := 3, cells := 0, slots := 0, locals := 69 } : Room) g S [vr g 0 0, vi a, vi b, vi c] (pI (fun _ S' => CI S' ∧ Fr tX S S')) := by
  refine Kt.of (cc := cX7_times) (nL := 4) (ret := (some .int)) (own := RX7) rfl hD (by decide) rfl (Nat.le_of_ble_eq_true rfl) ⟨rfl, rfl⟩ ?_
  intro E hC hR9
  have f25 : Cond.fieldLink RX7 25 "MirrorBench" "slots" "[LMirrorBench$Word;" ∈ wsX7_times := by decide +kernel
  have f59 : Cond.fieldLink RX7 59 "MirrorBench" "made" "LMirrorBench$Word;" ∈ wsX7_times := by decide +kernel
  have f131 : Cond.fieldLink RX7 131 "MirrorBench$Word" "length" "I" ∈ wsX7_times := by decide +kernel
  have w6 : ∀ w ∈ wsX60, w ∈ wsX7_times := by decide +kernel
  have w7 : ∀ w ∈ wsX70, w ∈ wsX7_times := by decide +kernel
  show Wk E g 4 S 0 [(0, vr g 0 0), (1, vi a), (2, vi b), (3, vi c)] []
  have hfS : Fr tC S S := Fr.rfl _ S
  have hRS := hRS.fr hfS
  have hnS := hRS.n
  have enS : S 3 16 2 = S 3 16 2 := hfS 3 16 2 (by unfold tC; omega)
  refine kw_iload_n hC dX7_times_0 rfl 1 rfl ?_
  refine kw_callS hC (d_X7_isSlot hD (by omega)) gX7_times_X7_isSlot rfl ⟨rfl, rfl⟩ 1 (by decide +kernel) ⟨by decide, by decide⟩ rfl rfl (Nat.le_of_ble_eq_true rfl) dX7_times_1 rfl (kd_ie ?_)
  refine kw_ifeq_b (tgt := 21) hC dX7_times_4 rfl (by decide) ⟨fun c4 => ?_, fun c4 => ?_⟩
  · refine kw_iconst hC dX7_times_21 rfl ?_
    exact hR9.1 rfl _ _ _ _ dX7_times_22 (by first | exact ⟨_, rfl, hp9.2.1, (tC_tX hfS).trans (fWd_tX hp9.2.2.1)⟩ | exact ⟨_, rfl, hRS, tC_tX hfS⟩)
  · refine kw_iload_n hC dX7_times_7 rfl 2 rfl ?_
    refine kw_callS hC (d_X7_isSlot hD (by omega)) gX7_times_X7_isSlot rfl ⟨rfl, rfl⟩ 1 (by decide +kernel) ⟨by decide, by decide⟩ rfl rfl (Nat.le_of_ble_eq_true rfl) dX7_times_8 rfl (kd_ie ?_)
    refine kw_ifeq_b (tgt := 21) hC dX7_times_11 rfl (by decide) ⟨fun c11 => ?_, fun c11 => ?_⟩
    · refine kw_iconst hC dX7_times_21 rfl ?_
      exact hR9.1 rfl _ _ _ _ dX7_times_22 (by first | exact ⟨_, rfl, hp9.2.1, (tC_tX hfS).trans (fWd_tX hp9.2.2.1)⟩ | exact ⟨_, rfl, hRS, tC_tX hfS⟩)
    · refine kw_iload_n hC dX7_times_14 rfl 3 rfl ?_
      refine kw_callS hC (d_X7_isSlot hD (by omega)) gX7_times_X7_isSlot rfl ⟨rfl, rfl⟩ 1 (by decide +kernel) ⟨by decide, by decide⟩ rfl rfl (Nat.le_of_ble_eq_true rfl) dX7_times_15 rfl (kd_ie ?_)
      refine kw_ifne_b (tgt := 23) hC dX7_times_18 rfl (by decide) ⟨fun c18 => ?_, fun c18 => ?_⟩
      · have hla := hRS.ln a (by omega) (by omega)
        have hlb := hRS.ln b (by omega) (by omega)
        have hwa := hRS.wv a (by omega) (by omega)
        have hwb := hRS.wv b (by omega) (by omega)
        refine kw_aload_n hC dX7_times_23 rfl 0 rfl ?_
        refine kg_0_2 hC w7 f25 dX7_times_24 rfl (by decide) (by decide) ?_
        refine kw_iload_n hC dX7_times_27 rfl 1 rfl ?_
        refine ka_20 hC dX7_times_28 rfl (by decide) (by decide) (by omega) (by omega) ?_
        refine kg_1_1 hC w6 f131 dX7_times_29 rfl (by omega) (by omega) ?_
        refine kw_aload_n hC dX7_times_32 rfl 0 rfl ?_
        refine kg_0_2 hC w7 f25 dX7_times_33 rfl (by decide) (by decide) ?_
        refine kw_iload_n hC dX7_times_36 rfl 2 rfl ?_
        refine ka_20 hC dX7_times_37 rfl (by decide) (by decide) (by omega) (by omega) ?_
        refine kg_1_1 hC w6 f131 dX7_times_38 rfl (by omega) (by omega) ?_
        refine kw_iadd hC dX7_times_41 rfl ?_
        refine kw_bipush hC dX7_times_42 rfl (by decide) ?_
        refine kw_icmp_le (tgt := 50) hC dX7_times_44 rfl (by decide) (by omega) (by omega) ⟨fun c44 => ?_, fun c44 => ?_⟩
        · refine kw_aload_n hC dX7_times_50 rfl 0 rfl ?_
          refine kg_0_7 hC w7 f59 dX7_times_51 rfl (by decide) (by decide) ?_
          refine kw_aload_n hC dX7_times_54 rfl 0 rfl ?_
          refine kg_0_2 hC w7 f25 dX7_times_55 rfl (by decide) (by decide) ?_
          refine kw_iload_n hC dX7_times_58 rfl 1 rfl ?_
          refine ka_20 hC dX7_times_59 rfl (by decide) (by decide) (by omega) (by omega) ?_
          refine kw_callV hC (d_X6_take hD (by omega) (by omega) (by omega) (by omega) (by omega) (by omega)) gX7_times_X6_take ⟨_, rfl⟩ rfl (by omega) (show (_ : Int) < 12 by omega) rfl ⟨rfl, rfl⟩ 1 (by decide +kernel) ⟨by decide, by decide⟩ rfl rfl (Nat.le_of_ble_eq_true rfl) dX7_times_60 rfl (kd_v (fun S5 hp5 => ?_))
          obtain ⟨hg5, hp5⟩ := hp5
          have hfS5 : Fr tC S S5 := hfS.trans (hg5.mono (fun k i j h => by unfold fWd at h; unfold tC; omega))
          have hRS5 := hRS.fr hfS5
          have hnS5 := hRS5.n
          have enS5 : S5 3 16 2 = S 3 16 2 := hfS5 3 16 2 (by unfold tC; omega)
          obtain ⟨y1, y2⟩ := hp5
          have hwv : WV (S5 2 8) (S5 1 8 1) (S5 3 16 2) := hwa.eq (fun j j0 j1 => y2 j j0 j1) y1 enS5
          have eb : S5 1 b 1 = S 1 b 1 := hfS5 1 b 1 (by unfold tC; omega)
          have eb2 : ∀ j, S5 2 b j = S 2 b j := fun j => hfS5 2 b j (by unfold tC; omega)
          refine kw_aload_n hC dX7_times_63 rfl 0 rfl ?_
          refine kg_0_7 hC w7 f59 dX7_times_64 rfl (by decide) (by decide) ?_
          refine kw_aload_n hC dX7_times_67 rfl 0 rfl ?_
          refine kg_0_2 hC w7 f25 dX7_times_68 rfl (by decide) (by decide) ?_
          refine kw_iload_n hC dX7_times_71 rfl 2 rfl ?_
          refine ka_20 hC dX7_times_72 rfl (by decide) (by decide) (by omega) (by omega) ?_
          refine kw_callV hC (d_X6_append hD (by omega) (by omega) (by omega) (by omega) (by omega) (by omega) (by omega)) gX7_times_X6_append ⟨_, rfl⟩ rfl (by omega) (show (_ : Int) < 12 by omega) rfl ⟨rfl, rfl⟩ 1 (by decide +kernel) ⟨by decide, by decide⟩ rfl rfl (Nat.le_of_ble_eq_true rfl) dX7_times_73 rfl (kd_v (fun S6 hp6 => ?_))
          obtain ⟨hg6, hp6⟩ := hp6
          have hfS6 : Fr tC S S6 := hfS5.trans (hg6.mono (fun k i j h => by unfold fWd at h; unfold tC; omega))
          have hRS6 := hRS.fr hfS6
          have hnS6 := hRS6.n
          have enS6 : S6 3 16 2 = S 3 16 2 := hfS6 3 16 2 (by unfold tC; omega)
          obtain ⟨z1, z2, z3⟩ := hp6
          replace hwv : WV (S6 2 8) (S6 1 8 1) (S6 3 16 2) := fun j j0 j1 => by rcases Decidable.em (j < S5 1 8 1) with e | e; exact (by rw [z2 j j0 e]; have := hwv j j0 e; omega); exact (by have h5 := z3 (j - S5 1 8 1) (by omega) (by omega); rw [show S5 1 8 1 + (j - S5 1 8 1) = j by omega, eb2] at h5; rw [h5]; have := hwb (j - S5 1 8 1) (by omega) (by omega); omega)
          refine kw_aload_n hC dX7_times_76 rfl 0 rfl ?_
          refine kw_aload_n hC dX7_times_77 rfl 0 rfl ?_
          refine kg_0_7 hC w7 f59 dX7_times_78 rfl (by decide) (by decide) ?_
          refine kw_iload_n hC dX7_times_81 rfl 3 rfl ?_
          refine kw_callV hC (d_X7_store hD (by omega) (by omega) (by omega) (by omega) hRS6 hwv (by omega) (by omega)) gX7_times_X7_store ⟨_, rfl⟩ rfl (by decide) (by decide) rfl ⟨rfl, rfl⟩ 2 (by decide +kernel) ⟨by decide, by decide⟩ rfl rfl (Nat.le_of_ble_eq_true rfl) dX7_times_82 rfl (kd_i (fun r9 Sz hp9 => ?_))
          exact hR9.1 rfl _ _ _ _ dX7_times_85 (by first | exact ⟨_, rfl, hp9.2.1, (tC_tX hfS6).trans (fWd_tX hp9.2.2.1)⟩ | exact ⟨_, rfl, hRS6, tC_tX hfS6⟩)
        · refine kw_bipush hC dX7_times_47 rfl (by decide) ?_
          exact hR9.1 rfl _ _ _ _ dX7_times_49 (by first | exact ⟨_, rfl, hp9.2.1, (tC_tX hfS).trans (fWd_tX hp9.2.2.1)⟩ | exact ⟨_, rfl, hRS, tC_tX hfS⟩)
      · refine kw_iconst hC dX7_times_21 rfl ?_
        exact hR9.1 rfl _ _ _ _ dX7_times_22 (by first | exact ⟨_, rfl, hp9.2.1, (tC_tX hfS).trans (fWd_tX hp9.2.2.1)⟩ | exact ⟨_, rfl, hRS, tC_tX hfS⟩)
set_option maxHeartbeats 4000000 in
set_option maxRecDepth 100000 in
theorem d_X7_back {g : wG} (hD : wD g) {S : wSt} {a b : Int} (ha : -2147483648 ≤ a ∧ a ≤ 2147483647) (hb : -2147483648 ≤ b ∧ b ≤ 2147483647) (hRS : CI S) (l : Launch) : Kt l yX7_back wsX7_back ({ frames := 3, cells := 0, slots := 0, locals := 69 } : Room) g S [vr g 0 0, vi a, vi b] (pI (fun _ S' => CI S' ∧ Fr tX S S')) := by
  refine Kt.of (cc := cX7_back) (nL := 3) (ret := (some .int)) (own := RX7) rfl hD (by decide) rfl (Nat.le_of_ble_eq_true rfl) ⟨rfl, rfl⟩ ?_
  intro E hC hR9
  have f25 : Cond.fieldLink RX7 25 "MirrorBench" "slots" "[LMirrorBench$Word;" ∈ wsX7_back := by decide +kernel
  have f59 : Cond.fieldLink RX7 59 "MirrorBench" "made" "LMirrorBench$Word;" ∈ wsX7_back := by decide +kernel
  have w7 : ∀ w ∈ wsX70, w ∈ wsX7_back := by decide +kernel
  show Wk E g 3 S 0 [(0, vr g 0 0), (1, vi a), (2, vi b)] []
  have hfS : Fr tC S S := Fr.rfl _ S
  have hRS := hRS.fr hfS
  have hnS := hRS.n
  have enS : S 3 16 2 = S 3 16 2 := hfS 3 16 2 (by unfold tC; omega)
  refine kw_iload_n hC dX7_back_0 rfl 1 rfl ?_
  refine kw_callS hC (d_X7_isSlot hD (by omega)) gX7_back_X7_isSlot rfl ⟨rfl, rfl⟩ 1 (by decide +kernel) ⟨by decide, by decide⟩ rfl rfl (Nat.le_of_ble_eq_true rfl) dX7_back_1 rfl (kd_ie ?_)
  refine kw_ifeq_b (tgt := 14) hC dX7_back_4 rfl (by decide) ⟨fun c4 => ?_, fun c4 => ?_⟩
  · refine kw_iconst hC dX7_back_14 rfl ?_
    exact hR9.1 rfl _ _ _ _ dX7_back_15 (by first | exact ⟨_, rfl, hp9.2.1, (tC_tX hfS).trans (fWd_tX hp9.2.2.1)⟩ | exact ⟨_, rfl, hRS, tC_tX hfS⟩)
  · refine kw_iload_n hC dX7_back_7 rfl 2 rfl ?_
    refine kw_callS hC (d_X7_isSlot hD (by omega)) gX7_back_X7_isSlot rfl ⟨rfl, rfl⟩ 1 (by decide +kernel) ⟨by decide, by decide⟩ rfl rfl (Nat.le_of_ble_eq_true rfl) dX7_back_8 rfl (kd_ie ?_)
    refine kw_ifne_b (tgt := 16) hC dX7_back_11 rfl (by decide) ⟨fun c11 => ?_, fun c11 => ?_⟩
    · have hla := hRS.ln a (by omega) (by omega)
      have hwa := hRS.wv a (by omega) (by omega)
      refine kw_aload_n hC dX7_back_16 rfl 0 rfl ?_
      refine kg_0_7 hC w7 f59 dX7_back_17 rfl (by decide) (by decide) ?_
      refine kw_aload_n hC dX7_back_20 rfl 0 rfl ?_
      refine kg_0_2 hC w7 f25 dX7_back_21 rfl (by decide) (by decide) ?_
      refine kw_iload_n hC dX7_back_24 rfl 1 rfl ?_
      refine ka_20 hC dX7_back_25 rfl (by decide) (by decide) (by omega) (by omega) ?_
      refine kw_callV hC (d_X6_takeInverted hD (by omega) (by omega) (by omega) (by omega) (by omega) (by omega) (by omega)) gX7_back_X6_takeInverted ⟨_, rfl⟩ rfl (by omega) (show (_ : Int) < 12 by omega) rfl ⟨rfl, rfl⟩ 1 (by decide +kernel) ⟨by decide, by decide⟩ rfl rfl (Nat.le_of_ble_eq_true rfl) dX7_back_26 rfl (kd_v (fun S3 hp3 => ?_))
      obtain ⟨hg3, hp3⟩ := hp3
      have hfS3 : Fr tC S S3 := hfS.trans (hg3.mono (fun k i j h => by unfold fWd at h; unfold tC; omega))
      have hRS3 := hRS.fr hfS3
      have hnS3 := hRS3.n
      have enS3 : S3 3 16 2 = S 3 16 2 := hfS3 3 16 2 (by unfold tC; omega)
      obtain ⟨y1, y2⟩ := hp3
      have hwv : WV (S3 2 8) (S3 1 8 1) (S3 3 16 2) := fun j j0 j1 => by rw [y2 j j0 (by omega)]; have := hwa (S 1 a 1 - 1 - j) (by omega) (by omega); omega
      refine kw_aload_n hC dX7_back_29 rfl 0 rfl ?_
      refine kw_aload_n hC dX7_back_30 rfl 0 rfl ?_
      refine kg_0_7 hC w7 f59 dX7_back_31 rfl (by decide) (by decide) ?_
      refine kw_iload_n hC dX7_back_34 rfl 2 rfl ?_
      refine kw_callV hC (d_X7_store hD (by omega) (by omega) (by omega) (by omega) hRS3 hwv (by omega) (by omega)) gX7_back_X7_store ⟨_, rfl⟩ rfl (by decide) (by decide) rfl ⟨rfl, rfl⟩ 2 (by decide +kernel) ⟨by decide, by decide⟩ rfl rfl (Nat.le_of_ble_eq_true rfl) dX7_back_35 rfl (kd_i (fun r9 Sz hp9 => ?_))
      exact hR9.1 rfl _ _ _ _ dX7_back_38 (by first | exact ⟨_, rfl, hp9.2.1, (tC_tX hfS3).trans (fWd_tX hp9.2.2.1)⟩ | exact ⟨_, rfl, hRS3, tC_tX hfS3⟩)
    · refine kw_iconst hC dX7_back_14 rfl ?_
      exact hR9.1 rfl _ _ _ _ dX7_back_15 (by first | exact ⟨_, rfl, hp9.2.1, (tC_tX hfS).trans (fWd_tX hp9.2.2.1)⟩ | exact ⟨_, rfl, hRS, tC_tX hfS⟩)
set_option maxHeartbeats 4000000 in
set_option maxRecDepth 100000 in
theorem d_X3_number {g : wG} (hD : wD g) {S : wSt} {p a b : Int} (p0 : 0 ≤ p) (p1 : p < 17) (a0 : 0 ≤ a) (a1 : a < 6) (b0 : 0 ≤ b) (b1 : b < 6) (l : Launch) : Kt l yX3_number wsX3_number ({ frames := 0, cells := 0, slots := 0, locals := 0 } : Room) g S [vr g 3 p, vi a, vi b] (pI (fun r S' => r = S 5 p (6 * a + b) ∧ S' = S)) := by
  refine Kt.of (cc := cX3_number) (nL := 3) (ret := (some .int)) (own := RX3) rfl hD (by decide) rfl (Nat.le_of_ble_eq_true rfl) ⟨rfl, rfl⟩ ?_
  intro E hC hR9
  have f15 : Cond.fieldLink RX3 15 "MirrorBench$Mirrors" "numbers" "[I" ∈ wsX3_number := by decide +kernel
  have w3 : ∀ w ∈ wsX30, w ∈ wsX3_number := by decide +kernel
  show Wk E g 3 S 0 [(0, vr g 3 p), (1, vi a), (2, vi b)] []
  refine kw_aload_n hC dX3_number_0 rfl 0 rfl ?_
  refine kg_3_1 hC w3 f15 dX3_number_1 rfl (by omega) (by omega) ?_
  refine kw_iload_n hC dX3_number_4 rfl 1 rfl ?_
  refine kw_bipush hC dX3_number_5 rfl (by decide) ?_
  refine kw_imul hC dX3_number_7 rfl ?_
  refine kw_iload_n hC dX3_number_8 rfl 2 rfl ?_
  rw [Int.mul_comm a 6]
  refine kw_iadd hC dX3_number_9 rfl ?_
  refine ka_5 hC dX3_number_10 rfl (by omega) (by omega) (by omega) (by omega) ?_
  exact hR9.1 rfl _ _ _ _ dX3_number_11 ⟨_, rfl, rfl, rfl⟩
theorem cmt_mul {S : wSt} (hR : CI S) {i j : Int} (i0 : 0 ≤ i) (i1 : i < 6) (j0 : 0 ≤ j) (j1 : j < 6) : 0 ≤ S 5 16 (6 * i + j) * S 5 16 (6 * j + i) ∧ S 5 16 (6 * i + j) * S 5 16 (6 * j + i) ≤ 4 := ⟨Int.mul_nonneg (hR.mt i j i0 i1 j0 j1).1 (hR.mt j i j0 j1 i0 i1).1, hR.set.2.2.2.2.2 i j i0 i1 j0 j1⟩
set_option maxHeartbeats 4000000 in
set_option maxRecDepth 100000 in
theorem d_X3_meetsAt {g : wG} (hD : wD g) {S : wSt} {a b : Int} (a0 : 0 ≤ a) (a1 : a < 6) (b0 : 0 ≤ b) (b1 : b < 6) (hRS : CI S) (l : Launch) : Kt l yX3_meetsAt wsX3_meetsAt ({ frames := 1, cells := 0, slots := 0, locals := 22 } : Room) g S [vr g 3 16, vi a, vi b] (pI (fun r S' => r = mAt a b (S 5 16 (6 * a + b)) (S 5 16 (6 * b + a)) ∧ S' = S)) := by
  refine Kt.of (cc := cX3_meetsAt) (nL := 3) (ret := (some .int)) (own := RX3) rfl hD (by decide) rfl (Nat.le_of_ble_eq_true rfl) ⟨rfl, rfl⟩ ?_
  intro E hC hR9
  show Wk E g 3 S 0 [(0, vr g 3 16), (1, vi a), (2, vi b)] []
  have hpm := cmt_mul hRS a0 a1 b0 b1
  refine kw_iload_n hC dX3_meetsAt_0 rfl 1 rfl ?_
  refine kw_iload_n hC dX3_meetsAt_1 rfl 2 rfl ?_
  refine kw_icmp_ne (tgt := 7) hC dX3_meetsAt_2 rfl (by decide) (by omega) (by omega) ⟨fun c2 => ?_, fun c2 => ?_⟩
  · refine kw_aload_n hC dX3_meetsAt_7 rfl 0 rfl ?_
    refine kw_iload_n hC dX3_meetsAt_8 rfl 1 rfl ?_
    refine kw_iload_n hC dX3_meetsAt_9 rfl 2 rfl ?_
    refine kw_callV hC (d_X3_number hD (by omega) (by omega) (by omega) (by omega) (by omega) (by omega)) gX3_meetsAt_X3_number ⟨_, rfl⟩ rfl (by omega) (show (16 : Int) < 17 by omega) rfl ⟨rfl, rfl⟩ 2 (by decide +kernel) ⟨by decide, by decide⟩ rfl rfl (Nat.le_of_ble_eq_true rfl) dX3_meetsAt_10 rfl (kd_ie ?_)
    refine kw_aload_n hC dX3_meetsAt_13 rfl 0 rfl ?_
    refine kw_iload_n hC dX3_meetsAt_14 rfl 2 rfl ?_
    refine kw_iload_n hC dX3_meetsAt_15 rfl 1 rfl ?_
    refine kw_callV hC (d_X3_number hD (by omega) (by omega) (by omega) (by omega) (by omega) (by omega)) gX3_meetsAt_X3_number ⟨_, rfl⟩ rfl (by omega) (show (16 : Int) < 17 by omega) rfl ⟨rfl, rfl⟩ 2 (by decide +kernel) ⟨by decide, by decide⟩ rfl rfl (Nat.le_of_ble_eq_true rfl) dX3_meetsAt_16 rfl (kd_ie ?_)
    refine kw_imul hC dX3_meetsAt_19 rfl ?_
    obtain ⟨P9, hP9⟩ : ∃ z, z = S 5 16 (6 * a + b) * S 5 16 (6 * b + a) := ⟨_, rfl⟩
    rw [← hP9]
    rw [← hP9] at hpm
    have h5 : P9 = 0 ∨ P9 = 1 ∨ P9 = 2 ∨ P9 = 3 ∨ P9 = 4 := by omega
    rcases h5 with h5 | h5 | h5 | h5 | h5
    · refine kw_tabIn (off := 32) (tgt := 52) hC dX3_meetsAt_20 (by omega) (by omega) (by omega) (by rw [h5]; rfl) (by decide) ?_
      refine kw_iconst hC dX3_meetsAt_52 rfl ?_
      exact hR9.1 rfl _ _ _ _ dX3_meetsAt_53 ⟨_, rfl, by unfold mAt; (try rw [← hP9]); (repeat' split) <;> omega, rfl⟩
    · refine kw_tabIn (off := 34) (tgt := 54) hC dX3_meetsAt_20 (by omega) (by omega) (by omega) (by rw [h5]; rfl) (by decide) ?_
      refine kw_iconst hC dX3_meetsAt_54 rfl ?_
      exact hR9.1 rfl _ _ _ _ dX3_meetsAt_55 ⟨_, rfl, by unfold mAt; (try rw [← hP9]); (repeat' split) <;> omega, rfl⟩
    · refine kw_tabIn (off := 36) (tgt := 56) hC dX3_meetsAt_20 (by omega) (by omega) (by omega) (by rw [h5]; rfl) (by decide) ?_
      refine kw_iconst hC dX3_meetsAt_56 rfl ?_
      exact hR9.1 rfl _ _ _ _ dX3_meetsAt_57 ⟨_, rfl, by unfold mAt; (try rw [← hP9]); (repeat' split) <;> omega, rfl⟩
    · refine kw_tabIn (off := 38) (tgt := 58) hC dX3_meetsAt_20 (by omega) (by omega) (by omega) (by rw [h5]; rfl) (by decide) ?_
      refine kw_bipush hC dX3_meetsAt_58 rfl (by decide) ?_
      exact hR9.1 rfl _ _ _ _ dX3_meetsAt_60 ⟨_, rfl, by unfold mAt; (try rw [← hP9]); (repeat' split) <;> omega, rfl⟩
    · refine kw_tabOut (tgt := 61) hC dX3_meetsAt_20 (by omega) (by omega) (by decide) ?_
      refine kw_iconst hC dX3_meetsAt_61 rfl ?_
      exact hR9.1 rfl _ _ _ _ dX3_meetsAt_62 ⟨_, rfl, by unfold mAt; (try rw [← hP9]); (repeat' split) <;> omega, rfl⟩
  · refine kw_iconst hC dX3_meetsAt_5 rfl ?_
    exact hR9.1 rfl _ _ _ _ dX3_meetsAt_6 ⟨_, rfl, by unfold mAt; (try rw [← hP9]); (repeat' split) <;> omega, rfl⟩
set_option maxHeartbeats 4000000 in
set_option maxRecDepth 100000 in
theorem d_X7_form {g : wG} (hD : wD g) {S : wSt} {a b : Int} (ha : -2147483648 ≤ a ∧ a ≤ 2147483647) (hb : -2147483648 ≤ b ∧ b ≤ 2147483647) (hRS : CI S) (l : Launch) : Kt l yX7_form wsX7_form ({ frames := 6, cells := 0, slots := 0, locals := 143 } : Room) g S [vr g 0 0, vi a, vi b] (pI (fun _ S' => CI S' ∧ Fr tX S S')) := by
  refine Kt.of (cc := cX7_form) (nL := 3) (ret := (some .int)) (own := RX7) rfl hD (by decide) rfl (Nat.le_of_ble_eq_true rfl) ⟨rfl, rfl⟩ ?_
  intro E hC hR9
  have f25 : Cond.fieldLink RX7 25 "MirrorBench" "slots" "[LMirrorBench$Word;" ∈ wsX7_form := by decide +kernel
  have f40 : Cond.fieldLink RX7 40 "MirrorBench" "shortener" "LMirrorBench$Shortener;" ∈ wsX7_form := by decide +kernel
  have f59 : Cond.fieldLink RX7 59 "MirrorBench" "made" "LMirrorBench$Word;" ∈ wsX7_form := by decide +kernel
  have w7 : ∀ w ∈ wsX70, w ∈ wsX7_form := by decide +kernel
  show Wk E g 3 S 0 [(0, vr g 0 0), (1, vi a), (2, vi b)] []
  have hfS : Fr tC S S := Fr.rfl _ S
  have hRS := hRS.fr hfS
  have hnS := hRS.n
  have enS : S 3 16 2 = S 3 16 2 := hfS 3 16 2 (by unfold tC; omega)
  refine kw_iload_n hC dX7_form_0 rfl 1 rfl ?_
  refine kw_callS hC (d_X7_isSlot hD (by omega)) gX7_form_X7_isSlot rfl ⟨rfl, rfl⟩ 1 (by decide +kernel) ⟨by decide, by decide⟩ rfl rfl (Nat.le_of_ble_eq_true rfl) dX7_form_1 rfl (kd_ie ?_)
  refine kw_ifeq_b (tgt := 14) hC dX7_form_4 rfl (by decide) ⟨fun c4 => ?_, fun c4 => ?_⟩
  · refine kw_iconst hC dX7_form_14 rfl ?_
    exact hR9.1 rfl _ _ _ _ dX7_form_15 (by first | exact ⟨_, rfl, hp9.2.1, (tC_tX hfS).trans (fWd_tX hp9.2.2.1)⟩ | exact ⟨_, rfl, hRS, tC_tX hfS⟩)
  · refine kw_iload_n hC dX7_form_7 rfl 2 rfl ?_
    refine kw_callS hC (d_X7_isSlot hD (by omega)) gX7_form_X7_isSlot rfl ⟨rfl, rfl⟩ 1 (by decide +kernel) ⟨by decide, by decide⟩ rfl rfl (Nat.le_of_ble_eq_true rfl) dX7_form_8 rfl (kd_ie ?_)
    refine kw_ifne_b (tgt := 16) hC dX7_form_11 rfl (by decide) ⟨fun c11 => ?_, fun c11 => ?_⟩
    · have hla := hRS.ln a (by omega) (by omega)
      have hwa := hRS.wv a (by omega) (by omega)
      refine kw_aload_n hC dX7_form_16 rfl 0 rfl ?_
      refine kg_0_4 hC w7 f40 dX7_form_17 rfl (by decide) (by decide) ?_
      refine kw_aload_n hC dX7_form_20 rfl 0 rfl ?_
      refine kg_0_2 hC w7 f25 dX7_form_21 rfl (by decide) (by decide) ?_
      refine kw_iload_n hC dX7_form_24 rfl 1 rfl ?_
      refine ka_20 hC dX7_form_25 rfl (by decide) (by decide) (by omega) (by omega) ?_
      refine kw_aload_n hC dX7_form_26 rfl 0 rfl ?_
      refine kg_0_7 hC w7 f59 dX7_form_27 rfl (by decide) (by decide) ?_
      refine kw_callV hC (d_X5_makeForm hD (by omega) (by omega) (by omega) (by omega) hRS hwa (by omega) (by omega)) gX7_form_X5_makeForm ⟨_, rfl⟩ rfl (by decide) (by decide) rfl ⟨rfl, rfl⟩ 2 (by decide +kernel) ⟨by decide, by decide⟩ rfl rfl (Nat.le_of_ble_eq_true rfl) dX7_form_30 rfl (kd_i (fun r3 S3 hp3 => ?_))
      obtain ⟨hg3, hp3⟩ := hp3
      have hfS3 : Fr tC S S3 := hfS.trans (hg3.mono (fun k i j h => by unfold fMd at h; unfold tC; omega))
      have hRS3 := hRS.fr hfS3
      have hnS3 := hRS3.n
      have enS3 : S3 3 16 2 = S 3 16 2 := hfS3 3 16 2 (by unfold tC; omega)
      obtain ⟨hb3, hq3⟩ := hp3
      have hqX := hq3
      refine kw_if_eq (tgt := 48) hC dX7_form_33 rfl (by decide) (by omega) ⟨fun c33 => ?_, fun c33 => ?_⟩
      · refine kw_bipush hC dX7_form_48 rfl (by decide) ?_
        exact hR9.1 rfl _ _ _ _ dX7_form_50 (by first | exact ⟨_, rfl, hp9.2.1, (tC_tX hfS3).trans (fWd_tX hp9.2.2.1)⟩ | exact ⟨_, rfl, hRS3, tC_tX hfS3⟩)
      · obtain ⟨⟨lX0, lX1⟩, hqW⟩ := hqX (by omega)
        have hv8 : WV (S3 2 8) (S3 1 8 1) (S3 3 16 2) := hqW.eq (fun _ _ _ => rfl) rfl (by omega)
        refine kw_aload_n hC dX7_form_36 rfl 0 rfl ?_
        refine kw_aload_n hC dX7_form_37 rfl 0 rfl ?_
        refine kg_0_7 hC w7 f59 dX7_form_38 rfl (by decide) (by decide) ?_
        refine kw_iload_n hC dX7_form_41 rfl 2 rfl ?_
        refine kw_callV hC (d_X7_store hD (by omega) (by omega) (by omega) (by omega) hRS3 hv8 (by omega) (by omega)) gX7_form_X7_store ⟨_, rfl⟩ rfl (by decide) (by decide) rfl ⟨rfl, rfl⟩ 2 (by decide +kernel) ⟨by decide, by decide⟩ rfl rfl (Nat.le_of_ble_eq_true rfl) dX7_form_42 rfl (kd_i (fun r9 Sz hp9 => ?_))
        refine kw_goto (tgt := 50) hC dX7_form_45 rfl (by decide) ?_
        exact hR9.1 rfl _ _ _ _ dX7_form_50 (by first | exact ⟨_, rfl, hp9.2.1, (tC_tX hfS3).trans (fWd_tX hp9.2.2.1)⟩ | exact ⟨_, rfl, hRS3, tC_tX hfS3⟩)
    · refine kw_iconst hC dX7_form_14 rfl ?_
      exact hR9.1 rfl _ _ _ _ dX7_form_15 (by first | exact ⟨_, rfl, hp9.2.1, (tC_tX hfS).trans (fWd_tX hp9.2.2.1)⟩ | exact ⟨_, rfl, hRS, tC_tX hfS⟩)
set_option maxHeartbeats 4000000 in
set_option maxRecDepth 100000 in
theorem d_X7_same {g : wG} (hD : wD g) {S : wSt} {a b : Int} (ha : -2147483648 ≤ a ∧ a ≤ 2147483647) (hb : -2147483648 ≤ b ∧ b ≤ 2147483647) (hRS : CI S) (l : Launch) : Kt l yX7_same wsX7_same ({ frames := 6, cells := 0, slots := 0, locals := 143 } : Room) g S [vr g 0 0, vi a, vi b] (pI (fun _ S' => CI S' ∧ Fr tX S S')) := by
  refine Kt.of (cc := cX7_same) (nL := 3) (ret := (some .int)) (own := RX7) rfl hD (by decide) rfl (Nat.le_of_ble_eq_true rfl) ⟨rfl, rfl⟩ ?_
  intro E hC hR9
  have f25 : Cond.fieldLink RX7 25 "MirrorBench" "slots" "[LMirrorBench$Word;" ∈ wsX7_same := by decide +kernel
  have f40 : Cond.fieldLink RX7 40 "MirrorBench" "shortener" "LMirrorBench$Shortener;" ∈ wsX7_same := by decide +kernel
  have f59 : Cond.fieldLink RX7 59 "MirrorBench" "made" "LMirrorBench$Word;" ∈ wsX7_same := by decide +kernel
  have f63 : Cond.fieldLink RX7 63 "MirrorBench" "other" "LMirrorBench$Word;" ∈ wsX7_same := by decide +kernel
  have w7 : ∀ w ∈ wsX70, w ∈ wsX7_same := by decide +kernel
  show Wk E g 3 S 0 [(0, vr g 0 0), (1, vi a), (2, vi b)] []
  have hfS : Fr tC S S := Fr.rfl _ S
  have hRS := hRS.fr hfS
  have hnS := hRS.n
  have enS : S 3 16 2 = S 3 16 2 := hfS 3 16 2 (by unfold tC; omega)
  refine kw_iload_n hC dX7_same_0 rfl 1 rfl ?_
  refine kw_callS hC (d_X7_isSlot hD (by omega)) gX7_same_X7_isSlot rfl ⟨rfl, rfl⟩ 1 (by decide +kernel) ⟨by decide, by decide⟩ rfl rfl (Nat.le_of_ble_eq_true rfl) dX7_same_1 rfl (kd_ie ?_)
  refine kw_ifeq_b (tgt := 14) hC dX7_same_4 rfl (by decide) ⟨fun c4 => ?_, fun c4 => ?_⟩
  · refine kw_iconst hC dX7_same_14 rfl ?_
    exact hR9.1 rfl _ _ _ _ dX7_same_15 (by first | exact ⟨_, rfl, hp9.2.1, (tC_tX hfS).trans (fWd_tX hp9.2.2.1)⟩ | exact ⟨_, rfl, hRS, tC_tX hfS⟩)
  · refine kw_iload_n hC dX7_same_7 rfl 2 rfl ?_
    refine kw_callS hC (d_X7_isSlot hD (by omega)) gX7_same_X7_isSlot rfl ⟨rfl, rfl⟩ 1 (by decide +kernel) ⟨by decide, by decide⟩ rfl rfl (Nat.le_of_ble_eq_true rfl) dX7_same_8 rfl (kd_ie ?_)
    refine kw_ifne_b (tgt := 16) hC dX7_same_11 rfl (by decide) ⟨fun c11 => ?_, fun c11 => ?_⟩
    · have hla := hRS.ln a (by omega) (by omega)
      have hlb := hRS.ln b (by omega) (by omega)
      have hwa := hRS.wv a (by omega) (by omega)
      have hwb := hRS.wv b (by omega) (by omega)
      refine kw_aload_n hC dX7_same_16 rfl 0 rfl ?_
      refine kg_0_4 hC w7 f40 dX7_same_17 rfl (by decide) (by decide) ?_
      refine kw_aload_n hC dX7_same_20 rfl 0 rfl ?_
      refine kg_0_2 hC w7 f25 dX7_same_21 rfl (by decide) (by decide) ?_
      refine kw_iload_n hC dX7_same_24 rfl 1 rfl ?_
      refine ka_20 hC dX7_same_25 rfl (by decide) (by decide) (by omega) (by omega) ?_
      refine kw_aload_n hC dX7_same_26 rfl 0 rfl ?_
      refine kg_0_7 hC w7 f59 dX7_same_27 rfl (by decide) (by decide) ?_
      refine kw_callV hC (d_X5_makeForm hD (by omega) (by omega) (by omega) (by omega) hRS hwa (by omega) (by omega)) gX7_same_X5_makeForm ⟨_, rfl⟩ rfl (by decide) (by decide) rfl ⟨rfl, rfl⟩ 2 (by decide +kernel) ⟨by decide, by decide⟩ rfl rfl (Nat.le_of_ble_eq_true rfl) dX7_same_30 rfl (kd_i (fun r3 S3 hp3 => ?_))
      obtain ⟨hg3, hp3⟩ := hp3
      have hfS3 : Fr tC S S3 := hfS.trans (hg3.mono (fun k i j h => by unfold fMd at h; unfold tC; omega))
      have hRS3 := hRS.fr hfS3
      have hnS3 := hRS3.n
      have enS3 : S3 3 16 2 = S 3 16 2 := hfS3 3 16 2 (by unfold tC; omega)
      obtain ⟨hb3, hq3⟩ := hp3
      have hqX := hq3
      refine kw_if_eq (tgt := 56) hC dX7_same_33 rfl (by decide) (by omega) ⟨fun c33 => ?_, fun c33 => ?_⟩
      · refine kw_bipush hC dX7_same_56 rfl (by decide) ?_
        exact hR9.1 rfl _ _ _ _ dX7_same_58 (by first | exact ⟨_, rfl, hp9.2.1, (tC_tX hfS3).trans (fWd_tX hp9.2.2.1)⟩ | exact ⟨_, rfl, hRS3, tC_tX hfS3⟩)
      · obtain ⟨⟨lX0, lX1⟩, hqW⟩ := hqX (by omega)
        have hv8 : WV (S3 2 8) (S3 1 8 1) (S3 3 16 2) := hqW.eq (fun _ _ _ => rfl) rfl (by omega)
        have eb3 : S3 1 b 1 = S 1 b 1 := hfS3 1 b 1 (by unfold tC; omega)
        have hwc : WV (S3 2 b) (S3 1 b 1) (S3 3 16 2) := hwb.fr (T := tC) hfS3 (by unfold tC; omega) (fun j => by unfold tC; omega) (by omega)
        refine kw_aload_n hC dX7_same_36 rfl 0 rfl ?_
        refine kg_0_4 hC w7 f40 dX7_same_37 rfl (by decide) (by decide) ?_
        refine kw_aload_n hC dX7_same_40 rfl 0 rfl ?_
        refine kg_0_2 hC w7 f25 dX7_same_41 rfl (by decide) (by decide) ?_
        refine kw_iload_n hC dX7_same_44 rfl 2 rfl ?_
        refine ka_20 hC dX7_same_45 rfl (by decide) (by decide) (by omega) (by omega) ?_
        refine kw_aload_n hC dX7_same_46 rfl 0 rfl ?_
        refine kg_0_8 hC w7 f63 dX7_same_47 rfl (by decide) (by decide) ?_
        refine kw_callV hC (d_X5_makeForm hD (by omega) (by omega) (by omega) (by omega) hRS3 hwc (by omega) (by omega)) gX7_same_X5_makeForm ⟨_, rfl⟩ rfl (by decide) (by decide) rfl ⟨rfl, rfl⟩ 2 (by decide +kernel) ⟨by decide, by decide⟩ rfl rfl (Nat.le_of_ble_eq_true rfl) dX7_same_50 rfl (kd_i (fun r5 S5 hp5 => ?_))
        obtain ⟨hg5, hp5⟩ := hp5
        have hfS5 : Fr tC S S5 := hfS3.trans (hg5.mono (fun k i j h => by unfold fMd at h; unfold tC; omega))
        have hRS5 := hRS.fr hfS5
        have hnS5 := hRS5.n
        have enS5 : S5 3 16 2 = S 3 16 2 := hfS5 3 16 2 (by unfold tC; omega)
        obtain ⟨hb5, hq5⟩ := hp5
        have hqY := hq5
        have e85 : S5 1 8 1 = S3 1 8 1 := hg5 1 8 1 (by unfold fMd; omega)
        refine kw_if_ne (tgt := 59) hC dX7_same_53 rfl (by decide) (by omega) ⟨fun c53 => ?_, fun c53 => ?_⟩
        · obtain ⟨⟨lY0, lY1⟩, -⟩ := hqY (by omega)
          refine kw_aload_n hC dX7_same_59 rfl 0 rfl ?_
          refine kg_0_7 hC w7 f59 dX7_same_60 rfl (by decide) (by decide) ?_
          refine kw_aload_n hC dX7_same_63 rfl 0 rfl ?_
          refine kg_0_8 hC w7 f63 dX7_same_64 rfl (by decide) (by decide) ?_
          refine kw_callV hC (d_X6_isLike hD (by omega) (by omega) (by omega) (by omega) (by omega) (by omega) (by omega) (by omega) ) gX7_same_X6_isLike ⟨_, rfl⟩ rfl (by omega) (show (_ : Int) < 12 by omega) rfl ⟨rfl, rfl⟩ 1 (by decide +kernel) ⟨by decide, by decide⟩ rfl rfl (Nat.le_of_ble_eq_true rfl) dX7_same_67 rfl (kd_i (fun r9 S9 hp9 => ?_))
          obtain ⟨hb9, rfl⟩ := hp9
          refine kw_if_eq (tgt := 77) hC dX7_same_70 rfl (by decide) (by omega) ⟨fun c70 => ?_, fun c70 => ?_⟩
          · refine kw_iconst hC dX7_same_77 rfl ?_
            exact hR9.1 rfl _ _ _ _ dX7_same_78 (by first | exact ⟨_, rfl, hp9.2.1, (tC_tX hfS5).trans (fWd_tX hp9.2.2.1)⟩ | exact ⟨_, rfl, hRS5, tC_tX hfS5⟩)
          · refine kw_iconst hC dX7_same_73 rfl ?_
            refine kw_goto (tgt := 78) hC dX7_same_74 rfl (by decide) ?_
            exact hR9.1 rfl _ _ _ _ dX7_same_78 (by first | exact ⟨_, rfl, hp9.2.1, (tC_tX hfS5).trans (fWd_tX hp9.2.2.1)⟩ | exact ⟨_, rfl, hRS5, tC_tX hfS5⟩)
        · refine kw_bipush hC dX7_same_56 rfl (by decide) ?_
          exact hR9.1 rfl _ _ _ _ dX7_same_58 (by first | exact ⟨_, rfl, hp9.2.1, (tC_tX hfS5).trans (fWd_tX hp9.2.2.1)⟩ | exact ⟨_, rfl, hRS5, tC_tX hfS5⟩)
    · refine kw_iconst hC dX7_same_14 rfl ?_
      exact hR9.1 rfl _ _ _ _ dX7_same_15 (by first | exact ⟨_, rfl, hp9.2.1, (tC_tX hfS).trans (fWd_tX hp9.2.2.1)⟩ | exact ⟨_, rfl, hRS, tC_tX hfS⟩)
set_option maxHeartbeats 4000000 in
set_option maxRecDepth 100000 in
theorem d_X7_joinWay {g : wG} (hD : wD g) {S : wSt} {a b : Int} (a0 : 0 ≤ a) (a1 : a < 8) (b0 : 0 ≤ b) (b1 : b < 8) (hRS : CI S) (l : Launch) : Kt l yX7_joinWay wsX7_joinWay ({ frames := 2, cells := 0, slots := 0, locals := 47 } : Room) g S [vr g 0 0, vi a, vi b] (pI (fun r S' => Fr (fWd 10) S S' ∧ ((r = 0 ∨ r = 1) ∧ (r = 1 → (0 ≤ S' 1 10 1 ∧ S' 1 10 1 ≤ 100) ∧ WV (S' 2 10) (S' 1 10 1) (S 3 16 2))))) := by
  refine Kt.of (cc := cX7_joinWay) (nL := 3) (ret := (some .boolean)) (own := RX7) rfl hD (by decide) rfl (Nat.le_of_ble_eq_true rfl) ⟨rfl, rfl⟩ ?_
  intro E hC hR9
  have f25 : Cond.fieldLink RX7 25 "MirrorBench" "slots" "[LMirrorBench$Word;" ∈ wsX7_joinWay := by decide +kernel
  have f66 : Cond.fieldLink RX7 66 "MirrorBench" "joined" "LMirrorBench$Word;" ∈ wsX7_joinWay := by decide +kernel
  have f131 : Cond.fieldLink RX7 131 "MirrorBench$Word" "length" "I" ∈ wsX7_joinWay := by decide +kernel
  have w6 : ∀ w ∈ wsX60, w ∈ wsX7_joinWay := by decide +kernel
  have w7 : ∀ w ∈ wsX70, w ∈ wsX7_joinWay := by decide +kernel
  show Wk E g 3 S 0 [(0, vr g 0 0), (1, vi a), (2, vi b)] []
  have hfS : Fr (fWd 10) S S := Fr.rfl _ S
  have hRS : CI S := hRS.fr (hfS.mono (fun k i j h => by unfold fWd at h; unfold tC; omega))
  have hnS := hRS.n
  have enS : S 3 16 2 = S 3 16 2 := hfS 3 16 2 (by unfold fWd; omega)
  have hla := hRS.ln a (by omega) (by omega)
  have hlb := hRS.ln b (by omega) (by omega)
  have hwa := hRS.wv a (by omega) (by omega)
  have hwb := hRS.wv b (by omega) (by omega)
  refine kw_aload_n hC dX7_joinWay_0 rfl 0 rfl ?_
  refine kg_0_2 hC w7 f25 dX7_joinWay_1 rfl (by decide) (by decide) ?_
  refine kw_iload_n hC dX7_joinWay_4 rfl 1 rfl ?_
  refine ka_20 hC dX7_joinWay_5 rfl (by decide) (by decide) (by omega) (by omega) ?_
  refine kg_1_1 hC w6 f131 dX7_joinWay_6 rfl (by omega) (by omega) ?_
  refine kw_aload_n hC dX7_joinWay_9 rfl 0 rfl ?_
  refine kg_0_2 hC w7 f25 dX7_joinWay_10 rfl (by decide) (by decide) ?_
  refine kw_iload_n hC dX7_joinWay_13 rfl 2 rfl ?_
  refine ka_20 hC dX7_joinWay_14 rfl (by decide) (by decide) (by omega) (by omega) ?_
  refine kg_1_1 hC w6 f131 dX7_joinWay_15 rfl (by omega) (by omega) ?_
  refine kw_iadd hC dX7_joinWay_18 rfl ?_
  refine kw_bipush hC dX7_joinWay_19 rfl (by decide) ?_
  refine kw_icmp_le (tgt := 26) hC dX7_joinWay_21 rfl (by decide) (by omega) (by omega) ⟨fun c21 => ?_, fun c21 => ?_⟩
  · refine kw_aload_n hC dX7_joinWay_26 rfl 0 rfl ?_
    refine kg_0_9 hC w7 f66 dX7_joinWay_27 rfl (by decide) (by decide) ?_
    refine kw_aload_n hC dX7_joinWay_30 rfl 0 rfl ?_
    refine kg_0_2 hC w7 f25 dX7_joinWay_31 rfl (by decide) (by decide) ?_
    refine kw_iload_n hC dX7_joinWay_34 rfl 1 rfl ?_
    refine ka_20 hC dX7_joinWay_35 rfl (by decide) (by decide) (by omega) (by omega) ?_
    refine kw_callV hC (d_X6_takeInverted hD (by omega) (by omega) (by omega) (by omega) (by omega) (by omega) (by omega) ) gX7_joinWay_X6_takeInverted ⟨_, rfl⟩ rfl (by omega) (show (_ : Int) < 12 by omega) rfl ⟨rfl, rfl⟩ 1 (by decide +kernel) ⟨by decide, by decide⟩ rfl rfl (Nat.le_of_ble_eq_true rfl) dX7_joinWay_36 rfl (kd_v (fun S2 hp2 => ?_))
    obtain ⟨hg2, hp2⟩ := hp2
    have hfS2 : Fr (fWd 10) S S2 := hfS.trans (hg2.mono (fun k i j h => by unfold fWd at h; unfold fWd; omega))
    have hRS2 : CI S2 := hRS.fr (hfS2.mono (fun k i j h => by unfold fWd at h; unfold tC; omega))
    have hnS2 := hRS2.n
    have enS2 : S2 3 16 2 = S 3 16 2 := hfS2 3 16 2 (by unfold fWd; omega)
    obtain ⟨y1, y2⟩ := hp2
    have hv : WV (S2 2 10) (S2 1 10 1) (S 3 16 2) := fun j j0 j1 => by rw [y2 j j0 (by omega)]; exact hwa (S 1 a 1 - 1 - j) (by omega) (by omega)
    have eb : S2 1 b 1 = S 1 b 1 := hfS2 1 b 1 (by unfold fWd; omega)
    have eb2 : ∀ j, S2 2 b j = S 2 b j := fun j => hfS2 2 b j (by unfold fWd; omega)
    refine kw_aload_n hC dX7_joinWay_39 rfl 0 rfl ?_
    refine kg_0_9 hC w7 f66 dX7_joinWay_40 rfl (by decide) (by decide) ?_
    refine kw_aload_n hC dX7_joinWay_43 rfl 0 rfl ?_
    refine kg_0_2 hC w7 f25 dX7_joinWay_44 rfl (by decide) (by decide) ?_
    refine kw_iload_n hC dX7_joinWay_47 rfl 2 rfl ?_
    refine ka_20 hC dX7_joinWay_48 rfl (by decide) (by decide) (by omega) (by omega) ?_
    refine kw_callV hC (d_X6_append hD (by omega) (by omega) (by omega) (by omega) (by omega) (by omega) (by omega) ) gX7_joinWay_X6_append ⟨_, rfl⟩ rfl (by omega) (show (_ : Int) < 12 by omega) rfl ⟨rfl, rfl⟩ 1 (by decide +kernel) ⟨by decide, by decide⟩ rfl rfl (Nat.le_of_ble_eq_true rfl) dX7_joinWay_49 rfl (kd_v (fun S3 hp3 => ?_))
    obtain ⟨hg3, hp3⟩ := hp3
    have hfS3 : Fr (fWd 10) S S3 := hfS2.trans (hg3.mono (fun k i j h => by unfold fWd at h; unfold fWd; omega))
    have hRS3 : CI S3 := hRS.fr (hfS3.mono (fun k i j h => by unfold fWd at h; unfold tC; omega))
    have hnS3 := hRS3.n
    have enS3 : S3 3 16 2 = S 3 16 2 := hfS3 3 16 2 (by unfold fWd; omega)
    obtain ⟨z1, z2, z3⟩ := hp3
    replace hv : WV (S3 2 10) (S3 1 10 1) (S 3 16 2) := fun j j0 j1 => by rcases Decidable.em (j < S2 1 10 1) with e | e; exact (by rw [z2 j j0 e]; exact hv j j0 e); exact (by have h5 := z3 (j - S2 1 10 1) (by omega) (by omega); rw [show S2 1 10 1 + (j - S2 1 10 1) = j by omega, eb2] at h5; rw [h5]; exact hwb (j - S2 1 10 1) (by omega) (by omega))
    refine kw_iconst hC dX7_joinWay_52 rfl ?_
    exact hR9.2.1 rfl _ _ _ _ dX7_joinWay_53 (by omega) (by first | exact ⟨_, rfl, hfS3, by omega, fun q => by omega⟩ | exact ⟨_, rfl, hfS3, by omega, fun q => ⟨by omega, hv⟩⟩)
  · refine kw_iconst hC dX7_joinWay_24 rfl ?_
    exact hR9.2.1 rfl _ _ _ _ dX7_joinWay_25 (by omega) (by first | exact ⟨_, rfl, hfS, by omega, fun q => by omega⟩ | exact ⟨_, rfl, hfS, by omega, fun q => ⟨by omega, hv⟩⟩)
set_option maxHeartbeats 4000000 in
set_option maxRecDepth 100000 in
theorem d_X7_way {g : wG} (hD : wD g) {S : wSt} {a b c : Int} (ha : -2147483648 ≤ a ∧ a ≤ 2147483647) (hb : -2147483648 ≤ b ∧ b ≤ 2147483647) (hc : -2147483648 ≤ c ∧ c ≤ 2147483647) (hRS : CI S) (l : Launch) : Kt l yX7_way wsX7_way ({ frames := 6, cells := 0, slots := 0, locals := 143 } : Room) g S [vr g 0 0, vi a, vi b, vi c] (pI (fun _ S' => CI S' ∧ Fr tX S S')) := by
  refine Kt.of (cc := cX7_way) (nL := 4) (ret := (some .int)) (own := RX7) rfl hD (by decide) rfl (Nat.le_of_ble_eq_true rfl) ⟨rfl, rfl⟩ ?_
  intro E hC hR9
  have f40 : Cond.fieldLink RX7 40 "MirrorBench" "shortener" "LMirrorBench$Shortener;" ∈ wsX7_way := by decide +kernel
  have f59 : Cond.fieldLink RX7 59 "MirrorBench" "made" "LMirrorBench$Word;" ∈ wsX7_way := by decide +kernel
  have f66 : Cond.fieldLink RX7 66 "MirrorBench" "joined" "LMirrorBench$Word;" ∈ wsX7_way := by decide +kernel
  have w7 : ∀ w ∈ wsX70, w ∈ wsX7_way := by decide +kernel
  show Wk E g 4 S 0 [(0, vr g 0 0), (1, vi a), (2, vi b), (3, vi c)] []
  have hfS : Fr tC S S := Fr.rfl _ S
  have hRS := hRS.fr hfS
  have hnS := hRS.n
  have enS : S 3 16 2 = S 3 16 2 := hfS 3 16 2 (by unfold tC; omega)
  refine kw_iload_n hC dX7_way_0 rfl 1 rfl ?_
  refine kw_callS hC (d_X7_isSlot hD (by omega)) gX7_way_X7_isSlot rfl ⟨rfl, rfl⟩ 1 (by decide +kernel) ⟨by decide, by decide⟩ rfl rfl (Nat.le_of_ble_eq_true rfl) dX7_way_1 rfl (kd_ie ?_)
  refine kw_ifeq_b (tgt := 21) hC dX7_way_4 rfl (by decide) ⟨fun c4 => ?_, fun c4 => ?_⟩
  · refine kw_iconst hC dX7_way_21 rfl ?_
    exact hR9.1 rfl _ _ _ _ dX7_way_22 (by first | exact ⟨_, rfl, hp9.2.1, (tC_tX hfS).trans (fWd_tX hp9.2.2.1)⟩ | exact ⟨_, rfl, hRS, tC_tX hfS⟩)
  · refine kw_iload_n hC dX7_way_7 rfl 2 rfl ?_
    refine kw_callS hC (d_X7_isSlot hD (by omega)) gX7_way_X7_isSlot rfl ⟨rfl, rfl⟩ 1 (by decide +kernel) ⟨by decide, by decide⟩ rfl rfl (Nat.le_of_ble_eq_true rfl) dX7_way_8 rfl (kd_ie ?_)
    refine kw_ifeq_b (tgt := 21) hC dX7_way_11 rfl (by decide) ⟨fun c11 => ?_, fun c11 => ?_⟩
    · refine kw_iconst hC dX7_way_21 rfl ?_
      exact hR9.1 rfl _ _ _ _ dX7_way_22 (by first | exact ⟨_, rfl, hp9.2.1, (tC_tX hfS).trans (fWd_tX hp9.2.2.1)⟩ | exact ⟨_, rfl, hRS, tC_tX hfS⟩)
    · refine kw_iload_n hC dX7_way_14 rfl 3 rfl ?_
      refine kw_callS hC (d_X7_isSlot hD (by omega)) gX7_way_X7_isSlot rfl ⟨rfl, rfl⟩ 1 (by decide +kernel) ⟨by decide, by decide⟩ rfl rfl (Nat.le_of_ble_eq_true rfl) dX7_way_15 rfl (kd_ie ?_)
      refine kw_ifne_b (tgt := 23) hC dX7_way_18 rfl (by decide) ⟨fun c18 => ?_, fun c18 => ?_⟩
      · refine kw_aload_n hC dX7_way_23 rfl 0 rfl ?_
        refine kw_iload_n hC dX7_way_24 rfl 1 rfl ?_
        refine kw_iload_n hC dX7_way_25 rfl 2 rfl ?_
        refine kw_callV hC (d_X7_joinWay hD (by omega) (by omega) (by omega) (by omega) hRS) gX7_way_X7_joinWay ⟨_, rfl⟩ rfl (by decide) (by decide) rfl ⟨rfl, rfl⟩ 2 (by decide +kernel) ⟨by decide, by decide⟩ rfl rfl (Nat.le_of_ble_eq_true rfl) dX7_way_26 rfl (kd_i (fun r4 S4 hp4 => ?_))
        obtain ⟨hg4, hp4⟩ := hp4
        have hfS4 : Fr tC S S4 := hfS.trans (hg4.mono (fun k i j h => by unfold fWd at h; unfold tC; omega))
        have hRS4 := hRS.fr hfS4
        have hnS4 := hRS4.n
        have enS4 : S4 3 16 2 = S 3 16 2 := hfS4 3 16 2 (by unfold tC; omega)
        obtain ⟨hbJ, hqJ⟩ := hp4
        refine kw_if_ne (tgt := 35) hC dX7_way_29 rfl (by decide) (by omega) ⟨fun c29 => ?_, fun c29 => ?_⟩
        · obtain ⟨⟨lJ0, lJ1⟩, hvJ⟩ := hqJ (by omega)
          replace hvJ : WV (S4 2 10) (S4 1 10 1) (S4 3 16 2) := hvJ.eq (fun _ _ _ => rfl) rfl (by omega)
          refine kw_aload_n hC dX7_way_35 rfl 0 rfl ?_
          refine kg_0_4 hC w7 f40 dX7_way_36 rfl (by decide) (by decide) ?_
          refine kw_aload_n hC dX7_way_39 rfl 0 rfl ?_
          refine kg_0_9 hC w7 f66 dX7_way_40 rfl (by decide) (by decide) ?_
          refine kw_aload_n hC dX7_way_43 rfl 0 rfl ?_
          refine kg_0_7 hC w7 f59 dX7_way_44 rfl (by decide) (by decide) ?_
          refine kw_callV hC (d_X5_makeForm hD (by omega) (by omega) (by omega) (by omega) hRS4 hvJ (by omega) (by omega)) gX7_way_X5_makeForm ⟨_, rfl⟩ rfl (by decide) (by decide) rfl ⟨rfl, rfl⟩ 2 (by decide +kernel) ⟨by decide, by decide⟩ rfl rfl (Nat.le_of_ble_eq_true rfl) dX7_way_47 rfl (kd_i (fun r6 S6 hp6 => ?_))
          obtain ⟨hg6, hp6⟩ := hp6
          have hfS6 : Fr tC S S6 := hfS4.trans (hg6.mono (fun k i j h => by unfold fMd at h; unfold tC; omega))
          have hRS6 := hRS.fr hfS6
          have hnS6 := hRS6.n
          have enS6 : S6 3 16 2 = S 3 16 2 := hfS6 3 16 2 (by unfold tC; omega)
          obtain ⟨hb6, hq6⟩ := hp6
          have hqX := hq6
          refine kw_if_eq (tgt := 65) hC dX7_way_50 rfl (by decide) (by omega) ⟨fun c50 => ?_, fun c50 => ?_⟩
          · refine kw_bipush hC dX7_way_65 rfl (by decide) ?_
            exact hR9.1 rfl _ _ _ _ dX7_way_67 (by first | exact ⟨_, rfl, hp9.2.1, (tC_tX hfS6).trans (fWd_tX hp9.2.2.1)⟩ | exact ⟨_, rfl, hRS6, tC_tX hfS6⟩)
          · obtain ⟨⟨lX0, lX1⟩, hqW⟩ := hqX (by omega)
            have hv8 : WV (S6 2 8) (S6 1 8 1) (S6 3 16 2) := hqW.eq (fun _ _ _ => rfl) rfl (by omega)
            refine kw_aload_n hC dX7_way_53 rfl 0 rfl ?_
            refine kw_aload_n hC dX7_way_54 rfl 0 rfl ?_
            refine kg_0_7 hC w7 f59 dX7_way_55 rfl (by decide) (by decide) ?_
            refine kw_iload_n hC dX7_way_58 rfl 3 rfl ?_
            refine kw_callV hC (d_X7_store hD (by omega) (by omega) (by omega) (by omega) hRS6 hv8 (by omega) (by omega)) gX7_way_X7_store ⟨_, rfl⟩ rfl (by decide) (by decide) rfl ⟨rfl, rfl⟩ 2 (by decide +kernel) ⟨by decide, by decide⟩ rfl rfl (Nat.le_of_ble_eq_true rfl) dX7_way_59 rfl (kd_i (fun r9 Sz hp9 => ?_))
            refine kw_goto (tgt := 67) hC dX7_way_62 rfl (by decide) ?_
            exact hR9.1 rfl _ _ _ _ dX7_way_67 (by first | exact ⟨_, rfl, hp9.2.1, (tC_tX hfS6).trans (fWd_tX hp9.2.2.1)⟩ | exact ⟨_, rfl, hRS6, tC_tX hfS6⟩)
        · refine kw_bipush hC dX7_way_32 rfl (by decide) ?_
          exact hR9.1 rfl _ _ _ _ dX7_way_34 (by first | exact ⟨_, rfl, hp9.2.1, (tC_tX hfS4).trans (fWd_tX hp9.2.2.1)⟩ | exact ⟨_, rfl, hRS4, tC_tX hfS4⟩)
      · refine kw_iconst hC dX7_way_21 rfl ?_
        exact hR9.1 rfl _ _ _ _ dX7_way_22 (by first | exact ⟨_, rfl, hp9.2.1, (tC_tX hfS).trans (fWd_tX hp9.2.2.1)⟩ | exact ⟨_, rfl, hRS, tC_tX hfS⟩)
set_option maxHeartbeats 4000000 in
set_option maxRecDepth 100000 in
theorem d_X7_wall {g : wG} (hD : wD g) {S : wSt} {a b c d : Int} (ha : -2147483648 ≤ a ∧ a ≤ 2147483647) (hb : -2147483648 ≤ b ∧ b ≤ 2147483647) (hc : -2147483648 ≤ c ∧ c ≤ 2147483647) (hd : -2147483648 ≤ d ∧ d ≤ 2147483647) (hRS : CI S) (l : Launch) : Kt l yX7_wall wsX7_wall ({ frames := 6, cells := 0, slots := 0, locals := 143 } : Room) g S [vr g 0 0, vi a, vi b, vi c, vi d] (pL (fun _ S' => CI S' ∧ Fr tX S S')) := by
  refine Kt.of (cc := cX7_wall) (nL := 5) (ret := (some .long)) (own := RX7) rfl hD (by decide) rfl (Nat.le_of_ble_eq_true rfl) ⟨rfl, rfl⟩ ?_
  intro E hC hR9
  have f12 : Cond.fieldLink RX7 12 "MirrorBench" "set" "LMirrorBench$Mirrors;" ∈ wsX7_wall := by decide +kernel
  have f25 : Cond.fieldLink RX7 25 "MirrorBench" "slots" "[LMirrorBench$Word;" ∈ wsX7_wall := by decide +kernel
  have f40 : Cond.fieldLink RX7 40 "MirrorBench" "shortener" "LMirrorBench$Shortener;" ∈ wsX7_wall := by decide +kernel
  have f59 : Cond.fieldLink RX7 59 "MirrorBench" "made" "LMirrorBench$Word;" ∈ wsX7_wall := by decide +kernel
  have f66 : Cond.fieldLink RX7 66 "MirrorBench" "joined" "LMirrorBench$Word;" ∈ wsX7_wall := by decide +kernel
  have f69 : Cond.fieldLink RX7 69 "MirrorBench" "spare" "[J" ∈ wsX7_wall := by decide +kernel
  have f131 : Cond.fieldLink RX7 131 "MirrorBench$Word" "length" "I" ∈ wsX7_wall := by decide +kernel
  have f157 : Cond.fieldLink RX7 157 "MirrorBench$Word" "mirrors" "[I" ∈ wsX7_wall := by decide +kernel
  have l196 : Cond.constantLong RX7 196 (Int64.ofInt (-10000000000001)) ∈ wsX7_wall := by decide +kernel
  have l206 : Cond.constantLong RX7 206 (Int64.ofInt (-10000000000004)) ∈ wsX7_wall := by decide +kernel
  have w6 : ∀ w ∈ wsX60, w ∈ wsX7_wall := by decide +kernel
  have w7 : ∀ w ∈ wsX70, w ∈ wsX7_wall := by decide +kernel
  show Wk E g 5 S 0 [(0, vr g 0 0), (1, vi a), (2, vi b), (3, vi c), (4, vi d)] []
  have hfS : Fr tC S S := Fr.rfl _ S
  have hRS := hRS.fr hfS
  have hnS := hRS.n
  have enS : S 3 16 2 = S 3 16 2 := hfS 3 16 2 (by unfold tC; omega)
  refine kw_iload_n hC dX7_wall_0 rfl 1 rfl ?_
  refine kw_callS hC (d_X7_isSlot hD (by omega)) gX7_wall_X7_isSlot rfl ⟨rfl, rfl⟩ 1 (by decide +kernel) ⟨by decide, by decide⟩ rfl rfl (Nat.le_of_ble_eq_true rfl) dX7_wall_1 rfl (kd_ie ?_)
  refine kw_ifeq_b (tgt := 39) hC dX7_wall_4 rfl (by decide) ⟨fun c4 => ?_, fun c4 => ?_⟩
  · refine kw_ldc2 (z := -10000000000001) hC dX7_wall_39 rfl l196 ?_
    exact hR9.2.2.1 rfl _ _ _ _ dX7_wall_42 (by first | exact ⟨_, rfl, hp9.2.1, (tC_tX hfS).trans (fWd_tX hp9.2.2.1)⟩ | exact ⟨_, rfl, hRS, tC_tX hfS⟩)
  · refine kw_iload_n hC dX7_wall_7 rfl 2 rfl ?_
    refine kw_callS hC (d_X7_isSlot hD (by omega)) gX7_wall_X7_isSlot rfl ⟨rfl, rfl⟩ 1 (by decide +kernel) ⟨by decide, by decide⟩ rfl rfl (Nat.le_of_ble_eq_true rfl) dX7_wall_8 rfl (kd_ie ?_)
    refine kw_ifeq_b (tgt := 39) hC dX7_wall_11 rfl (by decide) ⟨fun c11 => ?_, fun c11 => ?_⟩
    · refine kw_ldc2 (z := -10000000000001) hC dX7_wall_39 rfl l196 ?_
      exact hR9.2.2.1 rfl _ _ _ _ dX7_wall_42 (by first | exact ⟨_, rfl, hp9.2.1, (tC_tX hfS).trans (fWd_tX hp9.2.2.1)⟩ | exact ⟨_, rfl, hRS, tC_tX hfS⟩)
    · refine kw_iload_n hC dX7_wall_14 rfl 3 rfl ?_
      refine kw_if_lt (tgt := 39) hC dX7_wall_15 rfl (by decide) (by omega) ⟨fun c15 => ?_, fun c15 => ?_⟩
      · refine kw_ldc2 (z := -10000000000001) hC dX7_wall_39 rfl l196 ?_
        exact hR9.2.2.1 rfl _ _ _ _ dX7_wall_42 (by first | exact ⟨_, rfl, hp9.2.1, (tC_tX hfS).trans (fWd_tX hp9.2.2.1)⟩ | exact ⟨_, rfl, hRS, tC_tX hfS⟩)
      · refine kw_aload_n hC dX7_wall_18 rfl 0 rfl ?_
        refine kg_0_0 hC w7 f12 dX7_wall_19 rfl (by decide) (by decide) ?_
        refine kw_iload hC dX7_wall_22 rfl 4 rfl ?_
        refine kw_callV hC (d_X3_has hD (by omega) (by omega) (by omega) (by omega) (by omega)) gX7_wall_X3_has ⟨_, rfl⟩ rfl (by omega) (show (16 : Int) < 17 by omega) rfl ⟨rfl, rfl⟩ 1 (by decide +kernel) ⟨by decide, by decide⟩ rfl rfl (Nat.le_of_ble_eq_true rfl) dX7_wall_24 rfl (kd_ie ?_)
        refine kw_ifeq_b (tgt := 39) hC dX7_wall_27 rfl (by decide) ⟨fun c27 => ?_, fun c27 => ?_⟩
        · refine kw_ldc2 (z := -10000000000001) hC dX7_wall_39 rfl l196 ?_
          exact hR9.2.2.1 rfl _ _ _ _ dX7_wall_42 (by first | exact ⟨_, rfl, hp9.2.1, (tC_tX hfS).trans (fWd_tX hp9.2.2.1)⟩ | exact ⟨_, rfl, hRS, tC_tX hfS⟩)
        · refine kw_aload_n hC dX7_wall_30 rfl 0 rfl ?_
          refine kw_iload_n hC dX7_wall_31 rfl 1 rfl ?_
          refine kw_iload_n hC dX7_wall_32 rfl 2 rfl ?_
          refine kw_callV hC (d_X7_joinWay hD (by omega) (by omega) (by omega) (by omega) hRS) gX7_wall_X7_joinWay ⟨_, rfl⟩ rfl (by decide) (by decide) rfl ⟨rfl, rfl⟩ 2 (by decide +kernel) ⟨by decide, by decide⟩ rfl rfl (Nat.le_of_ble_eq_true rfl) dX7_wall_33 rfl (kd_i (fun r5 S5 hp5 => ?_))
          obtain ⟨hg5, hp5⟩ := hp5
          have hfS5 : Fr tC S S5 := hfS.trans (hg5.mono (fun k i j h => by unfold fWd at h; unfold tC; omega))
          have hRS5 := hRS.fr hfS5
          have hnS5 := hRS5.n
          have enS5 : S5 3 16 2 = S 3 16 2 := hfS5 3 16 2 (by unfold tC; omega)
          obtain ⟨hbJ, hqJ⟩ := hp5
          refine kw_if_ne (tgt := 43) hC dX7_wall_36 rfl (by decide) (by omega) ⟨fun c36 => ?_, fun c36 => ?_⟩
          · obtain ⟨⟨lJ0, lJ1⟩, hvJ⟩ := hqJ (by omega)
            replace hvJ : WV (S5 2 10) (S5 1 10 1) (S5 3 16 2) := hvJ.eq (fun _ _ _ => rfl) rfl (by omega)
            have hla := hRS.ln a (by omega) (by omega)
            have hwa := hRS.wv a (by omega) (by omega)
            refine kw_aload_n hC dX7_wall_43 rfl 0 rfl ?_
            refine kg_0_4 hC w7 f40 dX7_wall_44 rfl (by decide) (by decide) ?_
            refine kw_aload_n hC dX7_wall_47 rfl 0 rfl ?_
            refine kg_0_9 hC w7 f66 dX7_wall_48 rfl (by decide) (by decide) ?_
            refine kw_aload_n hC dX7_wall_51 rfl 0 rfl ?_
            refine kg_0_7 hC w7 f59 dX7_wall_52 rfl (by decide) (by decide) ?_
            refine kw_callV hC (d_X5_makeForm hD (by omega) (by omega) (by omega) (by omega) hRS5 hvJ (by omega) (by omega)) gX7_wall_X5_makeForm ⟨_, rfl⟩ rfl (by decide) (by decide) rfl ⟨rfl, rfl⟩ 2 (by decide +kernel) ⟨by decide, by decide⟩ rfl rfl (Nat.le_of_ble_eq_true rfl) dX7_wall_55 rfl (kd_i (fun r7 S7 hp7 => ?_))
            obtain ⟨hg7, hp7⟩ := hp7
            have hfS7 : Fr tC S S7 := hfS5.trans (hg7.mono (fun k i j h => by unfold fMd at h; unfold tC; omega))
            have hRS7 := hRS.fr hfS7
            have hnS7 := hRS7.n
            have enS7 : S7 3 16 2 = S 3 16 2 := hfS7 3 16 2 (by unfold tC; omega)
            obtain ⟨hb7, hq7⟩ := hp7
            have hqX := hq7
            refine kw_if_ne (tgt := 65) hC dX7_wall_58 rfl (by decide) (by omega) ⟨fun c58 => ?_, fun c58 => ?_⟩
            · obtain ⟨⟨lX0, lX1⟩, hqW⟩ := hqX (by omega)
              have hv8 : WV (S7 2 8) (S7 1 8 1) (S7 3 16 2) := hqW.eq (fun _ _ _ => rfl) rfl (by omega)
              refine kw_iload_n hC dX7_wall_65 rfl 3 rfl ?_
              refine kw_aload_n hC dX7_wall_66 rfl 0 rfl ?_
              refine kg_0_7 hC w7 f59 dX7_wall_67 rfl (by decide) (by decide) ?_
              refine kg_1_1 hC w6 f131 dX7_wall_70 rfl (by omega) (by omega) ?_
              refine kw_icmp_lt (tgt := 80) hC dX7_wall_73 rfl (by decide) (by omega) (by omega) ⟨fun c73 => ?_, fun c73 => ?_⟩
              · refine kw_aload_n hC dX7_wall_80 rfl 0 rfl ?_
                refine kg_0_10 hC w7 f69 dX7_wall_81 rfl (by decide) (by decide) ?_
                refine kw_aload_n hC dX7_wall_84 rfl 0 rfl ?_
                refine kg_0_7 hC w7 f59 dX7_wall_85 rfl (by decide) (by decide) ?_
                refine kg_1_0 hC w6 f157 dX7_wall_88 rfl (by omega) (by omega) ?_
                refine kw_iload_n hC dX7_wall_91 rfl 3 rfl ?_
                refine ka_2 hC dX7_wall_92 rfl (by omega) (by omega) (by omega) (by omega) ?_
                have hlx := hv8 c (by omega) (by omega)
                refine kw_callS hC (d_X7_setOwn hD (c := 22) (w := 0) (fun _ => rfl) (by decide) (by decide) (by omega) (by omega)) gX7_wall_X7_setOwn rfl ⟨rfl, rfl⟩ 2 (by decide +kernel) ⟨by decide, by decide⟩ rfl rfl (Nat.le_of_ble_eq_true rfl) dX7_wall_93 rfl (kd_v (fun S10 hp10 => ?_))
                obtain ⟨hg10, hp10⟩ := hp10
                have hfS10 : Fr tC S S10 := hfS7.trans (hg10.mono (fun k i j h => by unfold fCl at h; unfold tC; omega))
                have hRS10 := hRS.fr hfS10
                have hnS10 := hRS10.n
                have enS10 : S10 3 16 2 = S 3 16 2 := hfS10 3 16 2 (by unfold tC; omega)
                replace hv8 : WV (S10 2 8) (S10 1 8 1) (S10 3 16 2) := hv8.fr hg10 (by unfold fCl; omega) (fun j => by unfold fCl; omega) (by omega)
                have e810 : S10 1 8 1 = S7 1 8 1 := hg10 1 8 1 (by unfold fCl; omega)
                have hvc : WV (S10 2 8) c (S10 3 16 2) := fun j j0 j1 => hv8 j j0 (by omega)
                refine kw_aload_n hC dX7_wall_96 rfl 0 rfl ?_
                refine kg_0_0 hC w7 f12 dX7_wall_97 rfl (by decide) (by decide) ?_
                refine kw_aload_n hC dX7_wall_100 rfl 0 rfl ?_
                refine kg_0_7 hC w7 f59 dX7_wall_101 rfl (by decide) (by decide) ?_
                refine kw_iload_n hC dX7_wall_104 rfl 3 rfl ?_
                refine kw_aload_n hC dX7_wall_105 rfl 0 rfl ?_
                refine kg_0_10 hC w7 f69 dX7_wall_106 rfl (by decide) (by decide) ?_
                refine kw_callV hC (d_X3_turnBy hD (c := 22) (w := 0) (fun _ => rfl) (by decide) (by decide) (by decide) (fun j => by unfold tC; omega) (by omega) (by omega) (by omega) (by omega) hRS10 hvc) gX7_wall_X3_turnBy ⟨_, rfl⟩ rfl (by omega) (show (16 : Int) < 17 by omega) rfl ⟨rfl, rfl⟩ 3 (by decide +kernel) ⟨by decide, by decide⟩ rfl rfl (Nat.le_of_ble_eq_true rfl) dX7_wall_109 rfl (kd_i (fun r11 S11 hp11 => ?_))
                obtain ⟨hg11, hp11⟩ := hp11
                have hfS11 : Fr tC S S11 := hfS10.trans (hg11.mono (fun k i j h => by unfold fCl at h; unfold tC; omega))
                have hRS11 := hRS.fr hfS11
                have hnS11 := hRS11.n
                have enS11 : S11 3 16 2 = S 3 16 2 := hfS11 3 16 2 (by unfold tC; omega)
                obtain ⟨-, hb11⟩ := (⟨trivial, hp11⟩ : True ∧ _)
                refine kw_if_eq (tgt := 144) hC dX7_wall_112 rfl (by decide) (by omega) ⟨fun c112 => ?_, fun c112 => ?_⟩
                · refine kw_ldc2 (z := -10000000000004) hC dX7_wall_144 rfl l206 ?_
                  exact hR9.2.2.1 rfl _ _ _ _ dX7_wall_147 (by first | exact ⟨_, rfl, hp9.2.1, (tC_tX hfS11).trans (fWd_tX hp9.2.2.1)⟩ | exact ⟨_, rfl, hRS11, tC_tX hfS11⟩)
                · refine kw_aload_n hC dX7_wall_115 rfl 0 rfl ?_
                  refine kg_0_0 hC w7 f12 dX7_wall_116 rfl (by decide) (by decide) ?_
                  refine kw_aload_n hC dX7_wall_119 rfl 0 rfl ?_
                  refine kg_0_2 hC w7 f25 dX7_wall_120 rfl (by decide) (by decide) ?_
                  refine kw_iload_n hC dX7_wall_123 rfl 1 rfl ?_
                  refine ka_20 hC dX7_wall_124 rfl (by decide) (by decide) (by omega) (by omega) ?_
                  refine kw_aload_n hC dX7_wall_125 rfl 0 rfl ?_
                  refine kg_0_2 hC w7 f25 dX7_wall_126 rfl (by decide) (by decide) ?_
                  refine kw_iload_n hC dX7_wall_129 rfl 1 rfl ?_
                  refine ka_20 hC dX7_wall_130 rfl (by decide) (by decide) (by omega) (by omega) ?_
                  refine kg_1_1 hC w6 f131 dX7_wall_131 rfl (by omega) (by omega) ?_
                  refine kw_chi (z' := S 1 a 1) (hfS11 1 a 1 (by unfold tC; omega)) ?_
                  have hws : WV (S11 2 a) (S 1 a 1) (S11 3 16 2) := hwa.eq (fun j _ _ => hfS11 2 a j (by unfold tC; omega)) rfl (by omega)
                  refine kw_aload_n hC dX7_wall_134 rfl 0 rfl ?_
                  refine kg_0_10 hC w7 f69 dX7_wall_135 rfl (by decide) (by decide) ?_
                  refine kw_callV hC (d_X3_turnBy hD (c := 22) (w := 0) (fun _ => rfl) (by decide) (by decide) (by decide) (fun j => by unfold tC; omega) (by omega) (by omega) (by omega) (by omega) hRS11 hws) gX7_wall_X3_turnBy ⟨_, rfl⟩ rfl (by omega) (show (16 : Int) < 17 by omega) rfl ⟨rfl, rfl⟩ 3 (by decide +kernel) ⟨by decide, by decide⟩ rfl rfl (Nat.le_of_ble_eq_true rfl) dX7_wall_138 rfl (kd_i (fun r13 S13 hp13 => ?_))
                  obtain ⟨hg13, hp13⟩ := hp13
                  have hfS13 : Fr tC S S13 := hfS11.trans (hg13.mono (fun k i j h => by unfold fCl at h; unfold tC; omega))
                  have hRS13 := hRS.fr hfS13
                  have hnS13 := hRS13.n
                  have enS13 : S13 3 16 2 = S 3 16 2 := hfS13 3 16 2 (by unfold tC; omega)
                  obtain ⟨-, hb13⟩ := (⟨trivial, hp13⟩ : True ∧ _)
                  refine kw_if_ne (tgt := 148) hC dX7_wall_141 rfl (by decide) (by omega) ⟨fun c141 => ?_, fun c141 => ?_⟩
                  · refine kw_aload_n hC dX7_wall_148 rfl 0 rfl ?_
                    refine kg_0_10 hC w7 f69 dX7_wall_149 rfl (by decide) (by decide) ?_
                    refine kw_callS hC (d_X7_hasBelowZero hD (c := 22) (w := 0) (fun _ => rfl) (by decide) (by decide) ) gX7_wall_X7_hasBelowZero rfl ⟨rfl, rfl⟩ 1 (by decide +kernel) ⟨by decide, by decide⟩ rfl rfl (Nat.le_of_ble_eq_true rfl) dX7_wall_152 rfl (kd_ie ?_)
                    refine kw_ifeq_b (tgt := 169) hC dX7_wall_155 rfl (by decide) ⟨fun c155 => ?_, fun c155 => ?_⟩
                    · refine kw_aload_n hC dX7_wall_169 rfl 0 rfl ?_
                      refine kg_0_10 hC w7 f69 dX7_wall_170 rfl (by decide) (by decide) ?_
                      refine kw_iload hC dX7_wall_173 rfl 4 rfl ?_
                      refine ka_22 hC dX7_wall_175 rfl (by decide) (by decide) (by omega) (by omega) ?_
                      exact hR9.2.2.1 rfl _ _ _ _ dX7_wall_176 (by first | exact ⟨_, rfl, hp9.2.1, (tC_tX hfS13).trans (fWd_tX hp9.2.2.1)⟩ | exact ⟨_, rfl, hRS13, tC_tX hfS13⟩)
                    · refine kw_aload_n hC dX7_wall_158 rfl 0 rfl ?_
                      refine kg_0_10 hC w7 f69 dX7_wall_159 rfl (by decide) (by decide) ?_
                      refine kw_iload hC dX7_wall_162 rfl 4 rfl ?_
                      refine ka_22 hC dX7_wall_164 rfl (by decide) (by decide) (by omega) (by omega) ?_
                      refine kw_lneg hC dX7_wall_165 rfl ?_
                      refine kw_goto (tgt := 176) hC dX7_wall_166 rfl (by decide) ?_
                      exact hR9.2.2.1 rfl _ _ _ _ dX7_wall_176 (by first | exact ⟨_, rfl, hp9.2.1, (tC_tX hfS13).trans (fWd_tX hp9.2.2.1)⟩ | exact ⟨_, rfl, hRS13, tC_tX hfS13⟩)
                  · refine kw_ldc2 (z := -10000000000004) hC dX7_wall_144 rfl l206 ?_
                    exact hR9.2.2.1 rfl _ _ _ _ dX7_wall_147 (by first | exact ⟨_, rfl, hp9.2.1, (tC_tX hfS13).trans (fWd_tX hp9.2.2.1)⟩ | exact ⟨_, rfl, hRS13, tC_tX hfS13⟩)
              · refine kw_ldc2 (z := -10000000000001) hC dX7_wall_76 rfl l196 ?_
                exact hR9.2.2.1 rfl _ _ _ _ dX7_wall_79 (by first | exact ⟨_, rfl, hp9.2.1, (tC_tX hfS7).trans (fWd_tX hp9.2.2.1)⟩ | exact ⟨_, rfl, hRS7, tC_tX hfS7⟩)
            · refine kw_ldc2 (z := -10000000000004) hC dX7_wall_61 rfl l206 ?_
              exact hR9.2.2.1 rfl _ _ _ _ dX7_wall_64 (by first | exact ⟨_, rfl, hp9.2.1, (tC_tX hfS7).trans (fWd_tX hp9.2.2.1)⟩ | exact ⟨_, rfl, hRS7, tC_tX hfS7⟩)
          · refine kw_ldc2 (z := -10000000000001) hC dX7_wall_39 rfl l196 ?_
            exact hR9.2.2.1 rfl _ _ _ _ dX7_wall_42 (by first | exact ⟨_, rfl, hp9.2.1, (tC_tX hfS5).trans (fWd_tX hp9.2.2.1)⟩ | exact ⟨_, rfl, hRS5, tC_tX hfS5⟩)
