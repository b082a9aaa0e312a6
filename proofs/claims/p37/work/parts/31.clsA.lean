def fCl (c : Nat) (w : Int) (k : Nat) (i j : Int) : Prop := k = c ∧ i = w

def fWd (w : Int) (k : Nat) (i j : Int) : Prop := (k = 1 ∨ k = 2) ∧ i = w

def fA (k : Nat) (i j : Int) : Prop := k = 11

set_option maxHeartbeats 4000000 in
set_option maxRecDepth 100000 in
theorem d_J7_fill {g : wG} (hD : wD g) {S : wSt} {c n : Nat} {w v : Int} (hL : ∀ r, cx g c w r = ka_l g n r) (hn : n < 2147483648) (h0 : 0 ≤ w) (h1 : w < cn c) (l : Launch) : Kt l yJ7_fill_d0a16 wsJ7_fill_d0a16 ({ frames := 0, cells := 0, slots := 0, locals := 0 } : Room) g S [vr g c w, vl v] (pV (fun S' => Fr (fCl c w) S S' ∧ ∀ j, 0 ≤ j → j < (n : Int) → S' c w j = v)) := by
  refine Kt.of (cc := cJ7_fill_d0a16) (nL := 5) (ret := none) (own := RJ7) rfl hD (by decide) rfl (Nat.le_of_ble_eq_true rfl) ⟨rfl, rfl⟩ ?_
  intro E hC hR9
  show Wk E g 5 S 0 [(0, vr g c w), (1, vl v)] []
  have hfS : Fr (fCl c w) S S := Fr.rfl _ S
  refine kw_iconst hC dJ7_fill_d0a16_0 rfl ?_
  refine kw_istore_n (lv' := [(3, _), (0, _), (1, _)]) hC dJ7_fill_d0a16_1 rfl (by decide) rfl ?_
  refine kw_aload_n hC dJ7_fill_d0a16_2 rfl 1 rfl ?_
  refine kw_alenL (n := n) hC (hL _) h0 h1 dJ7_fill_d0a16_3 rfl ?_
  refine kw_istore (lv' := [(4, _), (3, _), (0, _), (1, _)]) hC dJ7_fill_d0a16_4 rfl (by decide) rfl ?_
  have hL6 : ∀ (n6 : Nat) (x : Int) (W6 : wSt), Fr (fCl c w) S W6 → (0 ≤ x) → (x ≤ (n : Int)) → (∀ j, 0 ≤ j → j < x → W6 c w j = v) → (n : Int) - x < (n6 : Int) → Wk E g 5 W6 6 [(0, vr g c w), (1, vl v), (3, vi x), (4, vi (n : Int))] [] := by
    intro n6
    induction n6 with
    | zero => intro x W6 hfW6 x0 x1 h3 hm6; exact absurd hm6 (by omega)
    | succ n6 ih6 =>
      intro x W6 hfW6 x0 x1 h3 hm6
      refine kw_iload_n hC dJ7_fill_d0a16_6 rfl 2 rfl ?_
      refine kw_iload hC dJ7_fill_d0a16_7 rfl 3 rfl ?_
      refine kw_icmp_ge (tgt := 22) hC dJ7_fill_d0a16_9 rfl (by decide) (by omega) (by omega) ⟨fun c9 => ?_, fun c9 => ?_⟩
      · exact hR9.2.2.2 rfl _ _ _ dJ7_fill_d0a16_22 ⟨rfl, hfW6, fun j j0 j1 => h3 j j0 (by omega)⟩
      · refine kw_aload_n hC dJ7_fill_d0a16_12 rfl 0 rfl ?_
        refine kw_iload_n hC dJ7_fill_d0a16_13 rfl 2 rfl ?_
        refine kw_lload_n hC dJ7_fill_d0a16_14 rfl 1 rfl ?_
        refine kw_last (n := n) hC hL hn h0 h1 (by omega) (by omega) dJ7_fill_d0a16_15 rfl ?_
        refine kw_hv hfW6 (by unfold fCl; omega) (fun S2 hfS2 hv2 ho2 => ?_)
        refine kw_iinc (lv' := [(3, _), (0, _), (1, _), (4, _)]) hC dJ7_fill_d0a16_16 rfl 2 rfl (by decide) rfl ?_
        refine kw_goto (tgt := 6) hC dJ7_fill_d0a16_19 rfl (by decide) ?_
        refine kw_lv [1, 2, 0, 3] rfl ?_
        exact ih6 (x + 1) S2 hfS2 (by omega) (by omega) (ext_p (fun _ z => z = v) h3 (fun j hj => ho2 c w j (by omega)) hv2) (by omega)
  refine kw_lv [2, 3, 1, 0] rfl ?_
  exact hL6 (n + 1) 0 S hfS (by omega) (by omega) (fun j _ _ => by omega) (by omega)

set_option maxHeartbeats 4000000 in
set_option maxRecDepth 100000 in
theorem d_X7_setOwn {g : wG} (hD : wD g) {S : wSt} {c : Nat} {w : Int} (hL : ∀ r, cx g c w r = ka_l g 6 r) (h0 : 0 ≤ w) (h1 : w < cn c) {a : Int} (a0 : 0 ≤ a) (a1 : a < 6) (l : Launch) : Kt l yX7_setOwn wsX7_setOwn ({ frames := 1, cells := 0, slots := 0, locals := 24 } : Room) g S [vr g c w, vi a] (pV (fun S' => Fr (fCl c w) S S' ∧ ∀ j, 0 ≤ j → j < 6 → S' c w j = if j = a then 1 else 0)) := by
  refine Kt.of (cc := cX7_setOwn) (nL := 2) (ret := none) (own := RX7) rfl hD (by decide) rfl (Nat.le_of_ble_eq_true rfl) ⟨rfl, rfl⟩ ?_
  intro E hC hR9
  show Wk E g 2 S 0 [(0, vr g c w), (1, vi a)] []
  have hfS : Fr (fCl c w) S S := Fr.rfl _ S
  refine kw_aload_n hC dX7_setOwn_0 rfl 0 rfl ?_
  refine kw_lconst (z := 0) hC dX7_setOwn_1 rfl rfl ?_
  refine kw_callS hC (d_J7_fill hD (n := 6) hL (by decide) h0 h1) gX7_setOwn_J7_fill_d0a16 rfl ⟨rfl, rfl⟩ 2 (by decide +kernel) ⟨by decide, by decide⟩ rfl rfl (Nat.le_of_ble_eq_true rfl) dX7_setOwn_2 rfl (kd_v (fun S1 hp1 => ?_))
  obtain ⟨hg1, hp1⟩ := hp1
  have hfS1 : Fr (fCl c w) S S1 := hfS.trans (hg1.mono (fun k i j h => by unfold fCl at h; unfold fCl; omega))
  have hz := hp1
  refine kw_aload_n hC dX7_setOwn_5 rfl 0 rfl ?_
  refine kw_iload_n hC dX7_setOwn_6 rfl 1 rfl ?_
  refine kw_lconst (z := 1) hC dX7_setOwn_7 rfl rfl ?_
  refine kw_last (n := 6) hC hL (by decide) h0 h1 (by omega) (by omega) dX7_setOwn_8 rfl ?_
  refine kw_hv hfS1 (by unfold fCl; omega) (fun S2 hfS2 hv2 ho2 => ?_)
  exact hR9.2.2.2 rfl _ _ _ dX7_setOwn_9 ⟨rfl, hfS2, fun j j0 j1 => by rcases Decidable.em (j = a) with e | e; exact (by rw [e, if_pos rfl]; exact hv2); exact (by rw [if_neg e, ho2 c w j (by omega)]; exact hz j j0 j1)⟩

set_option maxHeartbeats 4000000 in
set_option maxRecDepth 100000 in
theorem d_X7_isOwn {g : wG} (hD : wD g) {S : wSt} {c : Nat} {w : Int} (hL : ∀ r, cx g c w r = ka_l g 6 r) (h0 : 0 ≤ w) (h1 : w < cn c) {a : Int} (a0 : 0 ≤ a) (a1 : a < 6) (l : Launch) : Kt l yX7_isOwn wsX7_isOwn ({ frames := 0, cells := 0, slots := 0, locals := 0 } : Room) g S [vr g c w, vi a] (pI (fun r S' => r = bz (∀ j, 0 ≤ j → j < 6 → nl (S c w j) = if j = a then 1 else 0) ∧ S' = S)) := by
  refine Kt.of (cc := cX7_isOwn) (nL := 3) (ret := (some .boolean)) (own := RX7) rfl hD (by decide) rfl (Nat.le_of_ble_eq_true rfl) ⟨rfl, rfl⟩ ?_
  intro E hC hR9
  show Wk E g 3 S 0 [(0, vr g c w), (1, vi a)] []
  refine kw_aload_n hC dX7_isOwn_0 rfl 0 rfl ?_
  refine kw_iload_n hC dX7_isOwn_1 rfl 1 rfl ?_
  refine kw_lald (n := 6) hC (hL _) (by decide) h0 h1 (by omega) (by omega) dX7_isOwn_2 rfl ?_
  refine kw_nrl ?_
  refine kw_lconst (z := 1) hC dX7_isOwn_3 rfl rfl ?_
  refine kw_lcmp hC dX7_isOwn_4 rfl (nl_r _) (by omega) ?_
  refine kw_if_eq (tgt := 10) hC dX7_isOwn_5 rfl (by decide) (cz_r _ _) ⟨fun c5 => ?_, fun c5 => ?_⟩
  · replace c5 := (cz_eq _ _).mp c5
    refine kw_iconst hC dX7_isOwn_10 rfl ?_
    refine kw_istore_n (lv' := [(2, _), (0, _), (1, _)]) hC dX7_isOwn_11 rfl (by decide) rfl ?_
    have hL12 : ∀ (n12 : Nat) (x : Int), (0 ≤ x) → (x ≤ 6) → (∀ j, 0 ≤ j → j < x → nl (S c w j) = if j = a then 1 else 0) → 6 - x < (n12 : Int) → Wk E g 3 S 12 [(0, vr g c w), (1, vi a), (2, vi x)] [] := by
      intro n12
      induction n12 with
      | zero => intro x x0 x1 h3 hm12; exact absurd hm12 (by omega)
      | succ n12 ih12 =>
        intro x x0 x1 h3 hm12
        refine kw_iload_n hC dX7_isOwn_12 rfl 2 rfl ?_
        refine kw_aload_n hC dX7_isOwn_13 rfl 0 rfl ?_
        refine kw_alenL (n := 6) hC (hL _) h0 h1 dX7_isOwn_14 rfl ?_
        refine kw_icmp_ge (tgt := 39) hC dX7_isOwn_15 rfl (by decide) (by omega) (by omega) ⟨fun c15 => ?_, fun c15 => ?_⟩
        · refine kw_iconst hC dX7_isOwn_39 rfl ?_
          exact hR9.2.1 rfl _ _ _ _ dX7_isOwn_40 (by omega) ⟨_, rfl, (bz_t (fun j j0 j1 => h3 j j0 (by omega))).symm, rfl⟩
        · refine kw_iload_n hC dX7_isOwn_18 rfl 2 rfl ?_
          refine kw_iload_n hC dX7_isOwn_19 rfl 1 rfl ?_
          refine kw_icmp_eq (tgt := 33) hC dX7_isOwn_20 rfl (by decide) (by omega) (by omega) ⟨fun c20 => ?_, fun c20 => ?_⟩
          · refine kw_iinc (lv' := [(2, _), (0, _), (1, _)]) hC dX7_isOwn_33 rfl 2 rfl (by decide) rfl ?_
            refine kw_goto (tgt := 12) hC dX7_isOwn_36 rfl (by decide) ?_
            refine kw_lv [1, 2, 0] rfl ?_
            exact ih12 (x + 1) (by omega) (by omega) (fun j j0 j1 => by rcases Decidable.em (j = x) with e | e; exact (by rw [e]; split; exact (by rename_i q; rw [q]; exact c5); exact (by first | exact c28 | omega)); exact h3 j j0 (by omega)) (by omega)
          · refine kw_aload_n hC dX7_isOwn_23 rfl 0 rfl ?_
            refine kw_iload_n hC dX7_isOwn_24 rfl 2 rfl ?_
            refine kw_lald (n := 6) hC (hL _) (by decide) h0 h1 (by omega) (by omega) dX7_isOwn_25 rfl ?_
            refine kw_nrl ?_
            refine kw_lconst (z := 0) hC dX7_isOwn_26 rfl rfl ?_
            refine kw_lcmp hC dX7_isOwn_27 rfl (nl_r _) (by omega) ?_
            refine kw_if_eq (tgt := 33) hC dX7_isOwn_28 rfl (by decide) (cz_r _ _) ⟨fun c28 => ?_, fun c28 => ?_⟩
            · replace c28 := (cz_eq _ _).mp c28
              refine kw_iinc (lv' := [(2, _), (0, _), (1, _)]) hC dX7_isOwn_33 rfl 2 rfl (by decide) rfl ?_
              refine kw_goto (tgt := 12) hC dX7_isOwn_36 rfl (by decide) ?_
              refine kw_lv [1, 2, 0] rfl ?_
              exact ih12 (x + 1) (by omega) (by omega) (fun j j0 j1 => by rcases Decidable.em (j = x) with e | e; exact (by rw [e]; split; exact (by rename_i q; rw [q]; exact c5); exact (by first | exact c28 | omega)); exact h3 j j0 (by omega)) (by omega)
            · replace c28 := (not_congr (cz_eq _ _)).mp c28
              refine kw_iconst hC dX7_isOwn_31 rfl ?_
              exact hR9.2.1 rfl _ _ _ _ dX7_isOwn_32 (by omega) ⟨_, rfl, (bz_f (fun q => c28 (by have := q x x0 (by omega); rw [if_neg c20] at this; exact this))).symm, rfl⟩
    refine kw_lv [1, 2, 0] rfl ?_
    exact hL12 7 0 (by omega) (by omega) (fun j _ _ => by omega) (by omega)
  · replace c5 := (not_congr (cz_eq _ _)).mp c5
    refine kw_iconst hC dX7_isOwn_8 rfl ?_
    exact hR9.2.1 rfl _ _ _ _ dX7_isOwn_9 (by omega) ⟨_, rfl, (bz_f (fun q => c5 (by have := q a a0 a1; rw [if_pos rfl] at this; exact this))).symm, rfl⟩

set_option maxHeartbeats 4000000 in
set_option maxRecDepth 100000 in
theorem d_X7_hasBelowZero {g : wG} (hD : wD g) {S : wSt} {c : Nat} {w : Int} (hL : ∀ r, cx g c w r = ka_l g 6 r) (h0 : 0 ≤ w) (h1 : w < cn c) (l : Launch) : Kt l yX7_hasBelowZero wsX7_hasBelowZero ({ frames := 0, cells := 0, slots := 0, locals := 0 } : Room) g S [vr g c w] (pI (fun r S' => r = bz (∃ j, 0 ≤ j ∧ j < 6 ∧ nl (S c w j) < 0) ∧ S' = S)) := by
  refine Kt.of (cc := cX7_hasBelowZero) (nL := 2) (ret := (some .boolean)) (own := RX7) rfl hD (by decide) rfl (Nat.le_of_ble_eq_true rfl) ⟨rfl, rfl⟩ ?_
  intro E hC hR9
  show Wk E g 2 S 0 [(0, vr g c w)] []
  refine kw_iconst hC dX7_hasBelowZero_0 rfl ?_
  refine kw_istore_n (lv' := [(1, _), (0, _)]) hC dX7_hasBelowZero_1 rfl (by decide) rfl ?_
  have hL2 : ∀ (n2 : Nat) (x : Int), (0 ≤ x) → (x ≤ 6) → (∀ j, 0 ≤ j → j < x → 0 ≤ nl (S c w j)) → 6 - x < (n2 : Int) → Wk E g 2 S 2 [(0, vr g c w), (1, vi x)] [] := by
    intro n2
    induction n2 with
    | zero => intro x x0 x1 h3 hm2; exact absurd hm2 (by omega)
    | succ n2 ih2 =>
      intro x x0 x1 h3 hm2
      refine kw_iload_n hC dX7_hasBelowZero_2 rfl 1 rfl ?_
      refine kw_aload_n hC dX7_hasBelowZero_3 rfl 0 rfl ?_
      refine kw_alenL (n := 6) hC (hL _) h0 h1 dX7_hasBelowZero_4 rfl ?_
      refine kw_icmp_ge (tgt := 24) hC dX7_hasBelowZero_5 rfl (by decide) (by omega) (by omega) ⟨fun c5 => ?_, fun c5 => ?_⟩
      · refine kw_iconst hC dX7_hasBelowZero_24 rfl ?_
        exact hR9.2.1 rfl _ _ _ _ dX7_hasBelowZero_25 (by omega) ⟨_, rfl, (bz_f (fun q => by obtain ⟨j, j0, j1, hj⟩ := q; have := h3 j j0 (by omega); omega)).symm, rfl⟩
      · refine kw_aload_n hC dX7_hasBelowZero_8 rfl 0 rfl ?_
        refine kw_iload_n hC dX7_hasBelowZero_9 rfl 1 rfl ?_
        refine kw_lald (n := 6) hC (hL _) (by decide) h0 h1 (by omega) (by omega) dX7_hasBelowZero_10 rfl ?_
        refine kw_nrl ?_
        refine kw_lconst (z := 0) hC dX7_hasBelowZero_11 rfl rfl ?_
        refine kw_lcmp hC dX7_hasBelowZero_12 rfl (nl_r _) (by omega) ?_
        refine kw_if_ge (tgt := 18) hC dX7_hasBelowZero_13 rfl (by decide) (cz_r _ _) ⟨fun c13 => ?_, fun c13 => ?_⟩
        · replace c13 := (cz_ge _ _).mp c13
          refine kw_iinc (lv' := [(1, _), (0, _)]) hC dX7_hasBelowZero_18 rfl 1 rfl (by decide) rfl ?_
          refine kw_goto (tgt := 2) hC dX7_hasBelowZero_21 rfl (by decide) ?_
          refine kw_lv [1, 0] rfl ?_
          exact ih2 (x + 1) (by omega) (by omega) (ext_p (fun _ z => 0 ≤ z) (f := fun j => nl (S c w j)) (f' := fun j => nl (S c w j)) h3 (fun _ _ => rfl) (by omega)) (by omega)
        · replace c13 := (not_congr (cz_ge _ _)).mp c13
          refine kw_iconst hC dX7_hasBelowZero_16 rfl ?_
          exact hR9.2.1 rfl _ _ _ _ dX7_hasBelowZero_17 (by omega) ⟨_, rfl, (bz_t ⟨x, x0, by omega, by omega⟩).symm, rfl⟩
  refine kw_lv [1, 0] rfl ?_
  exact hL2 7 0 (by omega) (by omega) (fun j _ _ => by omega) (by omega)

set_option maxHeartbeats 4000000 in
set_option maxRecDepth 100000 in
theorem d_X3_turnedNumber {g : wG} (hD : wD g) {S : wSt} {c : Nat} {w : Int} (hL : ∀ r, cx g c w r = ka_l g 6 r) (h0 : 0 ≤ w) (h1 : w < cn c) {a : Int} (a0 : 0 ≤ a) (a1 : a < 6) (hRS : CI S) (l : Launch) : Kt l yX3_turnedNumber wsX3_turnedNumber ({ frames := 0, cells := 0, slots := 0, locals := 0 } : Room) g S [vr g 3 16, vr g c w, vi a] (pL (fun r S' => r = tvc (S 5 16) (S c w) a (S 3 16 2) ∧ S' = S)) := by
  refine Kt.of (cc := cX3_turnedNumber) (nL := 6) (ret := (some .long)) (own := RX3) rfl hD (by decide) rfl (Nat.le_of_ble_eq_true rfl) ⟨rfl, rfl⟩ ?_
  intro E hC hR9
  have f15 : Cond.fieldLink RX3 15 "MirrorBench$Mirrors" "numbers" "[I" ∈ wsX3_turnedNumber := by decide +kernel
  have f18 : Cond.fieldLink RX3 18 "MirrorBench$Mirrors" "size" "I" ∈ wsX3_turnedNumber := by decide +kernel
  have w3 : ∀ w ∈ wsX30, w ∈ wsX3_turnedNumber := by decide +kernel
  show Wk E g 6 S 0 [(0, vr g 3 16), (1, vr g c w), (2, vi a)] []
  have hn := hRS.n
  refine kw_aload_n hC dX3_turnedNumber_0 rfl 1 rfl ?_
  refine kw_iload_n hC dX3_turnedNumber_1 rfl 2 rfl ?_
  refine kw_lald (n := 6) hC (hL _) (by decide) h0 h1 (by omega) (by omega) dX3_turnedNumber_2 rfl ?_
  refine kw_lneg hC dX3_turnedNumber_3 rfl ?_
  refine kw_chl (z' := tvc (S 5 16) (S c w) a 0) (tvc_0 _ _ _).symm ?_
  refine kw_lstore_n (lv' := [(3, _), (0, _), (1, _), (2, _)]) hC dX3_turnedNumber_4 rfl (by decide) rfl ?_
  refine kw_iconst hC dX3_turnedNumber_5 rfl ?_
  refine kw_istore (lv' := [(5, _), (3, _), (0, _), (1, _), (2, _)]) hC dX3_turnedNumber_6 rfl (by decide) rfl ?_
  have hL8 : ∀ (n8 : Nat) (x : Int), (0 ≤ x) → (x ≤ S 3 16 2) → S 3 16 2 - x < (n8 : Int) → Wk E g 6 S 8 [(0, vr g 3 16), (1, vr g c w), (2, vi a), (3, vl (tvc (S 5 16) (S c w) a x)), (5, vi x)] [] := by
    intro n8
    induction n8 with
    | zero => intro x x0 x1 hm8; exact absurd hm8 (by omega)
    | succ n8 ih8 =>
      intro x x0 x1 hm8
      refine kw_iload hC dX3_turnedNumber_8 rfl 4 rfl ?_
      refine kw_aload_n hC dX3_turnedNumber_10 rfl 0 rfl ?_
      refine kg_3_2 hC w3 f18 dX3_turnedNumber_11 rfl (by omega) (by omega) ?_
      refine kw_icmp_ge (tgt := 44) hC dX3_turnedNumber_14 rfl (by decide) (by omega) (by omega) ⟨fun c14 => ?_, fun c14 => ?_⟩
      · refine kw_lload_n hC dX3_turnedNumber_44 rfl 3 rfl ?_
        exact hR9.2.2.1 rfl _ _ _ _ dX3_turnedNumber_45 ⟨_, rfl, by rw [show x = S 3 16 2 by omega], rfl⟩
      · refine kw_lload_n hC dX3_turnedNumber_17 rfl 3 rfl ?_
        refine kw_aload_n hC dX3_turnedNumber_18 rfl 0 rfl ?_
        refine kg_3_1 hC w3 f15 dX3_turnedNumber_19 rfl (by omega) (by omega) ?_
        refine kw_iload_n hC dX3_turnedNumber_22 rfl 2 rfl ?_
        refine kw_bipush hC dX3_turnedNumber_23 rfl (by decide) ?_
        refine kw_imul hC dX3_turnedNumber_25 rfl ?_
        refine kw_iload hC dX3_turnedNumber_26 rfl 4 rfl ?_
        rw [Int.mul_comm a 6]
        refine kw_iadd hC dX3_turnedNumber_28 rfl ?_
        refine ka_5 hC dX3_turnedNumber_29 rfl (by omega) (by omega) (by omega) (by omega) ?_
        refine kw_i2l hC dX3_turnedNumber_30 rfl (by have := hRS.mt a x (by omega) (by omega) (by omega) (by omega); omega) ?_
        refine kw_aload_n hC dX3_turnedNumber_31 rfl 1 rfl ?_
        refine kw_iload hC dX3_turnedNumber_32 rfl 4 rfl ?_
        refine kw_lald (n := 6) hC (hL _) (by decide) h0 h1 (by omega) (by omega) dX3_turnedNumber_34 rfl ?_
        refine kw_lmul hC dX3_turnedNumber_35 rfl ?_
        refine kw_ladd hC dX3_turnedNumber_36 rfl ?_
        refine kw_chl (z' := tvc (S 5 16) (S c w) a (x + 1)) (tvc_s _ _ _ x0).symm ?_
        refine kw_lstore_n (lv' := [(3, _), (0, _), (1, _), (2, _), (5, _)]) hC dX3_turnedNumber_37 rfl (by decide) rfl ?_
        refine kw_iinc (lv' := [(5, _), (3, _), (0, _), (1, _), (2, _)]) hC dX3_turnedNumber_38 rfl 4 rfl (by decide) rfl ?_
        refine kw_goto (tgt := 8) hC dX3_turnedNumber_41 rfl (by decide) ?_
        refine kw_lv [2, 3, 4, 1, 0] rfl ?_
        exact ih8 (x + 1) (by omega) (by omega) (by omega)
  refine kw_lv [2, 3, 4, 1, 0] rfl ?_
  exact hL8 7 0 (by omega) (by omega) (by omega)

set_option maxHeartbeats 4000000 in
set_option maxRecDepth 100000 in
theorem d_X3_turn {g : wG} (hD : wD g) {S : wSt} {c : Nat} {w : Int} (hL : ∀ r, cx g c w r = ka_l g 6 r) (h0 : 0 ≤ w) (h1 : w < cn c) {a : Int} (a0 : 0 ≤ a) (a1 : a < 6) (hRS : CI S) (l : Launch) : Kt l yX3_turn wsX3_turn ({ frames := 1, cells := 0, slots := 0, locals := 25 } : Room) g S [vr g 3 16, vr g c w, vi a] (pI (fun r S' => Fr (fCl c w) S S' ∧ (r = bz (-1000000000000 ≤ nl (tvc (S 5 16) (S c w) a (S 3 16 2)) ∧ nl (tvc (S 5 16) (S c w) a (S 3 16 2)) ≤ 1000000000000) ∧ S' c w a = tvc (S 5 16) (S c w) a (S 3 16 2) ∧ ∀ j, j ≠ a → S' c w j = S c w j))) := by
  refine Kt.of (cc := cX3_turn) (nL := 5) (ret := (some .boolean)) (own := RX3) rfl hD (by decide) rfl (Nat.le_of_ble_eq_true rfl) ⟨rfl, rfl⟩ ?_
  intro E hC hR9
  have l40 : Cond.constantLong RX3 40 (Int64.ofInt (1000000000000)) ∈ wsX3_turn := by decide +kernel
  have l42 : Cond.constantLong RX3 42 (Int64.ofInt (-1000000000000)) ∈ wsX3_turn := by decide +kernel
  show Wk E g 5 S 0 [(0, vr g 3 16), (1, vr g c w), (2, vi a)] []
  have hfS : Fr (fCl c w) S S := Fr.rfl _ S
  refine kw_aload_n hC dX3_turn_0 rfl 0 rfl ?_
  refine kw_aload_n hC dX3_turn_1 rfl 1 rfl ?_
  refine kw_iload_n hC dX3_turn_2 rfl 2 rfl ?_
  refine kw_callV hC (d_X3_turnedNumber hD hL h0 h1 (by omega) (by omega) hRS) gX3_turn_X3_turnedNumber ⟨_, rfl⟩ rfl (by omega) (show (16 : Int) < 17 by omega) rfl ⟨rfl, rfl⟩ 2 (by decide +kernel) ⟨by decide, by decide⟩ rfl rfl (Nat.le_of_ble_eq_true rfl) dX3_turn_3 rfl (kd_le ?_)
  refine kw_lstore_n (lv' := [(3, _), (0, _), (1, _), (2, _)]) hC dX3_turn_6 rfl (by decide) rfl ?_
  refine kw_aload_n hC dX3_turn_7 rfl 2 rfl ?_
  refine kw_iload_n hC dX3_turn_8 rfl 3 rfl ?_
  refine kw_lload_n hC dX3_turn_9 rfl 0 rfl ?_
  refine kw_last (n := 6) hC hL (by decide) h0 h1 (by omega) (by omega) dX3_turn_10 rfl ?_
  refine kw_hv hfS (by unfold fCl; omega) (fun S1 hfS1 hv1 ho1 => ?_)
  have hvA := hv1
  have hoA := ho1
  refine kw_lload_n hC dX3_turn_11 rfl 0 rfl ?_
  refine kw_nrl ?_
  refine kw_ldc2 (z := 1000000000000) hC dX3_turn_12 rfl l40 ?_
  refine kw_lcmp hC dX3_turn_15 rfl (nl_r _) (by omega) ?_
  refine kw_if_gt (tgt := 31) hC dX3_turn_16 rfl (by decide) (cz_r _ _) ⟨fun c16 => ?_, fun c16 => ?_⟩
  · replace c16 := (cz_gt _ _).mp c16
    refine kw_iconst hC dX3_turn_31 rfl ?_
    exact hR9.2.1 rfl _ _ _ _ dX3_turn_32 (by omega) ⟨_, rfl, hfS1, by first | exact (bz_t (by omega)).symm | exact (bz_f (by omega)).symm, hvA, fun j hj => hoA c w j (by omega)⟩
  · replace c16 := (not_congr (cz_gt _ _)).mp c16
    refine kw_lload_n hC dX3_turn_19 rfl 0 rfl ?_
    refine kw_nrl ?_
    refine kw_ldc2 (z := -1000000000000) hC dX3_turn_20 rfl l42 ?_
    refine kw_lcmp hC dX3_turn_23 rfl (nl_r _) (by omega) ?_
    refine kw_if_lt (tgt := 31) hC dX3_turn_24 rfl (by decide) (cz_r _ _) ⟨fun c24 => ?_, fun c24 => ?_⟩
    · replace c24 := (cz_lt _ _).mp c24
      refine kw_iconst hC dX3_turn_31 rfl ?_
      exact hR9.2.1 rfl _ _ _ _ dX3_turn_32 (by omega) ⟨_, rfl, hfS1, by first | exact (bz_t (by omega)).symm | exact (bz_f (by omega)).symm, hvA, fun j hj => hoA c w j (by omega)⟩
    · replace c24 := (not_congr (cz_lt _ _)).mp c24
      refine kw_iconst hC dX3_turn_27 rfl ?_
      refine kw_goto (tgt := 32) hC dX3_turn_28 rfl (by decide) ?_
      exact hR9.2.1 rfl _ _ _ _ dX3_turn_32 (by omega) ⟨_, rfl, hfS1, by first | exact (bz_t (by omega)).symm | exact (bz_f (by omega)).symm, hvA, fun j hj => hoA c w j (by omega)⟩

set_option maxHeartbeats 4000000 in
set_option maxRecDepth 100000 in
theorem d_X3_turnBy {g : wG} (hD : wD g) {S : wSt} {c : Nat} {w : Int} (hL : ∀ r, cx g c w r = ka_l g 6 r) (h0 : 0 ≤ w) (h1 : w < cn c) {p m : Int} (hcT : c ≠ 1 ∧ c ≠ 2 ∧ c ≠ 3 ∧ c ≠ 4 ∧ c ≠ 5) (hcC : ∀ j, tC c w j) (p0 : 0 ≤ p) (p1 : p < 12) (m0 : 0 ≤ m) (m1 : m ≤ 100) (hRS : CI S) (hw : WV (S 2 p) m (S 3 16 2)) (l : Launch) : Kt l yX3_turnBy wsX3_turnBy ({ frames := 2, cells := 0, slots := 0, locals := 49 } : Room) g S [vr g 3 16, vr g 1 p, vi m, vr g c w] (pI (fun r S' => Fr (fCl c w) S S' ∧ (r = 0 ∨ r = 1))) := by
  refine Kt.of (cc := cX3_turnBy) (nL := 5) (ret := (some .boolean)) (own := RX3) rfl hD (by decide) rfl (Nat.le_of_ble_eq_true rfl) ⟨rfl, rfl⟩ ?_
  intro E hC hR9
  have f44 : Cond.fieldLink RX3 44 "MirrorBench$Word" "mirrors" "[I" ∈ wsX3_turnBy := by decide +kernel
  have w6 : ∀ w ∈ wsX60, w ∈ wsX3_turnBy := by decide +kernel
  show Wk E g 5 S 0 [(0, vr g 3 16), (1, vr g 1 p), (2, vi m), (3, vr g c w)] []
  have hfS : Fr (fCl c w) S S := Fr.rfl _ S
  have hRS : CI S := hRS.fr (hfS.mono (fun k i j h => by unfold fCl at h; obtain ⟨rfl, rfl⟩ := h; exact hcC j))
  have hnS := hRS.n
  refine kw_iload_n hC dX3_turnBy_0 rfl 2 rfl ?_
  refine kw_iconst hC dX3_turnBy_1 rfl ?_
  refine kw_isub hC dX3_turnBy_2 rfl ?_
  refine kw_istore (lv' := [(4, _), (0, _), (1, _), (2, _), (3, _)]) hC dX3_turnBy_3 rfl (by decide) rfl ?_
  have hL5 : ∀ (n5 : Nat) (x : Int) (W5 : wSt), Fr (fCl c w) S W5 → (-1 ≤ x) → (x < m) → x + 1 < (n5 : Int) → Wk E g 5 W5 5 [(0, vr g 3 16), (1, vr g 1 p), (2, vi m), (3, vr g c w), (4, vi x)] [] := by
    intro n5
    induction n5 with
    | zero => intro x W5 hfW5 x0 x1 hm5; exact absurd hm5 (by omega)
    | succ n5 ih5 =>
      intro x W5 hfW5 x0 x1 hm5
      have hRW5 : CI W5 := hRS.fr (hfW5.mono (fun k i j h => by unfold fCl at h; obtain ⟨rfl, rfl⟩ := h; exact hcC j))
      have hnW5 := hRW5.n
      refine kw_iload hC dX3_turnBy_5 rfl 4 rfl ?_
      refine kw_if_lt (tgt := 33) hC dX3_turnBy_7 rfl (by decide) (by omega) ⟨fun c7 => ?_, fun c7 => ?_⟩
      · refine kw_iconst hC dX3_turnBy_33 rfl ?_
        exact hR9.2.1 rfl _ _ _ _ dX3_turnBy_34 (by omega) ⟨_, rfl, hfW5, by omega⟩
      · refine kw_aload_n hC dX3_turnBy_10 rfl 0 rfl ?_
        refine kw_aload_n hC dX3_turnBy_11 rfl 3 rfl ?_
        refine kw_aload_n hC dX3_turnBy_12 rfl 1 rfl ?_
        refine kg_1_0 hC w6 f44 dX3_turnBy_13 rfl (by omega) (by omega) ?_
        refine kw_iload hC dX3_turnBy_16 rfl 4 rfl ?_
        refine ka_2 hC dX3_turnBy_18 rfl (by omega) (by omega) (by omega) (by omega) ?_
        refine kw_chi (z' := S 2 p x) (hfW5 2 p x (by unfold fCl; omega)) ?_
        have hl := hw x (by omega) (by omega)
        refine kw_callV hC (d_X3_turn hD hL h0 h1 (by omega) (by omega) hRW5) gX3_turnBy_X3_turn ⟨_, rfl⟩ rfl (by omega) (show (16 : Int) < 17 by omega) rfl ⟨rfl, rfl⟩ 2 (by decide +kernel) ⟨by decide, by decide⟩ rfl rfl (Nat.le_of_ble_eq_true rfl) dX3_turnBy_19 rfl (kd_i (fun r2 S2 hp2 => ?_))
        obtain ⟨hg2, hp2⟩ := hp2
        have hfS2 : Fr (fCl c w) S S2 := hfW5.trans (hg2.mono (fun k i j h => by unfold fCl at h; unfold fCl; omega))
        have hRS2 : CI S2 := hRS.fr (hfS2.mono (fun k i j h => by unfold fCl at h; obtain ⟨rfl, rfl⟩ := h; exact hcC j))
        have hnS2 := hRS2.n
        obtain ⟨hb2, -⟩ := hp2
        have hbb := bz_in (-1000000000000 ≤ nl (tvc (W5 5 16) (W5 c w) (S 2 p x) (W5 3 16 2)) ∧ nl (tvc (W5 5 16) (W5 c w) (S 2 p x) (W5 3 16 2)) ≤ 1000000000000)
        refine kw_if_ne (tgt := 27) hC dX3_turnBy_22 rfl (by decide) (by omega) ⟨fun c22 => ?_, fun c22 => ?_⟩
        · refine kw_iinc (lv' := [(4, _), (0, _), (1, _), (2, _), (3, _)]) hC dX3_turnBy_27 rfl 4 rfl (by decide) rfl ?_
          refine kw_goto (tgt := 5) hC dX3_turnBy_30 rfl (by decide) ?_
          refine kw_lv [1, 2, 3, 4, 0] rfl ?_
          exact ih5 (x + -1) S2 hfS2 (by omega) (by omega) (by omega)
        · refine kw_iconst hC dX3_turnBy_25 rfl ?_
          exact hR9.2.1 rfl _ _ _ _ dX3_turnBy_26 (by omega) ⟨_, rfl, hfS2, by omega⟩
  refine kw_lv [1, 2, 3, 4, 0] rfl ?_
  exact hL5 101 (m - 1) S hfS (by omega) (by omega) (by omega)

set_option maxHeartbeats 4000000 in
set_option maxRecDepth 100000 in
theorem d_X6_add {g : wG} (hD : wD g) {S : wSt} {p : Int} (p0 : 0 ≤ p) (p1 : p < 12) {z : Int} (m0 : 0 ≤ S 1 p 1) (m1 : S 1 p 1 < 100) (l : Launch) : Kt l yX6_add wsX6_add ({ frames := 0, cells := 0, slots := 0, locals := 0 } : Room) g S [vr g 1 p, vi z] (pV (fun S' => Fr (fWd p) S S' ∧ (S' 1 p 1 = S 1 p 1 + 1 ∧ S' 2 p (S 1 p 1) = z ∧ ∀ j, j ≠ S 1 p 1 → S' 2 p j = S 2 p j))) := by
  refine Kt.of (cc := cX6_add) (nL := 2) (ret := none) (own := RX6) rfl hD (by decide) rfl (Nat.le_of_ble_eq_true rfl) ⟨rfl, rfl⟩ ?_
  intro E hC hR9
  have f9 : Cond.fieldLink RX6 9 "MirrorBench$Word" "mirrors" "[I" ∈ wsX6_add := by decide +kernel
  have f15 : Cond.fieldLink RX6 15 "MirrorBench$Word" "length" "I" ∈ wsX6_add := by decide +kernel
  have w6 : ∀ w ∈ wsX60, w ∈ wsX6_add := by decide +kernel
  show Wk E g 2 S 0 [(0, vr g 1 p), (1, vi z)] []
  have hfS : Fr (fWd p) S S := Fr.rfl _ S
  refine kw_aload_n hC dX6_add_0 rfl 0 rfl ?_
  refine kg_1_0 hC w6 f9 dX6_add_1 rfl (by omega) (by omega) ?_
  refine kw_aload_n hC dX6_add_4 rfl 0 rfl ?_
  refine kg_1_1 hC w6 f15 dX6_add_5 rfl (by omega) (by omega) ?_
  refine kw_iload_n hC dX6_add_8 rfl 1 rfl ?_
  refine ks_2 hC dX6_add_9 rfl (by omega) (by omega) (by omega) (by omega) ?_
  refine kw_hv hfS (by unfold fWd; omega) (fun S1 hfS1 hv1 ho1 => ?_)
  have hvA := hv1
  have hoA := ho1
  refine kw_aload_n hC dX6_add_10 rfl 0 rfl ?_
  refine kw_dup hC dX6_add_11 rfl rfl ?_
  refine kg_1_1 hC w6 f15 dX6_add_12 rfl (by omega) (by omega) ?_
  refine kw_chi (z' := S 1 p 1) (hoA 1 p 1 (by omega)) ?_
  refine kw_iconst hC dX6_add_15 rfl ?_
  refine kw_iadd hC dX6_add_16 rfl ?_
  refine kp_1_1 hC w6 f15 dX6_add_17 rfl (by omega) (by omega) ?_
  refine kw_hv hfS1 (by unfold fWd; omega) (fun S2 hfS2 hv2 ho2 => ?_)
  exact hR9.2.2.2 rfl _ _ _ dX6_add_20 ⟨rfl, hfS2, hv2, by rw [ho2 2 p _ (by omega)]; exact hvA, fun j hj => by rw [ho2 2 p j (by omega)]; exact hoA 2 p j (by omega)⟩

theorem kw_hc {E : wE} {g : wG} {nL : Nat} {pc : Nat} {lv : List (Nat × Value)} {st : List Value} {T : Nat → Int → Int → Prop} {S0 S : wSt} {k0 k1 : Nat} {i0 i1 sp dp n : Int} (h : Fr T S0 S) (ht : ∀ j, T k1 i1 j) (kk : ∀ S' : wSt, Fr T S0 S' → (∀ j, dp ≤ j → j < dp + n → S' k1 i1 j = S k0 i0 (sp + (j - dp))) → (∀ k' i' j', ¬ (k' = k1 ∧ i' = i1 ∧ dp ≤ j' ∧ j' < dp + n) → S' k' i' j' = S k' i' j') → Wk E g nL S' pc lv st) : Wk E g nL (cpS S k0 i0 sp k1 i1 dp n) pc lv st := kk _ (h.cp ht) (fun _ a b => if_pos ⟨rfl, rfl, a, b⟩) (fun _ _ _ hn => if_neg hn)

set_option maxHeartbeats 4000000 in
set_option maxRecDepth 100000 in
theorem d_X6_removeAt {g : wG} (hD : wD g) {S : wSt} {p : Int} (p0 : 0 ≤ p) (p1 : p < 12) {z : Int} (z0 : 0 ≤ z) (z1 : z < S 1 p 1) (m1 : S 1 p 1 ≤ 100) (l : Launch) : Kt l yX6_removeAt wsX6_removeAt ({ frames := 1, cells := 0, slots := 0, locals := 26 } : Room) g S [vr g 1 p, vi z] (pV (fun S' => Fr (fWd p) S S' ∧ (S' 1 p 1 = S 1 p 1 - 1 ∧ (∀ j, 0 ≤ j → j < z → S' 2 p j = S 2 p j) ∧ ∀ j, z ≤ j → j < S 1 p 1 - 1 → S' 2 p j = S 2 p (j + 1)))) := by
  refine Kt.of (cc := cX6_removeAt) (nL := 2) (ret := none) (own := RX6) rfl hD (by decide) rfl (Nat.le_of_ble_eq_true rfl) ⟨rfl, rfl⟩ ?_
  intro E hC hR9
  have f9 : Cond.fieldLink RX6 9 "MirrorBench$Word" "mirrors" "[I" ∈ wsX6_removeAt := by decide +kernel
  have f15 : Cond.fieldLink RX6 15 "MirrorBench$Word" "length" "I" ∈ wsX6_removeAt := by decide +kernel
  have w6 : ∀ w ∈ wsX60, w ∈ wsX6_removeAt := by decide +kernel
  show Wk E g 2 S 0 [(0, vr g 1 p), (1, vi z)] []
  have hfS : Fr (fWd p) S S := Fr.rfl _ S
  refine kw_aload_n hC dX6_removeAt_0 rfl 0 rfl ?_
  refine kg_1_0 hC w6 f9 dX6_removeAt_1 rfl (by omega) (by omega) ?_
  refine kw_iload_n hC dX6_removeAt_4 rfl 1 rfl ?_
  refine kw_iconst hC dX6_removeAt_5 rfl ?_
  refine kw_iadd hC dX6_removeAt_6 rfl ?_
  refine kw_aload_n hC dX6_removeAt_7 rfl 0 rfl ?_
  refine kg_1_0 hC w6 f9 dX6_removeAt_8 rfl (by omega) (by omega) ?_
  refine kw_iload_n hC dX6_removeAt_11 rfl 1 rfl ?_
  refine kw_aload_n hC dX6_removeAt_12 rfl 0 rfl ?_
  refine kg_1_1 hC w6 f15 dX6_removeAt_13 rfl (by omega) (by omega) ?_
  refine kw_iload_n hC dX6_removeAt_16 rfl 1 rfl ?_
  refine kw_isub hC dX6_removeAt_17 rfl ?_
  refine kw_iconst hC dX6_removeAt_18 rfl ?_
  refine kw_isub hC dX6_removeAt_19 rfl ?_
  refine kw_copyi (k0 := 2) (k1 := 2) (n0 := 100) (n1 := 100) hC (by decide +kernel) (by decide +kernel) (by decide +kernel) (by decide +kernel) (by decide) (Nat.le_of_ble_eq_true rfl) (fun _ => rfl) (fun _ => rfl) (by decide) (by decide) (by omega) (show (_ : Int) < 12 by omega) (by omega) (show (_ : Int) < 12 by omega) (by omega) (by omega) (by omega) (by omega) (by omega) dX6_removeAt_20 rfl ?_
  refine kw_hc hfS (fun j => by unfold fWd; omega) (fun S1 hfS1 hvC hoC => ?_)
  refine kw_aload_n hC dX6_removeAt_23 rfl 0 rfl ?_
  refine kw_dup hC dX6_removeAt_24 rfl rfl ?_
  refine kg_1_1 hC w6 f15 dX6_removeAt_25 rfl (by omega) (by omega) ?_
  refine kw_chi (z' := S 1 p 1) (hoC 1 p 1 (by omega)) ?_
  refine kw_iconst hC dX6_removeAt_28 rfl ?_
  refine kw_isub hC dX6_removeAt_29 rfl ?_
  refine kp_1_1 hC w6 f15 dX6_removeAt_30 rfl (by omega) (by omega) ?_
  refine kw_hv hfS1 (by unfold fWd; omega) (fun S2 hfS2 hv2 ho2 => ?_)
  exact hR9.2.2.2 rfl _ _ _ dX6_removeAt_33 ⟨rfl, hfS2, hv2, fun j j0 j1 => by rw [ho2 2 p j (by omega), hoC 2 p j (by omega)], fun j j0 j1 => by rw [ho2 2 p j (by omega), hvC j j0 (by omega), show z + 1 + (j - z) = j + 1 by omega]⟩

set_option maxHeartbeats 4000000 in
set_option maxRecDepth 100000 in
theorem d_X6_take {g : wG} (hD : wD g) {S : wSt} {p : Int} (p0 : 0 ≤ p) (p1 : p < 12) {q : Int} (q0 : 0 ≤ q) (q1 : q < 12) (m0 : 0 ≤ S 1 q 1) (m1 : S 1 q 1 ≤ 100) (l : Launch) : Kt l yX6_take wsX6_take ({ frames := 1, cells := 0, slots := 0, locals := 26 } : Room) g S [vr g 1 p, vr g 1 q] (pV (fun S' => Fr (fWd p) S S' ∧ (S' 1 p 1 = S 1 q 1 ∧ ∀ j, 0 ≤ j → j < S 1 q 1 → S' 2 p j = S 2 q j))) := by
  refine Kt.of (cc := cX6_take) (nL := 2) (ret := none) (own := RX6) rfl hD (by decide) rfl (Nat.le_of_ble_eq_true rfl) ⟨rfl, rfl⟩ ?_
  intro E hC hR9
  have f9 : Cond.fieldLink RX6 9 "MirrorBench$Word" "mirrors" "[I" ∈ wsX6_take := by decide +kernel
  have f15 : Cond.fieldLink RX6 15 "MirrorBench$Word" "length" "I" ∈ wsX6_take := by decide +kernel
  have w6 : ∀ w ∈ wsX60, w ∈ wsX6_take := by decide +kernel
  show Wk E g 2 S 0 [(0, vr g 1 p), (1, vr g 1 q)] []
  have hfS : Fr (fWd p) S S := Fr.rfl _ S
  refine kw_aload_n hC dX6_take_0 rfl 1 rfl ?_
  refine kg_1_0 hC w6 f9 dX6_take_1 rfl (by omega) (by omega) ?_
  refine kw_iconst hC dX6_take_4 rfl ?_
  refine kw_aload_n hC dX6_take_5 rfl 0 rfl ?_
  refine kg_1_0 hC w6 f9 dX6_take_6 rfl (by omega) (by omega) ?_
  refine kw_iconst hC dX6_take_9 rfl ?_
  refine kw_aload_n hC dX6_take_10 rfl 1 rfl ?_
  refine kg_1_1 hC w6 f15 dX6_take_11 rfl (by omega) (by omega) ?_
  refine kw_copyi (k0 := 2) (k1 := 2) (n0 := 100) (n1 := 100) hC (by decide +kernel) (by decide +kernel) (by decide +kernel) (by decide +kernel) (by decide) (Nat.le_of_ble_eq_true rfl) (fun _ => rfl) (fun _ => rfl) (by decide) (by decide) (by omega) (show (_ : Int) < 12 by omega) (by omega) (show (_ : Int) < 12 by omega) (by omega) (by omega) (by omega) (by omega) (by omega) dX6_take_14 rfl ?_
  refine kw_hc hfS (fun j => by unfold fWd; omega) (fun S1 hfS1 hvC hoC => ?_)
  refine kw_aload_n hC dX6_take_17 rfl 0 rfl ?_
  refine kw_aload_n hC dX6_take_18 rfl 1 rfl ?_
  refine kg_1_1 hC w6 f15 dX6_take_19 rfl (by omega) (by omega) ?_
  refine kw_chi (z' := S 1 q 1) (hoC 1 q 1 (by omega)) ?_
  refine kp_1_1 hC w6 f15 dX6_take_22 rfl (by omega) (by omega) ?_
  refine kw_hv hfS1 (by unfold fWd; omega) (fun S2 hfS2 hv2 ho2 => ?_)
  exact hR9.2.2.2 rfl _ _ _ dX6_take_25 ⟨rfl, hfS2, hv2, fun j j0 j1 => by rw [ho2 2 p j (by omega), hvC j j0 (by omega), show 0 + (j - 0) = j by omega]⟩

set_option maxHeartbeats 4000000 in
set_option maxRecDepth 100000 in
theorem d_X6_append {g : wG} (hD : wD g) {S : wSt} {p : Int} (p0 : 0 ≤ p) (p1 : p < 12) {q : Int} (q0 : 0 ≤ q) (q1 : q < 12) (n0 : 0 ≤ S 1 p 1) (m0 : 0 ≤ S 1 q 1) (m1 : S 1 p 1 + S 1 q 1 ≤ 100) (l : Launch) : Kt l yX6_append wsX6_append ({ frames := 1, cells := 0, slots := 0, locals := 26 } : Room) g S [vr g 1 p, vr g 1 q] (pV (fun S' => Fr (fWd p) S S' ∧ (S' 1 p 1 = S 1 p 1 + S 1 q 1 ∧ (∀ j, 0 ≤ j → j < S 1 p 1 → S' 2 p j = S 2 p j) ∧ ∀ j, 0 ≤ j → j < S 1 q 1 → S' 2 p (S 1 p 1 + j) = S 2 q j))) := by
  refine Kt.of (cc := cX6_append) (nL := 2) (ret := none) (own := RX6) rfl hD (by decide) rfl (Nat.le_of_ble_eq_true rfl) ⟨rfl, rfl⟩ ?_
  intro E hC hR9
  have f9 : Cond.fieldLink RX6 9 "MirrorBench$Word" "mirrors" "[I" ∈ wsX6_append := by decide +kernel
  have f15 : Cond.fieldLink RX6 15 "MirrorBench$Word" "length" "I" ∈ wsX6_append := by decide +kernel
  have w6 : ∀ w ∈ wsX60, w ∈ wsX6_append := by decide +kernel
  show Wk E g 2 S 0 [(0, vr g 1 p), (1, vr g 1 q)] []
  have hfS : Fr (fWd p) S S := Fr.rfl _ S
  refine kw_aload_n hC dX6_append_0 rfl 1 rfl ?_
  refine kg_1_0 hC w6 f9 dX6_append_1 rfl (by omega) (by omega) ?_
  refine kw_iconst hC dX6_append_4 rfl ?_
  refine kw_aload_n hC dX6_append_5 rfl 0 rfl ?_
  refine kg_1_0 hC w6 f9 dX6_append_6 rfl (by omega) (by omega) ?_
  refine kw_aload_n hC dX6_append_9 rfl 0 rfl ?_
  refine kg_1_1 hC w6 f15 dX6_append_10 rfl (by omega) (by omega) ?_
  refine kw_aload_n hC dX6_append_13 rfl 1 rfl ?_
  refine kg_1_1 hC w6 f15 dX6_append_14 rfl (by omega) (by omega) ?_
  refine kw_copyi (k0 := 2) (k1 := 2) (n0 := 100) (n1 := 100) hC (by decide +kernel) (by decide +kernel) (by decide +kernel) (by decide +kernel) (by decide) (Nat.le_of_ble_eq_true rfl) (fun _ => rfl) (fun _ => rfl) (by decide) (by decide) (by omega) (show (_ : Int) < 12 by omega) (by omega) (show (_ : Int) < 12 by omega) (by omega) (by omega) (by omega) (by omega) (by omega) dX6_append_17 rfl ?_
  refine kw_hc hfS (fun j => by unfold fWd; omega) (fun S1 hfS1 hvC hoC => ?_)
  refine kw_aload_n hC dX6_append_20 rfl 0 rfl ?_
  refine kw_dup hC dX6_append_21 rfl rfl ?_
  refine kg_1_1 hC w6 f15 dX6_append_22 rfl (by omega) (by omega) ?_
  refine kw_chi (z' := S 1 p 1) (hoC 1 p 1 (by omega)) ?_
  refine kw_aload_n hC dX6_append_25 rfl 1 rfl ?_
  refine kg_1_1 hC w6 f15 dX6_append_26 rfl (by omega) (by omega) ?_
  refine kw_chi (z' := S 1 q 1) (hoC 1 q 1 (by omega)) ?_
  refine kw_iadd hC dX6_append_29 rfl ?_
  refine kp_1_1 hC w6 f15 dX6_append_30 rfl (by omega) (by omega) ?_
  refine kw_hv hfS1 (by unfold fWd; omega) (fun S2 hfS2 hv2 ho2 => ?_)
  exact hR9.2.2.2 rfl _ _ _ dX6_append_33 ⟨rfl, hfS2, hv2, fun j j0 j1 => by rw [ho2 2 p j (by omega), hoC 2 p j (by omega)], fun j j0 j1 => by rw [ho2 2 p _ (by omega), hvC _ (by omega) (by omega), show 0 + (S 1 p 1 + j - S 1 p 1) = j by omega]⟩

set_option maxHeartbeats 4000000 in
set_option maxRecDepth 100000 in
theorem d_X6_takeInverted {g : wG} (hD : wD g) {S : wSt} {p : Int} (p0 : 0 ≤ p) (p1 : p < 12) {q : Int} (q0 : 0 ≤ q) (q1 : q < 12) (hpq : p ≠ q) (m0 : 0 ≤ S 1 q 1) (m1 : S 1 q 1 ≤ 100) (l : Launch) : Kt l yX6_takeInverted wsX6_takeInverted ({ frames := 0, cells := 0, slots := 0, locals := 0 } : Room) g S [vr g 1 p, vr g 1 q] (pV (fun S' => Fr (fWd p) S S' ∧ (S' 1 p 1 = S 1 q 1 ∧ ∀ j, 0 ≤ j → j < S 1 q 1 → S' 2 p j = S 2 q (S 1 q 1 - 1 - j)))) := by
  refine Kt.of (cc := cX6_takeInverted) (nL := 3) (ret := none) (own := RX6) rfl hD (by decide) rfl (Nat.le_of_ble_eq_true rfl) ⟨rfl, rfl⟩ ?_
  intro E hC hR9
  have f9 : Cond.fieldLink RX6 9 "MirrorBench$Word" "mirrors" "[I" ∈ wsX6_takeInverted := by decide +kernel
  have f15 : Cond.fieldLink RX6 15 "MirrorBench$Word" "length" "I" ∈ wsX6_takeInverted := by decide +kernel
  have w6 : ∀ w ∈ wsX60, w ∈ wsX6_takeInverted := by decide +kernel
  show Wk E g 3 S 0 [(0, vr g 1 p), (1, vr g 1 q)] []
  have hfS : Fr (fWd p) S S := Fr.rfl _ S
  refine kw_aload_n hC dX6_takeInverted_0 rfl 0 rfl ?_
  refine kw_aload_n hC dX6_takeInverted_1 rfl 1 rfl ?_
  refine kg_1_1 hC w6 f15 dX6_takeInverted_2 rfl (by omega) (by omega) ?_
  refine kp_1_1 hC w6 f15 dX6_takeInverted_5 rfl (by omega) (by omega) ?_
  refine kw_hv hfS (by unfold fWd; omega) (fun S1 hfS1 hv1 ho1 => ?_)
  refine kw_iconst hC dX6_takeInverted_8 rfl ?_
  refine kw_istore_n (lv' := [(2, _), (0, _), (1, _)]) hC dX6_takeInverted_9 rfl (by decide) rfl ?_
  have hL10 : ∀ (n10 : Nat) (x : Int) (W10 : wSt), Fr (fWd p) S W10 → (0 ≤ x) → (x ≤ S 1 q 1) → (W10 1 p 1 = S 1 q 1) → (∀ j, 0 ≤ j → j < x → W10 2 p j = S 2 q (S 1 q 1 - 1 - j)) → S 1 q 1 - x < (n10 : Int) → Wk E g 3 W10 10 [(0, vr g 1 p), (1, vr g 1 q), (2, vi x)] [] := by
    intro n10
    induction n10 with
    | zero => intro x W10 hfW10 x0 x1 hq h3 hm10; exact absurd hm10 (by omega)
    | succ n10 ih10 =>
      intro x W10 hfW10 x0 x1 hq h3 hm10
      refine kw_iload_n hC dX6_takeInverted_10 rfl 2 rfl ?_
      refine kw_aload_n hC dX6_takeInverted_11 rfl 0 rfl ?_
      refine kg_1_1 hC w6 f15 dX6_takeInverted_12 rfl (by omega) (by omega) ?_
      refine kw_icmp_ge (tgt := 43) hC dX6_takeInverted_15 rfl (by decide) (by omega) (by omega) ⟨fun c15 => ?_, fun c15 => ?_⟩
      · exact hR9.2.2.2 rfl _ _ _ dX6_takeInverted_43 ⟨rfl, hfW10, hq, fun j j0 j1 => h3 j j0 (by omega)⟩
      · refine kw_aload_n hC dX6_takeInverted_18 rfl 0 rfl ?_
        refine kg_1_0 hC w6 f9 dX6_takeInverted_19 rfl (by omega) (by omega) ?_
        refine kw_iload_n hC dX6_takeInverted_22 rfl 2 rfl ?_
        refine kw_aload_n hC dX6_takeInverted_23 rfl 1 rfl ?_
        refine kg_1_0 hC w6 f9 dX6_takeInverted_24 rfl (by omega) (by omega) ?_
        refine kw_aload_n hC dX6_takeInverted_27 rfl 0 rfl ?_
        refine kg_1_1 hC w6 f15 dX6_takeInverted_28 rfl (by omega) (by omega) ?_
        refine kw_chi (z' := S 1 q 1) hq ?_
        refine kw_iconst hC dX6_takeInverted_31 rfl ?_
        refine kw_isub hC dX6_takeInverted_32 rfl ?_
        refine kw_iload_n hC dX6_takeInverted_33 rfl 2 rfl ?_
        refine kw_isub hC dX6_takeInverted_34 rfl ?_
        refine ka_2 hC dX6_takeInverted_35 rfl (by omega) (by omega) (by omega) (by omega) ?_
        refine kw_chi (z' := S 2 q (S 1 q 1 - 1 - x)) (hfW10 2 q _ (by unfold fWd; omega)) ?_
        refine ks_2 hC dX6_takeInverted_36 rfl (by omega) (by omega) (by omega) (by omega) ?_
        refine kw_hv hfW10 (by unfold fWd; omega) (fun S3 hfS3 hv3 ho3 => ?_)
        refine kw_iinc (lv' := [(2, _), (0, _), (1, _)]) hC dX6_takeInverted_37 rfl 2 rfl (by decide) rfl ?_
        refine kw_goto (tgt := 10) hC dX6_takeInverted_40 rfl (by decide) ?_
        refine kw_lv [1, 2, 0] rfl ?_
        exact ih10 (x + 1) S3 hfS3 (by omega) (by omega) ((ho3 1 p 1 (by omega)).trans hq) (ext_p (fun j z => z = S 2 q (S 1 q 1 - 1 - j)) h3 (fun j hj => ho3 2 p j (by omega)) hv3) (by omega)
  refine kw_lv [1, 2, 0] rfl ?_
  exact hL10 101 0 S1 hfS1 (by omega) (by omega) hv1 (fun j _ _ => by omega) (by omega)

set_option maxHeartbeats 4000000 in
set_option maxRecDepth 100000 in
theorem d_X6_isLike {g : wG} (hD : wD g) {S : wSt} {p : Int} (p0 : 0 ≤ p) (p1 : p < 12) {q : Int} (q0 : 0 ≤ q) (q1 : q < 12) (n0 : 0 ≤ S 1 p 1) (n1 : S 1 p 1 ≤ 100) (m0 : 0 ≤ S 1 q 1) (m1 : S 1 q 1 ≤ 100) (l : Launch) : Kt l yX6_isLike wsX6_isLike ({ frames := 0, cells := 0, slots := 0, locals := 0 } : Room) g S [vr g 1 p, vr g 1 q] (pI (fun r S' => (r = 0 ∨ r = 1) ∧ S' = S)) := by
  refine Kt.of (cc := cX6_isLike) (nL := 3) (ret := (some .boolean)) (own := RX6) rfl hD (by decide) rfl (Nat.le_of_ble_eq_true rfl) ⟨rfl, rfl⟩ ?_
  intro E hC hR9
  have f9 : Cond.fieldLink RX6 9 "MirrorBench$Word" "mirrors" "[I" ∈ wsX6_isLike := by decide +kernel
  have f15 : Cond.fieldLink RX6 15 "MirrorBench$Word" "length" "I" ∈ wsX6_isLike := by decide +kernel
  have w6 : ∀ w ∈ wsX60, w ∈ wsX6_isLike := by decide +kernel
  show Wk E g 3 S 0 [(0, vr g 1 p), (1, vr g 1 q)] []
  refine kw_aload_n hC dX6_isLike_0 rfl 0 rfl ?_
  refine kg_1_1 hC w6 f15 dX6_isLike_1 rfl (by omega) (by omega) ?_
  refine kw_aload_n hC dX6_isLike_4 rfl 1 rfl ?_
  refine kg_1_1 hC w6 f15 dX6_isLike_5 rfl (by omega) (by omega) ?_
  refine kw_icmp_eq (tgt := 13) hC dX6_isLike_8 rfl (by decide) (by omega) (by omega) ⟨fun c8 => ?_, fun c8 => ?_⟩
  · refine kw_iconst hC dX6_isLike_13 rfl ?_
    refine kw_istore_n (lv' := [(2, _), (0, _), (1, _)]) hC dX6_isLike_14 rfl (by decide) rfl ?_
    have hL15 : ∀ (n15 : Nat) (x : Int), (0 ≤ x) → (x ≤ S 1 p 1) → S 1 p 1 - x < (n15 : Int) → Wk E g 3 S 15 [(0, vr g 1 p), (1, vr g 1 q), (2, vi x)] [] := by
      intro n15
      induction n15 with
      | zero => intro x x0 x1 hm15; exact absurd hm15 (by omega)
      | succ n15 ih15 =>
        intro x x0 x1 hm15
        refine kw_iload_n hC dX6_isLike_15 rfl 2 rfl ?_
        refine kw_aload_n hC dX6_isLike_16 rfl 0 rfl ?_
        refine kg_1_1 hC w6 f15 dX6_isLike_17 rfl (by omega) (by omega) ?_
        refine kw_icmp_ge (tgt := 46) hC dX6_isLike_20 rfl (by decide) (by omega) (by omega) ⟨fun c20 => ?_, fun c20 => ?_⟩
        · refine kw_iconst hC dX6_isLike_46 rfl ?_
          exact hR9.2.1 rfl _ _ _ _ dX6_isLike_47 (by omega) ⟨_, rfl, by omega, rfl⟩
        · refine kw_aload_n hC dX6_isLike_23 rfl 0 rfl ?_
          refine kg_1_0 hC w6 f9 dX6_isLike_24 rfl (by omega) (by omega) ?_
          refine kw_iload_n hC dX6_isLike_27 rfl 2 rfl ?_
          refine ka_2 hC dX6_isLike_28 rfl (by omega) (by omega) (by omega) (by omega) ?_
          refine kw_nri ?_
          refine kw_aload_n hC dX6_isLike_29 rfl 1 rfl ?_
          refine kg_1_0 hC w6 f9 dX6_isLike_30 rfl (by omega) (by omega) ?_
          refine kw_iload_n hC dX6_isLike_33 rfl 2 rfl ?_
          refine ka_2 hC dX6_isLike_34 rfl (by omega) (by omega) (by omega) (by omega) ?_
          refine kw_nri ?_
          refine kw_icmp_eq (tgt := 40) hC dX6_isLike_35 rfl (by decide) (ni_r _) (ni_r _) ⟨fun c35 => ?_, fun c35 => ?_⟩
          · refine kw_iinc (lv' := [(2, _), (0, _), (1, _)]) hC dX6_isLike_40 rfl 2 rfl (by decide) rfl ?_
            refine kw_goto (tgt := 15) hC dX6_isLike_43 rfl (by decide) ?_
            refine kw_lv [1, 2, 0] rfl ?_
            exact ih15 (x + 1) (by omega) (by omega) (by omega)
          · refine kw_iconst hC dX6_isLike_38 rfl ?_
            exact hR9.2.1 rfl _ _ _ _ dX6_isLike_39 (by omega) ⟨_, rfl, by omega, rfl⟩
    refine kw_lv [1, 2, 0] rfl ?_
    exact hL15 101 0 (by omega) (by omega) (by omega)
  · refine kw_iconst hC dX6_isLike_11 rfl ?_
    exact hR9.2.1 rfl _ _ _ _ dX6_isLike_12 (by omega) ⟨_, rfl, by omega, rfl⟩

set_option maxHeartbeats 4000000 in
set_option maxRecDepth 100000 in
theorem d_X6_hasTwoFrom {g : wG} (hD : wD g) {S : wSt} {p : Int} (p0 : 0 ≤ p) (p1 : p < 12) {k : Int} (hk : -2147483648 ≤ k ∧ k ≤ 2147483647) (m0 : 0 ≤ S 1 p 1) (m1 : S 1 p 1 ≤ 100) (l : Launch) : Kt l yX6_hasTwoFrom wsX6_hasTwoFrom ({ frames := 0, cells := 0, slots := 0, locals := 0 } : Room) g S [vr g 1 p, vi k] (pI (fun r S' => r = bz (0 ≤ k ∧ k < S 1 p 1 - 1) ∧ S' = S)) := by
  refine Kt.of (cc := cX6_hasTwoFrom) (nL := 2) (ret := (some .boolean)) (own := RX6) rfl hD (by decide) rfl (Nat.le_of_ble_eq_true rfl) ⟨rfl, rfl⟩ ?_
  intro E hC hR9
  have f15 : Cond.fieldLink RX6 15 "MirrorBench$Word" "length" "I" ∈ wsX6_hasTwoFrom := by decide +kernel
  have w6 : ∀ w ∈ wsX60, w ∈ wsX6_hasTwoFrom := by decide +kernel
  show Wk E g 2 S 0 [(0, vr g 1 p), (1, vi k)] []
  refine kw_iload_n hC dX6_hasTwoFrom_0 rfl 1 rfl ?_
  refine kw_if_lt (tgt := 18) hC dX6_hasTwoFrom_1 rfl (by decide) (by omega) ⟨fun c1 => ?_, fun c1 => ?_⟩
  · refine kw_iconst hC dX6_hasTwoFrom_18 rfl ?_
    exact hR9.2.1 rfl _ _ _ _ dX6_hasTwoFrom_19 (by omega) ⟨_, rfl, by first | exact (bz_t (by omega)).symm | exact (bz_f (by omega)).symm, rfl⟩
  · refine kw_iload_n hC dX6_hasTwoFrom_4 rfl 1 rfl ?_
    refine kw_aload_n hC dX6_hasTwoFrom_5 rfl 0 rfl ?_
    refine kg_1_1 hC w6 f15 dX6_hasTwoFrom_6 rfl (by omega) (by omega) ?_
    refine kw_iconst hC dX6_hasTwoFrom_9 rfl ?_
    refine kw_isub hC dX6_hasTwoFrom_10 rfl ?_
    refine kw_icmp_ge (tgt := 18) hC dX6_hasTwoFrom_11 rfl (by decide) (by omega) (by omega) ⟨fun c11 => ?_, fun c11 => ?_⟩
    · refine kw_iconst hC dX6_hasTwoFrom_18 rfl ?_
      exact hR9.2.1 rfl _ _ _ _ dX6_hasTwoFrom_19 (by omega) ⟨_, rfl, by first | exact (bz_t (by omega)).symm | exact (bz_f (by omega)).symm, rfl⟩
    · refine kw_iconst hC dX6_hasTwoFrom_14 rfl ?_
      refine kw_goto (tgt := 19) hC dX6_hasTwoFrom_15 rfl (by decide) ?_
      exact hR9.2.1 rfl _ _ _ _ dX6_hasTwoFrom_19 (by omega) ⟨_, rfl, by first | exact (bz_t (by omega)).symm | exact (bz_f (by omega)).symm, rfl⟩

set_option maxHeartbeats 4000000 in
set_option maxRecDepth 100000 in
theorem d_X6_isInTurn {g : wG} (hD : wD g) {S : wSt} {p : Int} (p0 : 0 ≤ p) (p1 : p < 12) {k m n : Int} (k0 : 0 ≤ k) (m0 : 0 ≤ m) (m1 : m ≤ 6) (l0 : k < S 1 p 1) (l1 : S 1 p 1 ≤ 100) (hw : WV (S 2 p) (S 1 p 1) n) (hn : n ≤ 6) (l : Launch) : Kt l yX6_isInTurn wsX6_isInTurn ({ frames := 0, cells := 0, slots := 0, locals := 0 } : Room) g S [vr g 1 p, vi k, vi m] (pI (fun r S' => r = bz (m ≤ S 1 p 1 - k ∧ ∀ j, 2 ≤ j → j < m → S 2 p (k + j) = S 2 p (k + j - 2)) ∧ S' = S)) := by
  refine Kt.of (cc := cX6_isInTurn) (nL := 4) (ret := (some .boolean)) (own := RX6) rfl hD (by decide) rfl (Nat.le_of_ble_eq_true rfl) ⟨rfl, rfl⟩ ?_
  intro E hC hR9
  have f9 : Cond.fieldLink RX6 9 "MirrorBench$Word" "mirrors" "[I" ∈ wsX6_isInTurn := by decide +kernel
  have f15 : Cond.fieldLink RX6 15 "MirrorBench$Word" "length" "I" ∈ wsX6_isInTurn := by decide +kernel
  have w6 : ∀ w ∈ wsX60, w ∈ wsX6_isInTurn := by decide +kernel
  show Wk E g 4 S 0 [(0, vr g 1 p), (1, vi k), (2, vi m)] []
  refine kw_iload_n hC dX6_isInTurn_0 rfl 2 rfl ?_
  refine kw_aload_n hC dX6_isInTurn_1 rfl 0 rfl ?_
  refine kg_1_1 hC w6 f15 dX6_isInTurn_2 rfl (by omega) (by omega) ?_
  refine kw_iload_n hC dX6_isInTurn_5 rfl 1 rfl ?_
  refine kw_isub hC dX6_isInTurn_6 rfl ?_
  refine kw_icmp_le (tgt := 12) hC dX6_isInTurn_7 rfl (by decide) (by omega) (by omega) ⟨fun c7 => ?_, fun c7 => ?_⟩
  · refine kw_iconst hC dX6_isInTurn_12 rfl ?_
    refine kw_istore_n (lv' := [(3, _), (0, _), (1, _), (2, _)]) hC dX6_isInTurn_13 rfl (by decide) rfl ?_
    have hL14 : ∀ (n14 : Nat) (x : Int), (2 ≤ x) → (x ≤ 7) → (∀ j, 2 ≤ j → j < x → S 2 p (k + j) = S 2 p (k + j - 2)) → 7 - x < (n14 : Int) → Wk E g 4 S 14 [(0, vr g 1 p), (1, vi k), (2, vi m), (3, vi x)] [] := by
      intro n14
      induction n14 with
      | zero => intro x x0 x1 h3 hm14; exact absurd hm14 (by omega)
      | succ n14 ih14 =>
        intro x x0 x1 h3 hm14
        refine kw_iload_n hC dX6_isInTurn_14 rfl 3 rfl ?_
        refine kw_iload_n hC dX6_isInTurn_15 rfl 2 rfl ?_
        refine kw_icmp_ge (tgt := 48) hC dX6_isInTurn_16 rfl (by decide) (by omega) (by omega) ⟨fun c16 => ?_, fun c16 => ?_⟩
        · refine kw_iconst hC dX6_isInTurn_48 rfl ?_
          exact hR9.2.1 rfl _ _ _ _ dX6_isInTurn_49 (by omega) ⟨_, rfl, (bz_t ⟨by omega, fun j j0 j1 => h3 j j0 (by omega)⟩).symm, rfl⟩
        · refine kw_aload_n hC dX6_isInTurn_19 rfl 0 rfl ?_
          refine kg_1_0 hC w6 f9 dX6_isInTurn_20 rfl (by omega) (by omega) ?_
          refine kw_iload_n hC dX6_isInTurn_23 rfl 1 rfl ?_
          refine kw_iload_n hC dX6_isInTurn_24 rfl 3 rfl ?_
          refine kw_iadd hC dX6_isInTurn_25 rfl ?_
          refine ka_2 hC dX6_isInTurn_26 rfl (by omega) (by omega) (by omega) (by omega) ?_
          have ha := hw (k + x) (by omega) (by omega)
          refine kw_aload_n hC dX6_isInTurn_27 rfl 0 rfl ?_
          refine kg_1_0 hC w6 f9 dX6_isInTurn_28 rfl (by omega) (by omega) ?_
          refine kw_iload_n hC dX6_isInTurn_31 rfl 1 rfl ?_
          refine kw_iload_n hC dX6_isInTurn_32 rfl 3 rfl ?_
          refine kw_iadd hC dX6_isInTurn_33 rfl ?_
          refine kw_iconst hC dX6_isInTurn_34 rfl ?_
          refine kw_isub hC dX6_isInTurn_35 rfl ?_
          refine ka_2 hC dX6_isInTurn_36 rfl (by omega) (by omega) (by omega) (by omega) ?_
          have hb := hw (k + x - 2) (by omega) (by omega)
          refine kw_icmp_eq (tgt := 42) hC dX6_isInTurn_37 rfl (by decide) (by omega) (by omega) ⟨fun c37 => ?_, fun c37 => ?_⟩
          · refine kw_iinc (lv' := [(3, _), (0, _), (1, _), (2, _)]) hC dX6_isInTurn_42 rfl 3 rfl (by decide) rfl ?_
            refine kw_goto (tgt := 14) hC dX6_isInTurn_45 rfl (by decide) ?_
            refine kw_lv [1, 2, 3, 0] rfl ?_
            exact ih14 (x + 1) (by omega) (by omega) (fun j j0 j1 => by rcases Decidable.em (j = x) with e | e; exact (by rw [e]; exact c37); exact h3 j j0 (by omega)) (by omega)
          · refine kw_iconst hC dX6_isInTurn_40 rfl ?_
            exact hR9.2.1 rfl _ _ _ _ dX6_isInTurn_41 (by omega) ⟨_, rfl, (bz_f (fun q => c37 (q.2 x x0 (by omega)))).symm, rfl⟩
    refine kw_lv [1, 2, 3, 0] rfl ?_
    exact hL14 7 2 (by omega) (by omega) (fun j _ _ => by omega) (by omega)
  · refine kw_iconst hC dX6_isInTurn_10 rfl ?_
    exact hR9.2.1 rfl _ _ _ _ dX6_isInTurn_11 (by omega) ⟨_, rfl, (bz_f (fun q => by omega)).symm, rfl⟩

set_option maxHeartbeats 4000000 in
set_option maxRecDepth 100000 in
theorem d_X5_goesBehind {g : wG} (hD : wD g) {S : wSt} {p a : Int} (p0 : 0 ≤ p) (p1 : p < 12) (a0 : 0 ≤ a) (a1 : a < S 3 16 2) (hRS : CI S) (hw : WV (S 2 p) (S 1 p 1) (S 3 16 2)) (m0 : 0 ≤ S 1 p 1) (m1 : S 1 p 1 ≤ 100) (l : Launch) : Kt l yX5_goesBehind wsX5_goesBehind ({ frames := 2, cells := 0, slots := 0, locals := 49 } : Room) g S [vr g 10 0, vr g 1 p, vi a] (pI (fun r S' => Fr fA S S' ∧ ((r = -4 ∨ (-1 ≤ r ∧ r < S 1 p 1)) ∧ ∀ L, RLi (mxz (S 5 16)) (S 3 16 2).toNat L → r ≠ -4 ∧ (r = -1 → NB (mxz (S 5 16)) (S 3 16 2).toNat (wl (S 2 p) (S 1 p 1).toNat) a.toNat)))) := by
  refine Kt.of (cc := cX5_goesBehind) (nL := 4) (ret := (some .int)) (own := RX5) rfl hD (by decide) rfl (Nat.le_of_ble_eq_true rfl) ⟨rfl, rfl⟩ ?_
  intro E hC hR9
  have f9 : Cond.fieldLink RX5 9 "MirrorBench$Shortener" "root" "[J" ∈ wsX5_goesBehind := by decide +kernel
  have f22 : Cond.fieldLink RX5 22 "MirrorBench$Shortener" "set" "LMirrorBench$Mirrors;" ∈ wsX5_goesBehind := by decide +kernel
  have f30 : Cond.fieldLink RX5 30 "MirrorBench$Word" "length" "I" ∈ wsX5_goesBehind := by decide +kernel
  have f34 : Cond.fieldLink RX5 34 "MirrorBench$Word" "mirrors" "[I" ∈ wsX5_goesBehind := by decide +kernel
  have w5 : ∀ w ∈ wsX50, w ∈ wsX5_goesBehind := by decide +kernel
  have w6 : ∀ w ∈ wsX60, w ∈ wsX5_goesBehind := by decide +kernel
  show Wk E g 4 S 0 [(0, vr g 10 0), (1, vr g 1 p), (2, vi a)] []
  have hfS : Fr fA S S := Fr.rfl _ S
  have hRS := hRS.fr (hfS.mono (fun k i j h => by unfold fA at h; unfold tC; omega))
  have hnS := hRS.n
  have enS : S 3 16 2 = S 3 16 2 := hfS 3 16 2 (by unfold fA; omega)
  have hn9 := hRS.n
  refine kw_aload_n hC dX5_goesBehind_0 rfl 0 rfl ?_
  refine kg_10_1 hC w5 f9 dX5_goesBehind_1 rfl (by decide) (by decide) ?_
  refine kw_iload_n hC dX5_goesBehind_4 rfl 2 rfl ?_
  refine kw_callSN (host := RX7) hC (d_X7_setOwn hD (c := 11) (w := 0) (fun _ => rfl) (by decide) (by decide) (by omega) (by omega)) (by decide +kernel) (by decide +kernel) (by decide +kernel) ggX5_goesBehind_X7_setOwn rfl ⟨rfl, rfl⟩ 2 (by decide +kernel) ⟨by decide, by decide⟩ rfl rfl (Nat.le_of_ble_eq_true rfl) dX5_goesBehind_5 rfl (kd_v (fun S1 hp1 => ?_))
  obtain ⟨hg1, hp1⟩ := hp1
  have hfS1 : Fr fA S S1 := hfS.trans (hg1.mono (fun k i j h => by unfold fCl at h; unfold fA; omega))
  have hRS1 := hRS.fr (hfS1.mono (fun k i j h => by unfold fA at h; unfold tC; omega))
  have hnS1 := hRS1.n
  have enS1 : S1 3 16 2 = S 3 16 2 := hfS1 3 16 2 (by unfold fA; omega)
  refine kw_aload_n hC dX5_goesBehind_8 rfl 1 rfl ?_
  refine kg_1_1 hC w6 f30 dX5_goesBehind_9 rfl (by omega) (by omega) ?_
  refine kw_chi (z' := S 1 p 1) (hfS1 1 p 1 (by unfold fA; omega)) ?_
  refine kw_iconst hC dX5_goesBehind_12 rfl ?_
  refine kw_isub hC dX5_goesBehind_13 rfl ?_
  refine kw_istore_n (lv' := [(3, _), (0, _), (1, _), (2, _)]) hC dX5_goesBehind_14 rfl (by decide) rfl ?_
  have hL15 : ∀ (n15 : Nat) (x : Int) (W15 : wSt), Fr fA S W15 → (-1 ≤ x) → (x < S 1 p 1) → (∀ j, S 3 16 2 ≤ j → j < 6 → W15 11 0 j = 0) → (T3 (S 5 16) (S 2 p) (W15 11 0) (S 3 16 2) (S 1 p 1) a x) → x + 1 < (n15 : Int) → Wk E g 4 W15 15 [(0, vr g 10 0), (1, vr g 1 p), (2, vi a), (3, vi x)] [] := by
    intro n15
    induction n15 with
    | zero => intro x W15 hfW15 x0 x1 hz6 hT hm15; exact absurd hm15 (by omega)
    | succ n15 ih15 =>
      intro x W15 hfW15 x0 x1 hz6 hT hm15
      have hRW15 := hRS.fr (hfW15.mono (fun k i j h => by unfold fA at h; unfold tC; omega))
      have hnW15 := hRW15.n
      have enW15 : W15 3 16 2 = S 3 16 2 := hfW15 3 16 2 (by unfold fA; omega)
      refine kw_iload_n hC dX5_goesBehind_15 rfl 3 rfl ?_
      refine kw_if_lt (tgt := 66) hC dX5_goesBehind_16 rfl (by decide) (by omega) ⟨fun c16 => ?_, fun c16 => ?_⟩
      · refine kw_iconst hC dX5_goesBehind_66 rfl ?_
        obtain rfl : x = -1 := by omega
        exact hR9.1 rfl _ _ _ _ dX5_goesBehind_67 ⟨_, rfl, hfW15, Or.inr ⟨by omega, by omega⟩, fun L hL => ⟨by omega, fun _ => (hT L hL (by omega) (by omega)).1⟩⟩
      · refine kw_aload_n hC dX5_goesBehind_19 rfl 0 rfl ?_
        refine kg_10_1 hC w5 f9 dX5_goesBehind_20 rfl (by decide) (by decide) ?_
        refine kw_aload_n hC dX5_goesBehind_23 rfl 1 rfl ?_
        refine kg_1_0 hC w6 f34 dX5_goesBehind_24 rfl (by omega) (by omega) ?_
        refine kw_iload_n hC dX5_goesBehind_27 rfl 3 rfl ?_
        refine ka_2 hC dX5_goesBehind_28 rfl (by omega) (by omega) (by omega) (by omega) ?_
        refine kw_chi (z' := S 2 p x) (hfW15 2 p x (by unfold fA; omega)) ?_
        have hl := hw x (by omega) (by omega)
        refine kw_callSN (host := RX7) hC (d_X7_isOwn hD (c := 11) (w := 0) (fun _ => rfl) (by decide) (by decide) (by omega) (by omega)) (by decide +kernel) (by decide +kernel) (by decide +kernel) ggX5_goesBehind_X7_isOwn rfl ⟨rfl, rfl⟩ 2 (by decide +kernel) ⟨by decide, by decide⟩ rfl rfl (Nat.le_of_ble_eq_true rfl) dX5_goesBehind_29 rfl (kd_ie ?_)
        refine kw_ifeq_b (tgt := 37) hC dX5_goesBehind_32 rfl (by decide) ⟨fun c32 => ?_, fun c32 => ?_⟩
        · refine kw_aload_n hC dX5_goesBehind_37 rfl 0 rfl ?_
          refine kg_10_0 hC w5 f22 dX5_goesBehind_38 rfl (by decide) (by decide) ?_
          refine kw_aload_n hC dX5_goesBehind_41 rfl 0 rfl ?_
          refine kg_10_1 hC w5 f9 dX5_goesBehind_42 rfl (by decide) (by decide) ?_
          refine kw_aload_n hC dX5_goesBehind_45 rfl 1 rfl ?_
          refine kg_1_0 hC w6 f34 dX5_goesBehind_46 rfl (by omega) (by omega) ?_
          refine kw_iload_n hC dX5_goesBehind_49 rfl 3 rfl ?_
          refine ka_2 hC dX5_goesBehind_50 rfl (by omega) (by omega) (by omega) (by omega) ?_
          refine kw_chi (z' := S 2 p x) (hfW15 2 p x (by unfold fA; omega)) ?_
          have hl := hw x (by omega) (by omega)
          refine kw_callV hC (d_X3_turn hD (c := 11) (w := 0) (fun _ => rfl) (by decide) (by decide) (by omega) (by omega) hRW15) gX5_goesBehind_X3_turn ⟨_, rfl⟩ rfl (by omega) (show (16 : Int) < 17 by omega) rfl ⟨rfl, rfl⟩ 2 (by decide +kernel) ⟨by decide, by decide⟩ rfl rfl (Nat.le_of_ble_eq_true rfl) dX5_goesBehind_51 rfl (kd_i (fun r4 S4 hp4 => ?_))
          obtain ⟨hg4, hp4⟩ := hp4
          have hfS4 : Fr fA S S4 := hfW15.trans (hg4.mono (fun k i j h => by unfold fCl at h; unfold fA; omega))
          have hRS4 := hRS.fr (hfS4.mono (fun k i j h => by unfold fA at h; unfold tC; omega))
          have hnS4 := hRS4.n
          have enS4 : S4 3 16 2 = S 3 16 2 := hfS4 3 16 2 (by unfold fA; omega)
          obtain ⟨q1, q2, q3⟩ := hp4
          have hbb := bz_in (-1000000000000 ≤ nl (tvc (W15 5 16) (W15 11 0) (S 2 p x) (W15 3 16 2)) ∧ nl (tvc (W15 5 16) (W15 11 0) (S 2 p x) (W15 3 16 2)) ≤ 1000000000000)
          have e5 : W15 5 16 = S 5 16 := funext fun j => hfW15 5 16 j (by unfold fA; omega)
          rw [e5, enW15] at q1 q2 hbb
          have hT2 := T3_step hT hRS.set hw (by omega) (by omega) c32 hz6 q2 q3
          refine kw_if_ne (tgt := 60) hC dX5_goesBehind_54 rfl (by decide) (by omega) ⟨fun c54 => ?_, fun c54 => ?_⟩
          · refine kw_iinc (lv' := [(3, _), (0, _), (1, _), (2, _)]) hC dX5_goesBehind_60 rfl 3 rfl (by decide) rfl ?_
            refine kw_goto (tgt := 15) hC dX5_goesBehind_63 rfl (by decide) ?_
            refine kw_lv [1, 2, 3, 0] rfl ?_
            exact ih15 (x + -1) S4 hfS4 (by omega) (by omega) (fun j j0 j1 => by rw [q3 j (by omega)]; exact hz6 j j0 j1) (by rw [show x + -1 = x - 1 by omega]; exact hT2.1) (by omega)
          · refine kw_bipush hC dX5_goesBehind_57 rfl (by decide) ?_
            exact hR9.1 rfl _ _ _ _ dX5_goesBehind_59 ⟨_, rfl, hfS4, Or.inl rfl, fun L hL => by have h9 := hT2.2 L hL (by omega) (by omega); rw [bz_t (by rw [nl_e (by omega)]; omega)] at q1; omega⟩
        · refine kw_iload_n hC dX5_goesBehind_35 rfl 3 rfl ?_
          exact hR9.1 rfl _ _ _ _ dX5_goesBehind_36 ⟨_, rfl, hfW15, Or.inr ⟨by omega, by omega⟩, fun L hL => ⟨by omega, fun q => by omega⟩⟩
  refine kw_lv [1, 2, 3, 0] rfl ?_
  exact hL15 101 (S 1 p 1 - 1) S1 hfS1 (by omega) (by omega) (fun j j0 j1 => by rw [hp1 j (by omega) j1, if_neg (by omega)]) (T3_start m0 hp1 hRS.n) (by omega)

set_option maxHeartbeats 4000000 in
set_option maxRecDepth 100000 in
theorem d_X5_goesAhead {g : wG} (hD : wD g) {S : wSt} {p a : Int} (p0 : 0 ≤ p) (p1 : p < 12) (a0 : 0 ≤ a) (a1 : a < S 3 16 2) (hRS : CI S) (hw : WV (S 2 p) (S 1 p 1) (S 3 16 2)) (m0 : 0 ≤ S 1 p 1) (m1 : S 1 p 1 ≤ 100) (l : Launch) : Kt l yX5_goesAhead wsX5_goesAhead ({ frames := 2, cells := 0, slots := 0, locals := 49 } : Room) g S [vr g 10 0, vr g 1 p, vi a] (pI (fun r S' => Fr fA S S' ∧ ((r = -4 ∨ (-1 ≤ r ∧ r < S 1 p 1))))) := by
  refine Kt.of (cc := cX5_goesAhead) (nL := 4) (ret := (some .int)) (own := RX5) rfl hD (by decide) rfl (Nat.le_of_ble_eq_true rfl) ⟨rfl, rfl⟩ ?_
  intro E hC hR9
  have f9 : Cond.fieldLink RX5 9 "MirrorBench$Shortener" "root" "[J" ∈ wsX5_goesAhead := by decide +kernel
  have f22 : Cond.fieldLink RX5 22 "MirrorBench$Shortener" "set" "LMirrorBench$Mirrors;" ∈ wsX5_goesAhead := by decide +kernel
  have f30 : Cond.fieldLink RX5 30 "MirrorBench$Word" "length" "I" ∈ wsX5_goesAhead := by decide +kernel
  have f34 : Cond.fieldLink RX5 34 "MirrorBench$Word" "mirrors" "[I" ∈ wsX5_goesAhead := by decide +kernel
  have w5 : ∀ w ∈ wsX50, w ∈ wsX5_goesAhead := by decide +kernel
  have w6 : ∀ w ∈ wsX60, w ∈ wsX5_goesAhead := by decide +kernel
  show Wk E g 4 S 0 [(0, vr g 10 0), (1, vr g 1 p), (2, vi a)] []
  have hfS : Fr fA S S := Fr.rfl _ S
  have hRS := hRS.fr (hfS.mono (fun k i j h => by unfold fA at h; unfold tC; omega))
  have hnS := hRS.n
  have enS : S 3 16 2 = S 3 16 2 := hfS 3 16 2 (by unfold fA; omega)
  have hn9 := hRS.n
  refine kw_aload_n hC dX5_goesAhead_0 rfl 0 rfl ?_
  refine kg_10_1 hC w5 f9 dX5_goesAhead_1 rfl (by decide) (by decide) ?_
  refine kw_iload_n hC dX5_goesAhead_4 rfl 2 rfl ?_
  refine kw_callSN (host := RX7) hC (d_X7_setOwn hD (c := 11) (w := 0) (fun _ => rfl) (by decide) (by decide) (by omega) (by omega)) (by decide +kernel) (by decide +kernel) (by decide +kernel) ggX5_goesAhead_X7_setOwn rfl ⟨rfl, rfl⟩ 2 (by decide +kernel) ⟨by decide, by decide⟩ rfl rfl (Nat.le_of_ble_eq_true rfl) dX5_goesAhead_5 rfl (kd_v (fun S1 hp1 => ?_))
  obtain ⟨hg1, hp1⟩ := hp1
  have hfS1 : Fr fA S S1 := hfS.trans (hg1.mono (fun k i j h => by unfold fCl at h; unfold fA; omega))
  have hRS1 := hRS.fr (hfS1.mono (fun k i j h => by unfold fA at h; unfold tC; omega))
  have hnS1 := hRS1.n
  have enS1 : S1 3 16 2 = S 3 16 2 := hfS1 3 16 2 (by unfold fA; omega)
  refine kw_iconst hC dX5_goesAhead_8 rfl ?_
  refine kw_istore_n (lv' := [(3, _), (0, _), (1, _), (2, _)]) hC dX5_goesAhead_9 rfl (by decide) rfl ?_
  have hL10 : ∀ (n10 : Nat) (x : Int) (W10 : wSt), Fr fA S W10 → (0 ≤ x) → (x ≤ S 1 p 1) → S 1 p 1 - x < (n10 : Int) → Wk E g 4 W10 10 [(0, vr g 10 0), (1, vr g 1 p), (2, vi a), (3, vi x)] [] := by
    intro n10
    induction n10 with
    | zero => intro x W10 hfW10 x0 x1 hm10; exact absurd hm10 (by omega)
    | succ n10 ih10 =>
      intro x W10 hfW10 x0 x1 hm10
      have hRW10 := hRS.fr (hfW10.mono (fun k i j h => by unfold fA at h; unfold tC; omega))
      have hnW10 := hRW10.n
      have enW10 : W10 3 16 2 = S 3 16 2 := hfW10 3 16 2 (by unfold fA; omega)
      refine kw_iload_n hC dX5_goesAhead_10 rfl 3 rfl ?_
      refine kw_aload_n hC dX5_goesAhead_11 rfl 1 rfl ?_
      refine kg_1_1 hC w6 f30 dX5_goesAhead_12 rfl (by omega) (by omega) ?_
      refine kw_chi (z' := S 1 p 1) (hfW10 1 p 1 (by unfold fA; omega)) ?_
      refine kw_icmp_ge (tgt := 65) hC dX5_goesAhead_15 rfl (by decide) (by omega) (by omega) ⟨fun c15 => ?_, fun c15 => ?_⟩
      · refine kw_iconst hC dX5_goesAhead_65 rfl ?_
        exact hR9.1 rfl _ _ _ _ dX5_goesAhead_66 ⟨_, rfl, hfW10, by omega⟩
      · refine kw_aload_n hC dX5_goesAhead_18 rfl 0 rfl ?_
        refine kg_10_1 hC w5 f9 dX5_goesAhead_19 rfl (by decide) (by decide) ?_
        refine kw_aload_n hC dX5_goesAhead_22 rfl 1 rfl ?_
        refine kg_1_0 hC w6 f34 dX5_goesAhead_23 rfl (by omega) (by omega) ?_
        refine kw_iload_n hC dX5_goesAhead_26 rfl 3 rfl ?_
        refine ka_2 hC dX5_goesAhead_27 rfl (by omega) (by omega) (by omega) (by omega) ?_
        refine kw_chi (z' := S 2 p x) (hfW10 2 p x (by unfold fA; omega)) ?_
        have hl := hw x (by omega) (by omega)
        refine kw_callSN (host := RX7) hC (d_X7_isOwn hD (c := 11) (w := 0) (fun _ => rfl) (by decide) (by decide) (by omega) (by omega)) (by decide +kernel) (by decide +kernel) (by decide +kernel) ggX5_goesAhead_X7_isOwn rfl ⟨rfl, rfl⟩ 2 (by decide +kernel) ⟨by decide, by decide⟩ rfl rfl (Nat.le_of_ble_eq_true rfl) dX5_goesAhead_28 rfl (kd_ie ?_)
        refine kw_ifeq_b (tgt := 36) hC dX5_goesAhead_31 rfl (by decide) ⟨fun c31 => ?_, fun c31 => ?_⟩
        · refine kw_aload_n hC dX5_goesAhead_36 rfl 0 rfl ?_
          refine kg_10_0 hC w5 f22 dX5_goesAhead_37 rfl (by decide) (by decide) ?_
          refine kw_aload_n hC dX5_goesAhead_40 rfl 0 rfl ?_
          refine kg_10_1 hC w5 f9 dX5_goesAhead_41 rfl (by decide) (by decide) ?_
          refine kw_aload_n hC dX5_goesAhead_44 rfl 1 rfl ?_
          refine kg_1_0 hC w6 f34 dX5_goesAhead_45 rfl (by omega) (by omega) ?_
          refine kw_iload_n hC dX5_goesAhead_48 rfl 3 rfl ?_
          refine ka_2 hC dX5_goesAhead_49 rfl (by omega) (by omega) (by omega) (by omega) ?_
          refine kw_chi (z' := S 2 p x) (hfW10 2 p x (by unfold fA; omega)) ?_
          have hl := hw x (by omega) (by omega)
          refine kw_callV hC (d_X3_turn hD (c := 11) (w := 0) (fun _ => rfl) (by decide) (by decide) (by omega) (by omega) hRW10) gX5_goesAhead_X3_turn ⟨_, rfl⟩ rfl (by omega) (show (16 : Int) < 17 by omega) rfl ⟨rfl, rfl⟩ 2 (by decide +kernel) ⟨by decide, by decide⟩ rfl rfl (Nat.le_of_ble_eq_true rfl) dX5_goesAhead_50 rfl (kd_i (fun r4 S4 hp4 => ?_))
          obtain ⟨hg4, hp4⟩ := hp4
          have hfS4 : Fr fA S S4 := hfW10.trans (hg4.mono (fun k i j h => by unfold fCl at h; unfold fA; omega))
          have hRS4 := hRS.fr (hfS4.mono (fun k i j h => by unfold fA at h; unfold tC; omega))
          have hnS4 := hRS4.n
          have enS4 : S4 3 16 2 = S 3 16 2 := hfS4 3 16 2 (by unfold fA; omega)
          obtain ⟨q1, q2, q3⟩ := hp4
          have hbb := bz_in (-1000000000000 ≤ nl (tvc (W10 5 16) (W10 11 0) (S 2 p x) (W10 3 16 2)) ∧ nl (tvc (W10 5 16) (W10 11 0) (S 2 p x) (W10 3 16 2)) ≤ 1000000000000)
          refine kw_if_ne (tgt := 59) hC dX5_goesAhead_53 rfl (by decide) (by omega) ⟨fun c53 => ?_, fun c53 => ?_⟩
          · refine kw_iinc (lv' := [(3, _), (0, _), (1, _), (2, _)]) hC dX5_goesAhead_59 rfl 3 rfl (by decide) rfl ?_
            refine kw_goto (tgt := 10) hC dX5_goesAhead_62 rfl (by decide) ?_
            refine kw_lv [1, 2, 3, 0] rfl ?_
            exact ih10 (x + 1) S4 hfS4 (by omega) (by omega) (by omega)
          · refine kw_bipush hC dX5_goesAhead_56 rfl (by decide) ?_
            exact hR9.1 rfl _ _ _ _ dX5_goesAhead_58 ⟨_, rfl, hfS4, by omega⟩
        · refine kw_iload_n hC dX5_goesAhead_34 rfl 3 rfl ?_
          exact hR9.1 rfl _ _ _ _ dX5_goesAhead_35 ⟨_, rfl, hfW10, by omega⟩
  refine kw_lv [1, 2, 3, 0] rfl ?_
  exact hL10 101 0 S1 hfS1 (by omega) (by omega) (by omega)

def fMs (w : Int) (k : Nat) (i j : Int) : Prop := k = 11 ∨ ((k = 1 ∨ k = 2) ∧ i = w)

def fMd (u w : Int) (k : Nat) (i j : Int) : Prop := k = 11 ∨ ((k = 1 ∨ k = 2) ∧ (i = u ∨ i = w))

set_option maxHeartbeats 4000000 in
set_option maxRecDepth 100000 in
theorem d_X5_makeShort {g : wG} (hD : wD g) {S : wSt} {p q : Int} (p0 : 0 ≤ p) (p1 : p < 12) (q0 : 8 ≤ q) (q1 : q < 12) (hpq : p ≠ q) (hRS : CI S) (hw : WV (S 2 p) (S 1 p 1) (S 3 16 2)) (m0 : 0 ≤ S 1 p 1) (m1 : S 1 p 1 ≤ 100) (l : Launch) : Kt l yX5_makeShort wsX5_makeShort ({ frames := 3, cells := 0, slots := 0, locals := 72 } : Room) g S [vr g 10 0, vr g 1 p, vr g 1 q] (pI (fun r S' => Fr (fMs q) S S' ∧ ((r = 0 ∨ r = 1) ∧ (0 ≤ S' 1 q 1 ∧ S' 1 q 1 ≤ S 1 p 1) ∧ WV (S' 2 q) (S' 1 q 1) (S 3 16 2)))) := by
  refine Kt.of (cc := cX5_makeShort) (nL := 5) (ret := (some .boolean)) (own := RX5) rfl hD (by decide) rfl (Nat.le_of_ble_eq_true rfl) ⟨rfl, rfl⟩ ?_
  intro E hC hR9
  have f30 : Cond.fieldLink RX5 30 "MirrorBench$Word" "length" "I" ∈ wsX5_makeShort := by decide +kernel
  have f34 : Cond.fieldLink RX5 34 "MirrorBench$Word" "mirrors" "[I" ∈ wsX5_makeShort := by decide +kernel
  have w6 : ∀ w ∈ wsX60, w ∈ wsX5_makeShort := by decide +kernel
  show Wk E g 5 S 0 [(0, vr g 10 0), (1, vr g 1 p), (2, vr g 1 q)] []
  have hfS : Fr (fMs q) S S := Fr.rfl _ S
  have hRS : CI S := hRS.fr (hfS.mono (fun k i j h => by unfold fMs at h; unfold tC; omega))
  have hnS := hRS.n
  have enS : S 3 16 2 = S 3 16 2 := hfS 3 16 2 (by unfold fMs; omega)
  refine kw_aload_n hC dX5_makeShort_0 rfl 2 rfl ?_
  refine kw_iconst hC dX5_makeShort_1 rfl ?_
  refine kp_1_1 hC w6 f30 dX5_makeShort_2 rfl (by omega) (by omega) ?_
  refine kw_hv hfS (by unfold fMs; omega) (fun S1 hfS1 hv1 ho1 => ?_)
  have hRS1 : CI S1 := hRS.fr (hfS1.mono (fun k i j h => by unfold fMs at h; unfold tC; omega))
  have hnS1 := hRS1.n
  have enS1 : S1 3 16 2 = S 3 16 2 := hfS1 3 16 2 (by unfold fMs; omega)
  refine kw_iconst hC dX5_makeShort_5 rfl ?_
  refine kw_istore_n (lv' := [(3, _), (0, _), (1, _), (2, _)]) hC dX5_makeShort_6 rfl (by decide) rfl ?_
  have hL7 : ∀ (n7 : Nat) (x : Int) (W7 : wSt), Fr (fMs q) S W7 → (0 ≤ x) → (x ≤ S 1 p 1) → (0 ≤ W7 1 q 1) → (W7 1 q 1 ≤ x) → (WV (W7 2 q) (W7 1 q 1) (S 3 16 2)) → S 1 p 1 - x < (n7 : Int) → Wk E g 5 W7 7 [(0, vr g 10 0), (1, vr g 1 p), (2, vr g 1 q), (3, vi x)] [] := by
    intro n7
    induction n7 with
    | zero => intro x W7 hfW7 x0 x1 l0 l1 hr hm7; exact absurd hm7 (by omega)
    | succ n7 ih7 =>
      intro x W7 hfW7 x0 x1 l0 l1 hr hm7
      have hRW7 : CI W7 := hRS.fr (hfW7.mono (fun k i j h => by unfold fMs at h; unfold tC; omega))
      have hnW7 := hRW7.n
      have enW7 : W7 3 16 2 = S 3 16 2 := hfW7 3 16 2 (by unfold fMs; omega)
      refine kw_iload_n hC dX5_makeShort_7 rfl 3 rfl ?_
      refine kw_aload_n hC dX5_makeShort_8 rfl 1 rfl ?_
      refine kg_1_1 hC w6 f30 dX5_makeShort_9 rfl (by omega) (by omega) ?_
      refine kw_chi (z' := S 1 p 1) (hfW7 1 p 1 (by unfold fMs; omega)) ?_
      refine kw_icmp_ge (tgt := 68) hC dX5_makeShort_12 rfl (by decide) (by omega) (by omega) ⟨fun c12 => ?_, fun c12 => ?_⟩
      · refine kw_iconst hC dX5_makeShort_68 rfl ?_
        exact hR9.2.1 rfl _ _ _ _ dX5_makeShort_69 (by omega) ⟨_, rfl, hfW7, by omega, ⟨by omega, by omega⟩, hr⟩
      · refine kw_aload_n hC dX5_makeShort_15 rfl 0 rfl ?_
        refine kw_aload_n hC dX5_makeShort_16 rfl 2 rfl ?_
        refine kw_aload_n hC dX5_makeShort_17 rfl 1 rfl ?_
        refine kg_1_0 hC w6 f34 dX5_makeShort_18 rfl (by omega) (by omega) ?_
        refine kw_iload_n hC dX5_makeShort_21 rfl 3 rfl ?_
        refine ka_2 hC dX5_makeShort_22 rfl (by omega) (by omega) (by omega) (by omega) ?_
        refine kw_chi (z' := S 2 p x) (hfW7 2 p x (by unfold fMs; omega)) ?_
        have hl := hw x (by omega) (by omega)
        refine kw_callV hC (d_X5_goesBehind hD (by omega) (by omega) (by omega) (by omega) hRW7 (hr.eq (fun _ _ _ => rfl) rfl enW7) (by omega) (by omega)) gX5_makeShort_X5_goesBehind ⟨_, rfl⟩ rfl (by decide) (by decide) rfl ⟨rfl, rfl⟩ 2 (by decide +kernel) ⟨by decide, by decide⟩ rfl rfl (Nat.le_of_ble_eq_true rfl) dX5_makeShort_23 rfl (kd_i (fun r3 S3 hp3 => ?_))
        obtain ⟨hg3, hp3⟩ := hp3
        have hfS3 : Fr (fMs q) S S3 := hfW7.trans (hg3.mono (fun k i j h => by unfold fA at h; unfold fMs; omega))
        have hRS3 : CI S3 := hRS.fr (hfS3.mono (fun k i j h => by unfold fMs at h; unfold tC; omega))
        have hnS3 := hRS3.n
        have enS3 : S3 3 16 2 = S 3 16 2 := hfS3 3 16 2 (by unfold fMs; omega)
        obtain ⟨hb9, -⟩ := hp3
        have e1_3 : S3 1 q 1 = W7 1 q 1 := hg3 1 q 1 (by unfold fA; omega)
        replace hr : WV (S3 2 q) (S3 1 q 1) (S 3 16 2) := hr.eq (fun j _ _ => hg3 2 q j (by unfold fA; omega)) e1_3 rfl
        refine kw_istore (lv' := [(4, _), (0, _), (1, _), (2, _), (3, _)]) hC dX5_makeShort_26 rfl (by decide) rfl ?_
        refine kw_iload hC dX5_makeShort_28 rfl 0 rfl ?_
        refine kw_bipush hC dX5_makeShort_30 rfl (by decide) ?_
        refine kw_icmp_ne (tgt := 37) hC dX5_makeShort_32 rfl (by decide) (by omega) (by omega) ⟨fun c32 => ?_, fun c32 => ?_⟩
        · refine kw_iload hC dX5_makeShort_37 rfl 0 rfl ?_
          refine kw_iconst hC dX5_makeShort_39 rfl ?_
          refine kw_icmp_ne (tgt := 56) hC dX5_makeShort_40 rfl (by decide) (by omega) (by omega) ⟨fun c40 => ?_, fun c40 => ?_⟩
          · refine kw_aload_n hC dX5_makeShort_56 rfl 3 rfl ?_
            refine kw_iload hC dX5_makeShort_57 rfl 0 rfl ?_
            refine kw_callV hC (d_X6_removeAt hD (by omega) (by omega) (by omega) (by omega) (by omega)) gX5_makeShort_X6_removeAt ⟨_, rfl⟩ rfl (by omega) (show (_ : Int) < 12 by omega) rfl ⟨rfl, rfl⟩ 1 (by decide +kernel) ⟨by decide, by decide⟩ rfl rfl (Nat.le_of_ble_eq_true rfl) dX5_makeShort_59 rfl (kd_v (fun S6 hp6 => ?_))
            obtain ⟨hg6, hp6⟩ := hp6
            have hfS6 : Fr (fMs q) S S6 := hfS3.trans (hg6.mono (fun k i j h => by unfold fWd at h; unfold fMs; omega))
            have hRS6 : CI S6 := hRS.fr (hfS6.mono (fun k i j h => by unfold fMs at h; unfold tC; omega))
            have hnS6 := hRS6.n
            have enS6 : S6 3 16 2 = S 3 16 2 := hfS6 3 16 2 (by unfold fMs; omega)
            obtain ⟨y1, y2, y3⟩ := hp6
            replace hr : WV (S6 2 q) (S6 1 q 1) (S 3 16 2) := y1 ▸ WV.del hr y2 y3 (by omega)
            refine kw_iinc (lv' := [(3, _), (4, _), (0, _), (1, _), (2, _)]) hC dX5_makeShort_62 rfl 4 rfl (by decide) rfl ?_
            refine kw_goto (tgt := 7) hC dX5_makeShort_65 rfl (by decide) ?_
            refine kw_lv [2, 3, 4, 0] rfl ?_
            exact ih7 (x + 1) S6 hfS6 (by omega) (by omega) (by omega) (by omega) hr (by omega)
          · refine kw_aload_n hC dX5_makeShort_43 rfl 3 rfl ?_
            refine kw_aload_n hC dX5_makeShort_44 rfl 2 rfl ?_
            refine kg_1_0 hC w6 f34 dX5_makeShort_45 rfl (by omega) (by omega) ?_
            refine kw_iload_n hC dX5_makeShort_48 rfl 4 rfl ?_
            refine ka_2 hC dX5_makeShort_49 rfl (by omega) (by omega) (by omega) (by omega) ?_
            refine kw_chi (z' := S 2 p x) (hfS3 2 p x (by unfold fMs; omega)) ?_
            refine kw_callV hC (d_X6_add hD (by omega) (by omega) (by omega) (by omega)) gX5_makeShort_X6_add ⟨_, rfl⟩ rfl (by omega) (show (_ : Int) < 12 by omega) rfl ⟨rfl, rfl⟩ 1 (by decide +kernel) ⟨by decide, by decide⟩ rfl rfl (Nat.le_of_ble_eq_true rfl) dX5_makeShort_50 rfl (kd_v (fun S7 hp7 => ?_))
            obtain ⟨hg7, hp7⟩ := hp7
            have hfS7 : Fr (fMs q) S S7 := hfS3.trans (hg7.mono (fun k i j h => by unfold fWd at h; unfold fMs; omega))
            have hRS7 : CI S7 := hRS.fr (hfS7.mono (fun k i j h => by unfold fMs at h; unfold tC; omega))
            have hnS7 := hRS7.n
            have enS7 : S7 3 16 2 = S 3 16 2 := hfS7 3 16 2 (by unfold fMs; omega)
            obtain ⟨y1, y2, y3⟩ := hp7
            replace hr : WV (S7 2 q) (S7 1 q 1) (S 3 16 2) := y1 ▸ hr.add (fun j hj => y3 j hj) (by rw [y2]; exact hl)
            refine kw_goto (tgt := 62) hC dX5_makeShort_53 rfl (by decide) ?_
            refine kw_iinc (lv' := [(3, _), (4, _), (0, _), (1, _), (2, _)]) hC dX5_makeShort_62 rfl 4 rfl (by decide) rfl ?_
            refine kw_goto (tgt := 7) hC dX5_makeShort_65 rfl (by decide) ?_
            refine kw_lv [2, 3, 4, 0] rfl ?_
            exact ih7 (x + 1) S7 hfS7 (by omega) (by omega) (by omega) (by omega) hr (by omega)
        · refine kw_iconst hC dX5_makeShort_35 rfl ?_
          exact hR9.2.1 rfl _ _ _ _ dX5_makeShort_36 (by omega) ⟨_, rfl, hfS3, by omega, ⟨by omega, by omega⟩, hr⟩
  refine kw_lv [1, 2, 3, 0] rfl ?_
  exact hL7 101 0 S1 hfS1 (by omega) (by omega) (by have := hv1; omega) (by have := hv1; omega) (fun j _ _ => by have := hv1; omega) (by omega)

set_option maxHeartbeats 4000000 in
set_option maxRecDepth 100000 in
theorem d_X5_takeLeastDown {g : wG} (hD : wD g) {S : wSt} {p b : Int} (p0 : 8 ≤ p) (p1 : p < 12) (hRS : CI S) (hw : WV (S 2 p) (S 1 p 1) (S 3 16 2)) (m0 : 0 ≤ S 1 p 1) (m1 : S 1 p 1 ≤ 100) (l : Launch) : Kt l yX5_takeLeastDown wsX5_takeLeastDown ({ frames := 3, cells := 0, slots := 0, locals := 72 } : Room) g S [vr g 10 0, vr g 1 p, vi b] (pI (fun r S' => Fr (fMs p) S S' ∧ (((r = -4 ∨ -1 ≤ r) ∧ r < S 3 16 2) ∧ WV (S' 2 p) (S' 1 p 1) (S 3 16 2) ∧ ((r < 0 ∧ S' 1 p 1 = S 1 p 1) ∨ (0 ≤ r ∧ S' 1 p 1 = S 1 p 1 - 1 ∧ 0 ≤ S' 1 p 1))))) := by
  refine Kt.of (cc := cX5_takeLeastDown) (nL := 5) (ret := (some .int)) (own := RX5) rfl hD (by decide) rfl (Nat.le_of_ble_eq_true rfl) ⟨rfl, rfl⟩ ?_
  intro E hC hR9
  have f22 : Cond.fieldLink RX5 22 "MirrorBench$Shortener" "set" "LMirrorBench$Mirrors;" ∈ wsX5_takeLeastDown := by decide +kernel
  have f69 : Cond.fieldLink RX5 69 "MirrorBench$Mirrors" "size" "I" ∈ wsX5_takeLeastDown := by decide +kernel
  have w3 : ∀ w ∈ wsX30, w ∈ wsX5_takeLeastDown := by decide +kernel
  have w5 : ∀ w ∈ wsX50, w ∈ wsX5_takeLeastDown := by decide +kernel
  show Wk E g 5 S 0 [(0, vr g 10 0), (1, vr g 1 p), (2, vi b)] []
  have hfS : Fr (fMs p) S S := Fr.rfl _ S
  have hRS : CI S := hRS.fr (hfS.mono (fun k i j h => by unfold fMs at h; unfold tC; omega))
  have hnS := hRS.n
  have enS : S 3 16 2 = S 3 16 2 := hfS 3 16 2 (by unfold fMs; omega)
  refine kw_iconst hC dX5_takeLeastDown_0 rfl ?_
  refine kw_istore_n (lv' := [(3, _), (0, _), (1, _), (2, _)]) hC dX5_takeLeastDown_1 rfl (by decide) rfl ?_
  have hL2 : ∀ (n2 : Nat) (s : Int) (W2 : wSt), Fr (fMs p) S W2 → (0 ≤ s) → (s ≤ S 3 16 2) → (W2 1 p 1 = S 1 p 1) → (WV (W2 2 p) (W2 1 p 1) (S 3 16 2)) → (s ≤ 6) → 6 - s < (n2 : Int) → Wk E g 5 W2 2 [(0, vr g 10 0), (1, vr g 1 p), (2, vi b), (3, vi s)] [] := by
    intro n2
    induction n2 with
    | zero => intro s W2 hfW2 s0 s1 l1 hr s6 hm2; exact absurd hm2 (by omega)
    | succ n2 ih2 =>
      intro s W2 hfW2 s0 s1 l1 hr s6 hm2
      have hRW2 : CI W2 := hRS.fr (hfW2.mono (fun k i j h => by unfold fMs at h; unfold tC; omega))
      have hnW2 := hRW2.n
      have enW2 : W2 3 16 2 = S 3 16 2 := hfW2 3 16 2 (by unfold fMs; omega)
      refine kw_iload_n hC dX5_takeLeastDown_2 rfl 3 rfl ?_
      refine kw_aload_n hC dX5_takeLeastDown_3 rfl 0 rfl ?_
      refine kg_10_0 hC w5 f22 dX5_takeLeastDown_4 rfl (by decide) (by decide) ?_
      refine kg_3_2 hC w3 f69 dX5_takeLeastDown_7 rfl (by omega) (by omega) ?_
      refine kw_icmp_ge (tgt := 64) hC dX5_takeLeastDown_10 rfl (by decide) (by omega) (by omega) ⟨fun c10 => ?_, fun c10 => ?_⟩
      · refine kw_iconst hC dX5_takeLeastDown_64 rfl ?_
        exact hR9.1 rfl _ _ _ _ dX5_takeLeastDown_65 ⟨_, rfl, hfW2, by omega, hr, by omega⟩
      · refine kw_iload_n hC dX5_takeLeastDown_13 rfl 2 rfl ?_
        refine kw_iload_n hC dX5_takeLeastDown_14 rfl 3 rfl ?_
        refine kw_ishrX hC dX5_takeLeastDown_15 rfl ?_
        refine kw_iconst hC dX5_takeLeastDown_16 rfl ?_
        refine kw_iandX hC dX5_takeLeastDown_17 rfl ?_
        refine kw_iconst hC dX5_takeLeastDown_18 rfl ?_
        refine kw_icmp_ne (tgt := 31) hC dX5_takeLeastDown_19 rfl (by decide) (xi_r _) (by omega) ⟨fun c19 => ?_, fun c19 => ?_⟩
        · refine kw_iconst hC dX5_takeLeastDown_31 rfl ?_
          refine kw_istore (lv' := [(4, _), (0, _), (1, _), (2, _), (3, _)]) hC dX5_takeLeastDown_32 rfl (by decide) rfl ?_
          refine kw_iload hC dX5_takeLeastDown_34 rfl 0 rfl ?_
          refine kw_bipush hC dX5_takeLeastDown_36 rfl (by decide) ?_
          refine kw_icmp_ne (tgt := 44) hC dX5_takeLeastDown_38 rfl (by decide) (by omega) (by omega) ⟨fun c38 => ?_, fun c38 => ?_⟩
          · refine kw_iload hC dX5_takeLeastDown_44 rfl 0 rfl ?_
            refine kw_iconst hC dX5_takeLeastDown_46 rfl ?_
            refine kw_icmp_eq (tgt := 58) hC dX5_takeLeastDown_47 rfl (by decide) (by omega) (by omega) ⟨fun c47 => ?_, fun c47 => ?_⟩
            · refine kw_iinc (lv' := [(3, _), (4, _), (0, _), (1, _), (2, _)]) hC dX5_takeLeastDown_58 rfl 4 rfl (by decide) rfl ?_
              refine kw_goto (tgt := 2) hC dX5_takeLeastDown_61 rfl (by decide) ?_
              refine kw_lv [2, 3, 4, 0] rfl ?_
              exact ih2 (s + 1) W2 hfW2 (by omega) (by omega) (by omega) hr (by omega) (by omega)
            · refine kw_aload_n hC dX5_takeLeastDown_50 rfl 2 rfl ?_
              refine kw_iload hC dX5_takeLeastDown_51 rfl 0 rfl ?_
              refine kw_callV hC (d_X6_removeAt hD (by omega) (by omega) (by omega) (by omega) (by omega)) gX5_takeLeastDown_X6_removeAt ⟨_, rfl⟩ rfl (by omega) (show (_ : Int) < 12 by omega) rfl ⟨rfl, rfl⟩ 1 (by decide +kernel) ⟨by decide, by decide⟩ rfl rfl (Nat.le_of_ble_eq_true rfl) dX5_takeLeastDown_53 rfl (kd_v (fun S5 hp5 => ?_))
              obtain ⟨hg5, hp5⟩ := hp5
              have hfS5 : Fr (fMs p) S S5 := hfW2.trans (hg5.mono (fun k i j h => by unfold fWd at h; unfold fMs; omega))
              have hRS5 : CI S5 := hRS.fr (hfS5.mono (fun k i j h => by unfold fMs at h; unfold tC; omega))
              have hnS5 := hRS5.n
              have enS5 : S5 3 16 2 = S 3 16 2 := hfS5 3 16 2 (by unfold fMs; omega)
              obtain ⟨y1, y2, y3⟩ := hp5
              replace hr : WV (S5 2 p) (S5 1 p 1) (S 3 16 2) := y1 ▸ WV.del hr y2 y3 (by omega)
              refine kw_iload_n hC dX5_takeLeastDown_56 rfl 4 rfl ?_
              exact hR9.1 rfl _ _ _ _ dX5_takeLeastDown_57 ⟨_, rfl, hfS5, by omega, hr, by omega⟩
          · refine kw_bipush hC dX5_takeLeastDown_41 rfl (by decide) ?_
            exact hR9.1 rfl _ _ _ _ dX5_takeLeastDown_43 ⟨_, rfl, hfW2, by omega, hr, by omega⟩
        · refine kw_aload_n hC dX5_takeLeastDown_22 rfl 0 rfl ?_
          refine kw_aload_n hC dX5_takeLeastDown_23 rfl 1 rfl ?_
          refine kw_iload_n hC dX5_takeLeastDown_24 rfl 3 rfl ?_
          refine kw_callV hC (d_X5_goesAhead hD (by omega) (by omega) (by omega) (by omega) hRW2 (hr.eq (fun _ _ _ => rfl) rfl enW2) (by omega) (by omega)) gX5_takeLeastDown_X5_goesAhead ⟨_, rfl⟩ rfl (by decide) (by decide) rfl ⟨rfl, rfl⟩ 2 (by decide +kernel) ⟨by decide, by decide⟩ rfl rfl (Nat.le_of_ble_eq_true rfl) dX5_takeLeastDown_25 rfl (kd_i (fun r6 S6 hp6 => ?_))
          obtain ⟨hg6, hp6⟩ := hp6
          have hfS6 : Fr (fMs p) S S6 := hfW2.trans (hg6.mono (fun k i j h => by unfold fA at h; unfold fMs; omega))
          have hRS6 : CI S6 := hRS.fr (hfS6.mono (fun k i j h => by unfold fMs at h; unfold tC; omega))
          have hnS6 := hRS6.n
          have enS6 : S6 3 16 2 = S 3 16 2 := hfS6 3 16 2 (by unfold fMs; omega)
          have hb9 := hp6
          have e1_6 : S6 1 p 1 = W2 1 p 1 := hg6 1 p 1 (by unfold fA; omega)
          replace hr : WV (S6 2 p) (S6 1 p 1) (S 3 16 2) := hr.eq (fun j _ _ => hg6 2 p j (by unfold fA; omega)) e1_6 rfl
          refine kw_goto (tgt := 32) hC dX5_takeLeastDown_28 rfl (by decide) ?_
          refine kw_istore (lv' := [(4, _), (0, _), (1, _), (2, _), (3, _)]) hC dX5_takeLeastDown_32 rfl (by decide) rfl ?_
          refine kw_iload hC dX5_takeLeastDown_34 rfl 0 rfl ?_
          refine kw_bipush hC dX5_takeLeastDown_36 rfl (by decide) ?_
          refine kw_icmp_ne (tgt := 44) hC dX5_takeLeastDown_38 rfl (by decide) (by omega) (by omega) ⟨fun c38 => ?_, fun c38 => ?_⟩
          · refine kw_iload hC dX5_takeLeastDown_44 rfl 0 rfl ?_
            refine kw_iconst hC dX5_takeLeastDown_46 rfl ?_
            refine kw_icmp_eq (tgt := 58) hC dX5_takeLeastDown_47 rfl (by decide) (by omega) (by omega) ⟨fun c47 => ?_, fun c47 => ?_⟩
            · refine kw_iinc (lv' := [(3, _), (4, _), (0, _), (1, _), (2, _)]) hC dX5_takeLeastDown_58 rfl 4 rfl (by decide) rfl ?_
              refine kw_goto (tgt := 2) hC dX5_takeLeastDown_61 rfl (by decide) ?_
              refine kw_lv [2, 3, 4, 0] rfl ?_
              exact ih2 (s + 1) S6 hfS6 (by omega) (by omega) (by omega) hr (by omega) (by omega)
            · refine kw_aload_n hC dX5_takeLeastDown_50 rfl 2 rfl ?_
              refine kw_iload hC dX5_takeLeastDown_51 rfl 0 rfl ?_
              refine kw_callV hC (d_X6_removeAt hD (by omega) (by omega) (by omega) (by omega) (by omega)) gX5_takeLeastDown_X6_removeAt ⟨_, rfl⟩ rfl (by omega) (show (_ : Int) < 12 by omega) rfl ⟨rfl, rfl⟩ 1 (by decide +kernel) ⟨by decide, by decide⟩ rfl rfl (Nat.le_of_ble_eq_true rfl) dX5_takeLeastDown_53 rfl (kd_v (fun S9 hp9 => ?_))
              obtain ⟨hg9, hp9⟩ := hp9
              have hfS9 : Fr (fMs p) S S9 := hfS6.trans (hg9.mono (fun k i j h => by unfold fWd at h; unfold fMs; omega))
              have hRS9 : CI S9 := hRS.fr (hfS9.mono (fun k i j h => by unfold fMs at h; unfold tC; omega))
              have hnS9 := hRS9.n
              have enS9 : S9 3 16 2 = S 3 16 2 := hfS9 3 16 2 (by unfold fMs; omega)
              obtain ⟨y1, y2, y3⟩ := hp9
              replace hr : WV (S9 2 p) (S9 1 p 1) (S 3 16 2) := y1 ▸ WV.del hr y2 y3 (by omega)
              refine kw_iload_n hC dX5_takeLeastDown_56 rfl 4 rfl ?_
              exact hR9.1 rfl _ _ _ _ dX5_takeLeastDown_57 ⟨_, rfl, hfS9, by omega, hr, by omega⟩
          · refine kw_bipush hC dX5_takeLeastDown_41 rfl (by decide) ?_
            exact hR9.1 rfl _ _ _ _ dX5_takeLeastDown_43 ⟨_, rfl, hfS6, by omega, hr, by omega⟩
  refine kw_lv [1, 2, 3, 0] rfl ?_
  exact hL2 7 0 S hfS (by omega) (by omega) rfl hw (by omega) (by omega)

set_option maxHeartbeats 4000000 in
set_option maxRecDepth 100000 in
theorem d_X5_moveDowns {g : wG} (hD : wD g) {S : wSt} {p b q : Int} (p0 : 8 ≤ p) (p1 : p < 12) (q0 : 8 ≤ q) (q1 : q < 12) (hpq : p ≠ q) (hRS : CI S) (hw : WV (S 2 p) (S 1 p 1) (S 3 16 2)) (m0 : 0 ≤ S 1 p 1) (hv9 : WV (S 2 q) (S 1 q 1) (S 3 16 2)) (n0 : 0 ≤ S 1 q 1) (m1 : S 1 p 1 + S 1 q 1 ≤ 100) (l : Launch) : Kt l yX5_moveDowns wsX5_moveDowns ({ frames := 4, cells := 0, slots := 0, locals := 96 } : Room) g S [vr g 10 0, vr g 1 p, vi b, vr g 1 q] (pI (fun r S' => Fr (fMd p q) S S' ∧ ((r = 0 ∨ r = 1) ∧ (0 ≤ S' 1 p 1 ∧ 0 ≤ S' 1 q 1 ∧ S' 1 p 1 + S' 1 q 1 = S 1 p 1 + S 1 q 1) ∧ WV (S' 2 p) (S' 1 p 1) (S 3 16 2) ∧ WV (S' 2 q) (S' 1 q 1) (S 3 16 2)))) := by
  refine Kt.of (cc := cX5_moveDowns) (nL := 6) (ret := (some .boolean)) (own := RX5) rfl hD (by decide) rfl (Nat.le_of_ble_eq_true rfl) ⟨rfl, rfl⟩ ?_
  intro E hC hR9
  have f30 : Cond.fieldLink RX5 30 "MirrorBench$Word" "length" "I" ∈ wsX5_moveDowns := by decide +kernel
  have w6 : ∀ w ∈ wsX60, w ∈ wsX5_moveDowns := by decide +kernel
  show Wk E g 6 S 0 [(0, vr g 10 0), (1, vr g 1 p), (2, vi b), (3, vr g 1 q)] []
  have hfS : Fr (fMd p q) S S := Fr.rfl _ S
  have hRS : CI S := hRS.fr (hfS.mono (fun k i j h => by unfold fMd at h; unfold tC; omega))
  have hnS := hRS.n
  have enS : S 3 16 2 = S 3 16 2 := hfS 3 16 2 (by unfold fMd; omega)
  refine kw_aload_n hC dX5_moveDowns_0 rfl 1 rfl ?_
  refine kg_1_1 hC w6 f30 dX5_moveDowns_1 rfl (by omega) (by omega) ?_
  refine kw_istore (lv' := [(4, _), (0, _), (1, _), (2, _), (3, _)]) hC dX5_moveDowns_4 rfl (by decide) rfl ?_
  have hL6 : ∀ (n6 : Nat) (x : Int) (W6 : wSt), Fr (fMd p q) S W6 → (0 ≤ x) → (W6 1 p 1 = x) → (0 ≤ W6 1 q 1) → (W6 1 p 1 + W6 1 q 1 = S 1 p 1 + S 1 q 1) → (WV (W6 2 p) (W6 1 p 1) (S 3 16 2)) → (WV (W6 2 q) (W6 1 q 1) (S 3 16 2)) → x < (n6 : Int) → Wk E g 6 W6 6 [(0, vr g 10 0), (1, vr g 1 p), (2, vi b), (3, vr g 1 q), (4, vi x)] [] := by
    intro n6
    induction n6 with
    | zero => intro x W6 hfW6 x0 l0 l1 l2 hr hv hm6; exact absurd hm6 (by omega)
    | succ n6 ih6 =>
      intro x W6 hfW6 x0 l0 l1 l2 hr hv hm6
      have hRW6 : CI W6 := hRS.fr (hfW6.mono (fun k i j h => by unfold fMd at h; unfold tC; omega))
      have hnW6 := hRW6.n
      have enW6 : W6 3 16 2 = S 3 16 2 := hfW6 3 16 2 (by unfold fMd; omega)
      refine kw_iload hC dX5_moveDowns_6 rfl 4 rfl ?_
      refine kw_if_le (tgt := 48) hC dX5_moveDowns_8 rfl (by decide) (by omega) ⟨fun c8 => ?_, fun c8 => ?_⟩
      · refine kw_iconst hC dX5_moveDowns_48 rfl ?_
        exact hR9.2.1 rfl _ _ _ _ dX5_moveDowns_49 (by omega) ⟨_, rfl, hfW6, by omega, by omega, hr, hv⟩
      · refine kw_aload_n hC dX5_moveDowns_11 rfl 0 rfl ?_
        refine kw_aload_n hC dX5_moveDowns_12 rfl 1 rfl ?_
        refine kw_iload_n hC dX5_moveDowns_13 rfl 2 rfl ?_
        refine kw_callV hC (d_X5_takeLeastDown hD (by omega) (by omega) hRW6 (hr.eq (fun _ _ _ => rfl) rfl enW6) (by omega) (by omega)) gX5_moveDowns_X5_takeLeastDown ⟨_, rfl⟩ rfl (by decide) (by decide) rfl ⟨rfl, rfl⟩ 2 (by decide +kernel) ⟨by decide, by decide⟩ rfl rfl (Nat.le_of_ble_eq_true rfl) dX5_moveDowns_14 rfl (kd_i (fun r2 S2 hp2 => ?_))
        obtain ⟨hg2, hp2⟩ := hp2
        have hfS2 : Fr (fMd p q) S S2 := hfW6.trans (hg2.mono (fun k i j h => by unfold fMs at h; unfold fMd; omega))
        have hRS2 : CI S2 := hRS.fr (hfS2.mono (fun k i j h => by unfold fMd at h; unfold tC; omega))
        have hnS2 := hRS2.n
        have enS2 : S2 3 16 2 = S 3 16 2 := hfS2 3 16 2 (by unfold fMd; omega)
        obtain ⟨hb9, hr9, hc9⟩ := hp2
        have e1_2 : S2 1 q 1 = W6 1 q 1 := hg2 1 q 1 (by unfold fMs; omega)
        replace hr : WV (S2 2 p) (S2 1 p 1) (S 3 16 2) := hr9.eq (fun _ _ _ => rfl) rfl (by omega)
        replace hv : WV (S2 2 q) (S2 1 q 1) (S 3 16 2) := hv.eq (fun j _ _ => hg2 2 q j (by unfold fMs; omega)) e1_2 rfl
        refine kw_istore (lv' := [(5, _), (0, _), (1, _), (2, _), (3, _), (4, _)]) hC dX5_moveDowns_17 rfl (by decide) rfl ?_
        refine kw_iload hC dX5_moveDowns_19 rfl 0 rfl ?_
        refine kw_bipush hC dX5_moveDowns_21 rfl (by decide) ?_
        refine kw_icmp_ne (tgt := 28) hC dX5_moveDowns_23 rfl (by decide) (by omega) (by omega) ⟨fun c23 => ?_, fun c23 => ?_⟩
        · refine kw_iload hC dX5_moveDowns_28 rfl 0 rfl ?_
          refine kw_iconst hC dX5_moveDowns_30 rfl ?_
          refine kw_icmp_ne (tgt := 36) hC dX5_moveDowns_31 rfl (by decide) (by omega) (by omega) ⟨fun c31 => ?_, fun c31 => ?_⟩
          · refine kw_aload_n hC dX5_moveDowns_36 rfl 4 rfl ?_
            refine kw_iload hC dX5_moveDowns_37 rfl 0 rfl ?_
            refine kw_callV hC (d_X6_add hD (by omega) (by omega) (by omega) (by omega)) gX5_moveDowns_X6_add ⟨_, rfl⟩ rfl (by omega) (show (_ : Int) < 12 by omega) rfl ⟨rfl, rfl⟩ 1 (by decide +kernel) ⟨by decide, by decide⟩ rfl rfl (Nat.le_of_ble_eq_true rfl) dX5_moveDowns_39 rfl (kd_v (fun S5 hp5 => ?_))
            obtain ⟨hg5, hp5⟩ := hp5
            have hfS5 : Fr (fMd p q) S S5 := hfS2.trans (hg5.mono (fun k i j h => by unfold fWd at h; unfold fMd; omega))
            have hRS5 : CI S5 := hRS.fr (hfS5.mono (fun k i j h => by unfold fMd at h; unfold tC; omega))
            have hnS5 := hRS5.n
            have enS5 : S5 3 16 2 = S 3 16 2 := hfS5 3 16 2 (by unfold fMd; omega)
            obtain ⟨y1, y2, y3⟩ := hp5
            have e1_5 : S5 1 p 1 = S2 1 p 1 := hg5 1 p 1 (by unfold fWd; omega)
            replace hr : WV (S5 2 p) (S5 1 p 1) (S 3 16 2) := hr.eq (fun j _ _ => hg5 2 p j (by unfold fWd; omega)) e1_5 rfl
            replace hv : WV (S5 2 q) (S5 1 q 1) (S 3 16 2) := y1 ▸ hv.add (fun j hj => y3 j hj) (by rw [y2]; omega)
            refine kw_iinc (lv' := [(4, _), (5, _), (0, _), (1, _), (2, _), (3, _)]) hC dX5_moveDowns_42 rfl 5 rfl (by decide) rfl ?_
            refine kw_goto (tgt := 6) hC dX5_moveDowns_45 rfl (by decide) ?_
            refine kw_lv [2, 3, 4, 5, 0] rfl ?_
            exact ih6 (x + -1) S5 hfS5 (by omega) (by omega) (by omega) (by omega) hr hv (by omega)
          · refine kw_iconst hC dX5_moveDowns_34 rfl ?_
            exact hR9.2.1 rfl _ _ _ _ dX5_moveDowns_35 (by omega) ⟨_, rfl, hfS2, by omega, by omega, hr, hv⟩
        · refine kw_iconst hC dX5_moveDowns_26 rfl ?_
          exact hR9.2.1 rfl _ _ _ _ dX5_moveDowns_27 (by omega) ⟨_, rfl, hfS2, by omega, by omega, hr, hv⟩
  refine kw_lv [1, 2, 3, 4, 0] rfl ?_
  exact hL6 101 (S 1 p 1) S hfS (by omega) rfl (by omega) rfl hw hv9 (by omega)

set_option maxHeartbeats 4000000 in
set_option maxRecDepth 100000 in
theorem d_X5_makeForm {g : wG} (hD : wD g) {S : wSt} {p q : Int} (p0 : 0 ≤ p) (p1 : p < 11) (q0 : 8 ≤ q) (q1 : q < 11) (hRS : CI S) (hw : WV (S 2 p) (S 1 p 1) (S 3 16 2)) (m0 : 0 ≤ S 1 p 1) (m1 : S 1 p 1 ≤ 100) (l : Launch) : Kt l yX5_makeForm wsX5_makeForm ({ frames := 5, cells := 0, slots := 0, locals := 121 } : Room) g S [vr g 10 0, vr g 1 p, vr g 1 q] (pI (fun r S' => Fr (fMd 11 q) S S' ∧ ((r = 0 ∨ r = 1) ∧ (r = 1 → (0 ≤ S' 1 q 1 ∧ S' 1 q 1 ≤ S 1 p 1) ∧ WV (S' 2 q) (S' 1 q 1) (S 3 16 2))))) := by
  refine Kt.of (cc := cX5_makeForm) (nL := 3) (ret := (some .boolean)) (own := RX5) rfl hD (by decide) rfl (Nat.le_of_ble_eq_true rfl) ⟨rfl, rfl⟩ ?_
  intro E hC hR9
  have f18 : Cond.fieldLink RX5 18 "MirrorBench$Shortener" "rest" "LMirrorBench$Word;" ∈ wsX5_makeForm := by decide +kernel
  have f30 : Cond.fieldLink RX5 30 "MirrorBench$Word" "length" "I" ∈ wsX5_makeForm := by decide +kernel
  have w5 : ∀ w ∈ wsX50, w ∈ wsX5_makeForm := by decide +kernel
  have w6 : ∀ w ∈ wsX60, w ∈ wsX5_makeForm := by decide +kernel
  show Wk E g 3 S 0 [(0, vr g 10 0), (1, vr g 1 p), (2, vr g 1 q)] []
  have hfS : Fr (fMd 11 q) S S := Fr.rfl _ S
  have hRS : CI S := hRS.fr (hfS.mono (fun k i j h => by unfold fMd at h; unfold tC; omega))
  have hnS := hRS.n
  have enS : S 3 16 2 = S 3 16 2 := hfS 3 16 2 (by unfold fMd; omega)
  refine kw_aload_n hC dX5_makeForm_0 rfl 0 rfl ?_
  refine kw_aload_n hC dX5_makeForm_1 rfl 1 rfl ?_
  refine kw_aload_n hC dX5_makeForm_2 rfl 0 rfl ?_
  refine kg_10_2 hC w5 f18 dX5_makeForm_3 rfl (by decide) (by decide) ?_
  refine kw_callV hC (d_X5_makeShort hD (by omega) (by omega) (by omega) (by omega) (by omega) hRS hw (by omega) (by omega)) gX5_makeForm_X5_makeShort ⟨_, rfl⟩ rfl (by decide) (by decide) rfl ⟨rfl, rfl⟩ 2 (by decide +kernel) ⟨by decide, by decide⟩ rfl rfl (Nat.le_of_ble_eq_true rfl) dX5_makeForm_6 rfl (kd_i (fun r1 S1 hp1 => ?_))
  obtain ⟨hg1, hp1⟩ := hp1
  have hfS1 : Fr (fMd 11 q) S S1 := hfS.trans (hg1.mono (fun k i j h => by unfold fMs at h; unfold fMd; omega))
  have hRS1 : CI S1 := hRS.fr (hfS1.mono (fun k i j h => by unfold fMd at h; unfold tC; omega))
  have hnS1 := hRS1.n
  have enS1 : S1 3 16 2 = S 3 16 2 := hfS1 3 16 2 (by unfold fMd; omega)
  obtain ⟨hb1, ⟨l0, l1⟩, hr⟩ := hp1
  refine kw_if_ne (tgt := 14) hC dX5_makeForm_9 rfl (by decide) (by omega) ⟨fun c9 => ?_, fun c9 => ?_⟩
  · refine kw_aload_n hC dX5_makeForm_14 rfl 2 rfl ?_
    refine kw_iconst hC dX5_makeForm_15 rfl ?_
    refine kp_1_1 hC w6 f30 dX5_makeForm_16 rfl (by omega) (by omega) ?_
    refine kw_hv hfS1 (by unfold fMd; omega) (fun S3 hfS3 hv3 ho3 => ?_)
    have hRS3 : CI S3 := hRS.fr (hfS3.mono (fun k i j h => by unfold fMd at h; unfold tC; omega))
    have hnS3 := hRS3.n
    have enS3 : S3 3 16 2 = S 3 16 2 := hfS3 3 16 2 (by unfold fMd; omega)
    have lq := hv3
    have e11_3 : S3 1 11 1 = S1 1 11 1 := ho3 1 11 1 (by omega)
    replace hr : WV (S3 2 11) (S3 1 11 1) (S3 3 16 2) := hr.eq (fun j _ _ => ho3 2 11 j (by omega)) e11_3 enS3
    refine kw_aload_n hC dX5_makeForm_19 rfl 0 rfl ?_
    refine kw_aload_n hC dX5_makeForm_20 rfl 0 rfl ?_
    refine kg_10_2 hC w5 f18 dX5_makeForm_21 rfl (by decide) (by decide) ?_
    refine kw_bipush hC dX5_makeForm_24 rfl (by decide) ?_
    refine kw_aload_n hC dX5_makeForm_26 rfl 2 rfl ?_
    refine kw_callV hC (d_X5_moveDowns hD (by omega) (by omega) (by omega) (by omega) (by omega) hRS3 hr (by omega) (fun j _ _ => by omega) (by omega) (by omega)) gX5_makeForm_X5_moveDowns ⟨_, rfl⟩ rfl (by decide) (by decide) rfl ⟨rfl, rfl⟩ 3 (by decide +kernel) ⟨by decide, by decide⟩ rfl rfl (Nat.le_of_ble_eq_true rfl) dX5_makeForm_27 rfl (kd_i (fun r4 S4 hp4 => ?_))
    obtain ⟨hg4, hp4⟩ := hp4
    have hfS4 : Fr (fMd 11 q) S S4 := hfS3.trans (hg4.mono (fun k i j h => by unfold fMd at h; unfold fMd; omega))
    have hRS4 : CI S4 := hRS.fr (hfS4.mono (fun k i j h => by unfold fMd at h; unfold tC; omega))
    have hnS4 := hRS4.n
    have enS4 : S4 3 16 2 = S 3 16 2 := hfS4 3 16 2 (by unfold fMd; omega)
    obtain ⟨hb4, ⟨f0, f1, f2⟩, hr2, hv⟩ := hp4
    exact hR9.2.1 rfl _ _ _ _ dX5_makeForm_30 (by omega) (by first | exact ⟨_, rfl, hfS4, by omega, fun q => by omega⟩ | exact ⟨_, rfl, hfS4, by omega, fun q => ⟨⟨by omega, by omega⟩, hv.eq (fun _ _ _ => rfl) rfl (by omega)⟩⟩)
  · refine kw_iconst hC dX5_makeForm_12 rfl ?_
    exact hR9.2.1 rfl _ _ _ _ dX5_makeForm_13 (by omega) (by first | exact ⟨_, rfl, hfS1, by omega, fun q => by omega⟩ | exact ⟨_, rfl, hfS1, by omega, fun q => ⟨⟨by omega, by omega⟩, hv.eq (fun _ _ _ => rfl) rfl (by omega)⟩⟩)

set_option maxHeartbeats 4000000 in
set_option maxRecDepth 100000 in
theorem d_X5_leastUp {g : wG} (hD : wD g) {S : wSt} {p : Int} (p0 : 0 ≤ p) (p1 : p < 12) (hRS : CI S) (hw : WV (S 2 p) (S 1 p 1) (S 3 16 2)) (m0 : 0 ≤ S 1 p 1) (m1 : S 1 p 1 ≤ 100) (l : Launch) : Kt l yX5_leastUp wsX5_leastUp ({ frames := 3, cells := 0, slots := 0, locals := 72 } : Room) g S [vr g 10 0, vr g 1 p] (pI (fun r S' => Fr fA S S' ∧ ((-1 ≤ r ∧ r < S 3 16 2) ∧ (0 ≤ r → ∀ L, RLi (mxz (S 5 16)) (S 3 16 2).toNat L → NB (mxz (S 5 16)) (S 3 16 2).toNat (wl (S 2 p) (S 1 p 1).toNat) r.toNat)))) := by
  refine Kt.of (cc := cX5_leastUp) (nL := 3) (ret := (some .int)) (own := RX5) rfl hD (by decide) rfl (Nat.le_of_ble_eq_true rfl) ⟨rfl, rfl⟩ ?_
  intro E hC hR9
  have f22 : Cond.fieldLink RX5 22 "MirrorBench$Shortener" "set" "LMirrorBench$Mirrors;" ∈ wsX5_leastUp := by decide +kernel
  have f69 : Cond.fieldLink RX5 69 "MirrorBench$Mirrors" "size" "I" ∈ wsX5_leastUp := by decide +kernel
  have w3 : ∀ w ∈ wsX30, w ∈ wsX5_leastUp := by decide +kernel
  have w5 : ∀ w ∈ wsX50, w ∈ wsX5_leastUp := by decide +kernel
  show Wk E g 3 S 0 [(0, vr g 10 0), (1, vr g 1 p)] []
  have hfS : Fr fA S S := Fr.rfl _ S
  have hRS := hRS.fr (hfS.mono (fun k i j h => by unfold fA at h; unfold tC; omega))
  have hnS := hRS.n
  have enS : S 3 16 2 = S 3 16 2 := hfS 3 16 2 (by unfold fA; omega)
  refine kw_iconst hC dX5_leastUp_0 rfl ?_
  refine kw_istore_n (lv' := [(2, _), (0, _), (1, _)]) hC dX5_leastUp_1 rfl (by decide) rfl ?_
  have hL2 : ∀ (n2 : Nat) (s : Int) (W2 : wSt), Fr fA S W2 → (0 ≤ s) → (s ≤ S 3 16 2) → (s ≤ 6) → 6 - s < (n2 : Int) → Wk E g 3 W2 2 [(0, vr g 10 0), (1, vr g 1 p), (2, vi s)] [] := by
    intro n2
    induction n2 with
    | zero => intro s W2 hfW2 s0 s1 s6 hm2; exact absurd hm2 (by omega)
    | succ n2 ih2 =>
      intro s W2 hfW2 s0 s1 s6 hm2
      have hRW2 := hRS.fr (hfW2.mono (fun k i j h => by unfold fA at h; unfold tC; omega))
      have hnW2 := hRW2.n
      have enW2 : W2 3 16 2 = S 3 16 2 := hfW2 3 16 2 (by unfold fA; omega)
      refine kw_iload_n hC dX5_leastUp_2 rfl 2 rfl ?_
      refine kw_aload_n hC dX5_leastUp_3 rfl 0 rfl ?_
      refine kg_10_0 hC w5 f22 dX5_leastUp_4 rfl (by decide) (by decide) ?_
      refine kg_3_2 hC w3 f69 dX5_leastUp_7 rfl (by omega) (by omega) ?_
      refine kw_icmp_ge (tgt := 31) hC dX5_leastUp_10 rfl (by decide) (by omega) (by omega) ⟨fun c10 => ?_, fun c10 => ?_⟩
      · refine kw_iconst hC dX5_leastUp_31 rfl ?_
        exact hR9.1 rfl _ _ _ _ dX5_leastUp_32 ⟨_, rfl, hfW2, ⟨by omega, by omega⟩, fun q => by omega⟩
      · refine kw_aload_n hC dX5_leastUp_13 rfl 0 rfl ?_
        refine kw_aload_n hC dX5_leastUp_14 rfl 1 rfl ?_
        refine kw_iload_n hC dX5_leastUp_15 rfl 2 rfl ?_
        refine kw_callV hC (d_X5_goesBehind hD (by omega) (by omega) (by omega) (by omega) hRW2 (hw.eq (fun j _ _ => hfW2 2 p j (by unfold fA; omega)) (hfW2 1 p 1 (by unfold fA; omega)) enW2) (by rw [hfW2 1 p 1 (by unfold fA; omega)]; omega) (by rw [hfW2 1 p 1 (by unfold fA; omega)]; omega)) gX5_leastUp_X5_goesBehind ⟨_, rfl⟩ rfl (by decide) (by decide) rfl ⟨rfl, rfl⟩ 2 (by decide +kernel) ⟨by decide, by decide⟩ rfl rfl (Nat.le_of_ble_eq_true rfl) dX5_leastUp_16 rfl (kd_i (fun r2 S2 hp2 => ?_))
        obtain ⟨hg2, hp2⟩ := hp2
        have hfS2 : Fr fA S S2 := hfW2.trans hg2
        have hRS2 := hRS.fr (hfS2.mono (fun k i j h => by unfold fA at h; unfold tC; omega))
        have hnS2 := hRS2.n
        have enS2 : S2 3 16 2 = S 3 16 2 := hfS2 3 16 2 (by unfold fA; omega)
        obtain ⟨hb9, hT9⟩ := hp2
        rw [enW2, show W2 5 16 = S 5 16 from funext fun j => hfW2 5 16 j (by unfold fA; omega), show W2 2 p = S 2 p from funext fun j => hfW2 2 p j (by unfold fA; omega), hfW2 1 p 1 (by unfold fA; omega)] at hT9
        have e1_2 : W2 1 p 1 = S 1 p 1 := hfW2 1 p 1 (by unfold fA; omega)
        refine kw_iconst hC dX5_leastUp_19 rfl ?_
        refine kw_icmp_ne (tgt := 25) hC dX5_leastUp_20 rfl (by decide) (by omega) (by omega) ⟨fun c20 => ?_, fun c20 => ?_⟩
        · refine kw_iinc (lv' := [(2, _), (0, _), (1, _)]) hC dX5_leastUp_25 rfl 2 rfl (by decide) rfl ?_
          refine kw_goto (tgt := 2) hC dX5_leastUp_28 rfl (by decide) ?_
          refine kw_lv [1, 2, 0] rfl ?_
          exact ih2 (s + 1) S2 hfS2 (by omega) (by omega) (by omega) (by omega)
        · refine kw_iload_n hC dX5_leastUp_23 rfl 2 rfl ?_
          exact hR9.1 rfl _ _ _ _ dX5_leastUp_24 ⟨_, rfl, hfS2, ⟨by omega, by omega⟩, fun _ L hL => (hT9 L hL).2 (by omega)⟩
  refine kw_lv [1, 2, 0] rfl ?_
  exact hL2 7 0 S hfS (by omega) (by omega) (by omega) (by omega)
