def fW (k : Nat) (i j : Int) : Prop := k = 55 ∨ k = 47 ∨ k = 49 ∨ k = 53 ∨ (k = 30 ∧ (j = 16 ∨ j = 8 ∨ j = 10 ∨ j = 14))

def fL (k : Nat) (i j : Int) : Prop := k = 53 ∨ (k = 30 ∧ j = 14)

def fX (k : Nat) (i j : Int) : Prop := k = 51 ∨ (k = 30 ∧ j = 12)

def fV (k : Nat) (i j : Int) : Prop := k = 45 ∨ k = 46

set_option maxHeartbeats 4000000 in
set_option maxRecDepth 100000 in
theorem d_X8_formOfW {g : wG} (hD : wD g) {S : wSt} (hRS : RI S) (hw : WV (S 53 0) (S 30 0 14) (S 30 0 0)) (m0 : 0 ≤ S 30 0 14) (m1 : S 30 0 14 ≤ 200) (l : Launch) : Kt l yX8_formOfW wsX8_formOfW ({ frames := 4, cells := 0, slots := 0, locals := 93 } : Room) g S [vr g 30 0] (pI (fun r S' => Fr fW S S' ∧ ((r = 0 ∨ r = 1) ∧ (0 ≤ S' 30 0 14 ∧ S' 30 0 14 ≤ S 30 0 14) ∧ WV (S' 53 0) (S' 30 0 14) (S 30 0 0) ∧ (S' 30 0 16 = 0 ∨ S' 30 0 16 = 1)))) := by
  refine Kt.of (cc := cX8_formOfW) (nL := 2) (ret := (some .boolean)) (own := RX8) rfl hD (by decide) rfl (Nat.le_of_ble_eq_true rfl) ⟨rfl, rfl⟩ ?_
  intro E hC hR9
  have f57 : Cond.fieldLink RX8 57 "MirrorBenchModel" "wMany" "I" ∈ wsX8_formOfW := by decide +kernel
  have f60 : Cond.fieldLink RX8 60 "MirrorBenchModel" "w" "[I" ∈ wsX8_formOfW := by decide +kernel
  have f110 : Cond.fieldLink RX8 110 "MirrorBenchModel" "fMany" "I" ∈ wsX8_formOfW := by decide +kernel
  have f116 : Cond.fieldLink RX8 116 "MirrorBenchModel" "f" "[I" ∈ wsX8_formOfW := by decide +kernel
  have w8 : ∀ w ∈ wsX80, w ∈ wsX8_formOfW := by decide +kernel
  show Wk E g 2 S 0 [(0, vr g 30 0)] []
  have hfS : Fr fW S S := Fr.rfl _ S
  have hRS := hRS.fr (hfS.mono (fun k i j h => by unfold fW at h; unfold tR; omega))
  have hnS := hRS.n
  have enS : S 30 0 0 = S 30 0 0 := hfS 30 0 0 (by unfold fW; omega)
  refine kw_aload_n hC dX8_formOfW_0 rfl 0 rfl ?_
  refine kw_callV hC (d_X8_shortOf hD hRS hw m0 m1) gX8_formOfW_X8_shortOf ⟨_, rfl⟩ rfl (by decide) (by decide) rfl ⟨rfl, rfl⟩ 0 (by decide +kernel) ⟨by decide, by decide⟩ rfl rfl (Nat.le_of_ble_eq_true rfl) dX8_formOfW_1 rfl (kd_i (fun r1 S1 hp1 => ?_))
  obtain ⟨hg1, hp1⟩ := hp1
  have hfS1 : Fr fW S S1 := hfS.trans (hg1.mono (fun k i j h => by unfold fS at h; unfold fW; omega))
  have hRS1 := hRS.fr (hfS1.mono (fun k i j h => by unfold fW at h; unfold tR; omega))
  have hnS1 := hRS1.n
  have enS1 : S1 30 0 0 = S 30 0 0 := hfS1 30 0 0 (by unfold fW; omega)
  obtain ⟨hr01, ⟨r0, r1⟩, hr, hgA⟩ := hp1
  have e14 : S1 30 0 14 = S 30 0 14 := hg1 30 0 14 (by unfold fS; omega)
  have hw1 : WV (S1 53 0) (S1 30 0 14) (S 30 0 0) := hw.eq (fun j _ _ => hg1 53 0 j (by unfold fS; omega)) e14 rfl
  refine kw_if_eq (tgt := 14) hC dX8_formOfW_4 rfl (by decide) (by omega) ⟨fun c4 => ?_, fun c4 => ?_⟩
  · refine kw_iconst hC dX8_formOfW_14 rfl ?_
    exact hR9.2.1 rfl _ _ _ _ dX8_formOfW_15 (by omega) (by first | exact ⟨_, rfl, hfS1, by omega, ⟨by omega, by omega⟩, hw2, hgd⟩ | exact ⟨_, rfl, hfS1, by omega, ⟨by omega, by omega⟩, hw1, hgA⟩)
  · refine kw_aload_n hC dX8_formOfW_7 rfl 0 rfl ?_
    refine kw_callV hC (d_X8_formOfR hD hRS1 (hr.eq (fun _ _ _ => rfl) rfl enS1) (by omega) (by omega)) gX8_formOfW_X8_formOfR ⟨_, rfl⟩ rfl (by decide) (by decide) rfl ⟨rfl, rfl⟩ 0 (by decide +kernel) ⟨by decide, by decide⟩ rfl rfl (Nat.le_of_ble_eq_true rfl) dX8_formOfW_8 rfl (kd_i (fun r3 S3 hp3 => ?_))
    obtain ⟨hg3, hp3⟩ := hp3
    have hfS3 : Fr fW S S3 := hfS1.trans (hg3.mono (fun k i j h => by unfold fF at h; unfold fW; omega))
    have hRS3 := hRS.fr (hfS3.mono (fun k i j h => by unfold fW at h; unfold tR; omega))
    have hnS3 := hRS3.n
    have enS3 : S3 30 0 0 = S 30 0 0 := hfS3 30 0 0 (by unfold fW; omega)
    obtain ⟨hf01, ⟨t0, t1⟩, hff, hgd⟩ := hp3
    have e14b : S3 30 0 14 = S1 30 0 14 := hg3 30 0 14 (by unfold fF; omega)
    have hw2 : WV (S3 53 0) (S3 30 0 14) (S 30 0 0) := hw1.eq (fun j _ _ => hg3 53 0 j (by unfold fF; omega)) e14b rfl
    have hff1 : WV (S3 49 0) (S3 30 0 10) (S 30 0 0) := hff.eq (fun _ _ _ => rfl) rfl (by omega)
    refine kw_if_ne (tgt := 16) hC dX8_formOfW_11 rfl (by decide) (by omega) ⟨fun c11 => ?_, fun c11 => ?_⟩
    · refine kw_aload_n hC dX8_formOfW_16 rfl 0 rfl ?_
      refine kw_aload_n hC dX8_formOfW_17 rfl 0 rfl ?_
      refine kg_30_10 hC w8 f110 dX8_formOfW_18 rfl (by decide) (by decide) ?_
      refine kp_30_14 hC w8 f57 dX8_formOfW_21 rfl (by decide) (by decide) ?_
      refine kw_hv hfS3 (by unfold fW; omega) (fun S5 hfS5 hv5 ho5 => ?_)
      have hRS5 := hRS.fr (hfS5.mono (fun k i j h => by unfold fW at h; unfold tR; omega))
      have hnS5 := hRS5.n
      have enS5 : S5 30 0 0 = S 30 0 0 := hfS5 30 0 0 (by unfold fW; omega)
      have hff2 : WV (S5 49 0) (S5 30 0 10) (S 30 0 0) := hff1.eq (fun j _ _ => ho5 49 0 j (by omega)) (ho5 30 0 10 (by omega)) rfl
      have hg2 : S5 30 0 16 = 0 ∨ S5 30 0 16 = 1 := by rw [ho5 30 0 16 (by omega)]; exact hgd
      have q10 : S5 30 0 10 = S3 30 0 10 := ho5 30 0 10 (by omega)
      have q14 := hv5
      refine kw_iconst hC dX8_formOfW_24 rfl ?_
      refine kw_istore_n (lv' := [(1, _), (0, _)]) hC dX8_formOfW_25 rfl (by decide) rfl ?_
      have hL26 : ∀ (n26 : Nat) (x : Int) (W26 : wSt), Fr fW S W26 → (0 ≤ x) → (W26 30 0 14 = W26 30 0 10) → (W26 30 0 10 ≤ S 30 0 14) → (x ≤ W26 30 0 10) → (WV (W26 49 0) (W26 30 0 10) (S 30 0 0)) → (WV (W26 53 0) x (S 30 0 0)) → (W26 30 0 16 = 0 ∨ W26 30 0 16 = 1) → W26 30 0 10 - x < (n26 : Int) → Wk E g 2 W26 26 [(0, vr g 30 0), (1, vi x)] [] := by
        intro n26
        induction n26 with
        | zero => intro x W26 hfW26 hx0 q14 q10 hx1 hff h3 hgw hm26; exact absurd hm26 (by omega)
        | succ n26 ih26 =>
          intro x W26 hfW26 hx0 q14 q10 hx1 hff h3 hgw hm26
          have hRW26 := hRS.fr (hfW26.mono (fun k i j h => by unfold fW at h; unfold tR; omega))
          have hnW26 := hRW26.n
          have enW26 : W26 30 0 0 = S 30 0 0 := hfW26 30 0 0 (by unfold fW; omega)
          refine kw_iload_n hC dX8_formOfW_26 rfl 1 rfl ?_
          refine kw_aload_n hC dX8_formOfW_27 rfl 0 rfl ?_
          refine kg_30_10 hC w8 f110 dX8_formOfW_28 rfl (by decide) (by decide) ?_
          refine kw_icmp_ge (tgt := 52) hC dX8_formOfW_31 rfl (by decide) (by omega) (by omega) ⟨fun c31 => ?_, fun c31 => ?_⟩
          · refine kw_iconst hC dX8_formOfW_52 rfl ?_
            exact hR9.2.1 rfl _ _ _ _ dX8_formOfW_53 (by omega) ⟨_, rfl, hfW26, by omega, ⟨by omega, by omega⟩, h3.eq (fun _ _ _ => rfl) (by omega) rfl, hgw⟩
          · refine kw_aload_n hC dX8_formOfW_34 rfl 0 rfl ?_
            refine kg_30_13 hC w8 f60 dX8_formOfW_35 rfl (by decide) (by decide) ?_
            refine kw_iload_n hC dX8_formOfW_38 rfl 1 rfl ?_
            refine kw_aload_n hC dX8_formOfW_39 rfl 0 rfl ?_
            refine kg_30_9 hC w8 f116 dX8_formOfW_40 rfl (by decide) (by decide) ?_
            refine kw_iload_n hC dX8_formOfW_43 rfl 1 rfl ?_
            refine ka_49 hC dX8_formOfW_44 rfl (by decide) (by decide) (by omega) (by omega) ?_
            refine ks_53 hC dX8_formOfW_45 rfl (by decide) (by decide) (by omega) (by omega) ?_
            refine kw_hv hfW26 (by unfold fW; omega) (fun S7 hfS7 hv7 ho7 => ?_)
            have hRS7 := hRS.fr (hfS7.mono (fun k i j h => by unfold fW at h; unfold tR; omega))
            have hnS7 := hRS7.n
            have enS7 : S7 30 0 0 = S 30 0 0 := hfS7 30 0 0 (by unfold fW; omega)
            refine kw_iinc (lv' := [(1, _), (0, _)]) hC dX8_formOfW_46 rfl 1 rfl (by decide) rfl ?_
            refine kw_goto (tgt := 26) hC dX8_formOfW_49 rfl (by decide) ?_
            refine kw_lv [1, 0] rfl ?_
            exact ih26 (x + 1) S7 hfS7 (by omega) (by rw [ho7 30 0 14 (by omega), ho7 30 0 10 (by omega)]; exact q14) (by rw [ho7 30 0 10 (by omega)]; exact q10) (by rw [ho7 30 0 10 (by omega)]; omega) (hff.eq (fun j _ _ => ho7 49 0 j (by omega)) (ho7 30 0 10 (by omega)) rfl) (h3.add (fun j hj => ho7 53 0 j (by omega)) (by rw [hv7]; exact hff x hx0 (by omega))) (by rw [ho7 30 0 16 (by omega)]; exact hgw) (by rw [ho7 30 0 10 (by omega)]; omega)
      refine kw_lv [1, 0] rfl ?_
      exact hL26 201 0 S5 hfS5 (by omega) (by omega) (by omega) (by omega) hff2 (fun j _ _ => by omega) hg2 (by omega)
    · refine kw_iconst hC dX8_formOfW_14 rfl ?_
      exact hR9.2.1 rfl _ _ _ _ dX8_formOfW_15 (by omega) (by first | exact ⟨_, rfl, hfS3, by omega, ⟨by omega, by omega⟩, hw2, hgd⟩ | exact ⟨_, rfl, hfS3, by omega, ⟨by omega, by omega⟩, hw1, hgA⟩)

set_option maxHeartbeats 4000000 in
set_option maxRecDepth 100000 in
theorem d_X8_rToW {g : wG} (hD : wD g) {S : wSt} (m0 : 0 ≤ S 30 0 8) (m1 : S 30 0 8 ≤ 200) (l : Launch) : Kt l yX8_rToW wsX8_rToW ({ frames := 0, cells := 0, slots := 0, locals := 0 } : Room) g S [vr g 30 0] (pV (fun S' => Fr fL S S' ∧ (S' 30 0 14 = S 30 0 8 ∧ ∀ j, 0 ≤ j → j < S 30 0 8 → S' 53 0 j = S 47 0 j))) := by
  refine Kt.of (cc := cX8_rToW) (nL := 2) (ret := none) (own := RX8) rfl hD (by decide) rfl (Nat.le_of_ble_eq_true rfl) ⟨rfl, rfl⟩ ?_
  intro E hC hR9
  have f57 : Cond.fieldLink RX8 57 "MirrorBenchModel" "wMany" "I" ∈ wsX8_rToW := by decide +kernel
  have f60 : Cond.fieldLink RX8 60 "MirrorBenchModel" "w" "[I" ∈ wsX8_rToW := by decide +kernel
  have f92 : Cond.fieldLink RX8 92 "MirrorBenchModel" "rMany" "I" ∈ wsX8_rToW := by decide +kernel
  have f95 : Cond.fieldLink RX8 95 "MirrorBenchModel" "r" "[I" ∈ wsX8_rToW := by decide +kernel
  have w8 : ∀ w ∈ wsX80, w ∈ wsX8_rToW := by decide +kernel
  show Wk E g 2 S 0 [(0, vr g 30 0)] []
  have hfS : Fr fL S S := Fr.rfl _ S
  refine kw_aload_n hC dX8_rToW_0 rfl 0 rfl ?_
  refine kw_aload_n hC dX8_rToW_1 rfl 0 rfl ?_
  refine kg_30_8 hC w8 f92 dX8_rToW_2 rfl (by decide) (by decide) ?_
  refine kp_30_14 hC w8 f57 dX8_rToW_5 rfl (by decide) (by decide) ?_
  refine kw_hv hfS (by unfold fL; omega) (fun S1 hfS1 hv1 ho1 => ?_)
  refine kw_iconst hC dX8_rToW_8 rfl ?_
  refine kw_istore_n (lv' := [(1, _), (0, _)]) hC dX8_rToW_9 rfl (by decide) rfl ?_
  have hL10 : ∀ (n10 : Nat) (x : Int) (W10 : wSt), Fr fL S W10 → (0 ≤ x) → (x ≤ S 30 0 8) → (W10 30 0 14 = S 30 0 8) → (∀ j, 0 ≤ j → j < x → W10 53 0 j = S 47 0 j) → S 30 0 8 - x < (n10 : Int) → Wk E g 2 W10 10 [(0, vr g 30 0), (1, vi x)] [] := by
    intro n10
    induction n10 with
    | zero => intro x W10 hfW10 hx0 hx1 q1 h3 hm10; exact absurd hm10 (by omega)
    | succ n10 ih10 =>
      intro x W10 hfW10 hx0 hx1 q1 h3 hm10
      have es : W10 30 0 8 = S 30 0 8 := hfW10 30 0 8 (by unfold fL; omega)
      have ea : ∀ j, W10 47 0 j = S 47 0 j := fun j => hfW10 47 0 j (by unfold fL; omega)
      refine kw_iload_n hC dX8_rToW_10 rfl 1 rfl ?_
      refine kw_aload_n hC dX8_rToW_11 rfl 0 rfl ?_
      refine kg_30_8 hC w8 f92 dX8_rToW_12 rfl (by decide) (by decide) ?_
      refine kw_icmp_ge (tgt := 36) hC dX8_rToW_15 rfl (by decide) (by omega) (by omega) ⟨fun c15 => ?_, fun c15 => ?_⟩
      · exact hR9.2.2.2 rfl _ _ _ dX8_rToW_36 ⟨rfl, hfW10, q1, fun j j0 j1 => h3 j j0 (by omega)⟩
      · refine kw_aload_n hC dX8_rToW_18 rfl 0 rfl ?_
        refine kg_30_13 hC w8 f60 dX8_rToW_19 rfl (by decide) (by decide) ?_
        refine kw_iload_n hC dX8_rToW_22 rfl 1 rfl ?_
        refine kw_aload_n hC dX8_rToW_23 rfl 0 rfl ?_
        refine kg_30_7 hC w8 f95 dX8_rToW_24 rfl (by decide) (by decide) ?_
        refine kw_iload_n hC dX8_rToW_27 rfl 1 rfl ?_
        refine ka_47 hC dX8_rToW_28 rfl (by decide) (by decide) (by omega) (by omega) ?_
        refine ks_53 hC dX8_rToW_29 rfl (by decide) (by decide) (by omega) (by omega) ?_
        refine kw_hv hfW10 (by unfold fL; omega) (fun S3 hfS3 hv3 ho3 => ?_)
        refine kw_iinc (lv' := [(1, _), (0, _)]) hC dX8_rToW_30 rfl 1 rfl (by decide) rfl ?_
        refine kw_goto (tgt := 10) hC dX8_rToW_33 rfl (by decide) ?_
        refine kw_lv [1, 0] rfl ?_
        exact ih10 (x + 1) S3 hfS3 (by omega) (by omega) (by rw [ho3 30 0 14 (by omega)]; exact q1) (fun j j0 j1 => by rcases Decidable.em (j = x) with e | e; exact (by rw [e, hv3]; exact ea x); exact (by rw [ho3 53 0 j (by omega)]; exact h3 j j0 (by omega))) (by omega)
  refine kw_lv [1, 0] rfl ?_
  exact hL10 201 0 S1 hfS1 (by omega) (by omega) (by have := hv1; omega) (fun j _ _ => by omega) (by omega)

set_option maxHeartbeats 4000000 in
set_option maxRecDepth 100000 in
theorem d_X8_wToV {g : wG} (hD : wD g) {S : wSt} (m0 : 0 ≤ S 30 0 14) (m1 : S 30 0 14 ≤ 200) (l : Launch) : Kt l yX8_wToV wsX8_wToV ({ frames := 0, cells := 0, slots := 0, locals := 0 } : Room) g S [vr g 30 0] (pV (fun S' => Fr fX S S' ∧ (S' 30 0 12 = S 30 0 14 ∧ ∀ j, 0 ≤ j → j < S 30 0 14 → S' 51 0 j = S 53 0 j))) := by
  refine Kt.of (cc := cX8_wToV) (nL := 2) (ret := none) (own := RX8) rfl hD (by decide) rfl (Nat.le_of_ble_eq_true rfl) ⟨rfl, rfl⟩ ?_
  intro E hC hR9
  have f57 : Cond.fieldLink RX8 57 "MirrorBenchModel" "wMany" "I" ∈ wsX8_wToV := by decide +kernel
  have f60 : Cond.fieldLink RX8 60 "MirrorBenchModel" "w" "[I" ∈ wsX8_wToV := by decide +kernel
  have f126 : Cond.fieldLink RX8 126 "MirrorBenchModel" "vMany" "I" ∈ wsX8_wToV := by decide +kernel
  have f129 : Cond.fieldLink RX8 129 "MirrorBenchModel" "v" "[I" ∈ wsX8_wToV := by decide +kernel
  have w8 : ∀ w ∈ wsX80, w ∈ wsX8_wToV := by decide +kernel
  show Wk E g 2 S 0 [(0, vr g 30 0)] []
  have hfS : Fr fX S S := Fr.rfl _ S
  refine kw_aload_n hC dX8_wToV_0 rfl 0 rfl ?_
  refine kw_aload_n hC dX8_wToV_1 rfl 0 rfl ?_
  refine kg_30_14 hC w8 f57 dX8_wToV_2 rfl (by decide) (by decide) ?_
  refine kp_30_12 hC w8 f126 dX8_wToV_5 rfl (by decide) (by decide) ?_
  refine kw_hv hfS (by unfold fX; omega) (fun S1 hfS1 hv1 ho1 => ?_)
  refine kw_iconst hC dX8_wToV_8 rfl ?_
  refine kw_istore_n (lv' := [(1, _), (0, _)]) hC dX8_wToV_9 rfl (by decide) rfl ?_
  have hL10 : ∀ (n10 : Nat) (x : Int) (W10 : wSt), Fr fX S W10 → (0 ≤ x) → (x ≤ S 30 0 14) → (W10 30 0 12 = S 30 0 14) → (∀ j, 0 ≤ j → j < x → W10 51 0 j = S 53 0 j) → S 30 0 14 - x < (n10 : Int) → Wk E g 2 W10 10 [(0, vr g 30 0), (1, vi x)] [] := by
    intro n10
    induction n10 with
    | zero => intro x W10 hfW10 hx0 hx1 q1 h3 hm10; exact absurd hm10 (by omega)
    | succ n10 ih10 =>
      intro x W10 hfW10 hx0 hx1 q1 h3 hm10
      have es : W10 30 0 14 = S 30 0 14 := hfW10 30 0 14 (by unfold fX; omega)
      have ea : ∀ j, W10 53 0 j = S 53 0 j := fun j => hfW10 53 0 j (by unfold fX; omega)
      refine kw_iload_n hC dX8_wToV_10 rfl 1 rfl ?_
      refine kw_aload_n hC dX8_wToV_11 rfl 0 rfl ?_
      refine kg_30_14 hC w8 f57 dX8_wToV_12 rfl (by decide) (by decide) ?_
      refine kw_icmp_ge (tgt := 36) hC dX8_wToV_15 rfl (by decide) (by omega) (by omega) ⟨fun c15 => ?_, fun c15 => ?_⟩
      · exact hR9.2.2.2 rfl _ _ _ dX8_wToV_36 ⟨rfl, hfW10, q1, fun j j0 j1 => h3 j j0 (by omega)⟩
      · refine kw_aload_n hC dX8_wToV_18 rfl 0 rfl ?_
        refine kg_30_11 hC w8 f129 dX8_wToV_19 rfl (by decide) (by decide) ?_
        refine kw_iload_n hC dX8_wToV_22 rfl 1 rfl ?_
        refine kw_aload_n hC dX8_wToV_23 rfl 0 rfl ?_
        refine kg_30_13 hC w8 f60 dX8_wToV_24 rfl (by decide) (by decide) ?_
        refine kw_iload_n hC dX8_wToV_27 rfl 1 rfl ?_
        refine ka_53 hC dX8_wToV_28 rfl (by decide) (by decide) (by omega) (by omega) ?_
        refine ks_51 hC dX8_wToV_29 rfl (by decide) (by decide) (by omega) (by omega) ?_
        refine kw_hv hfW10 (by unfold fX; omega) (fun S3 hfS3 hv3 ho3 => ?_)
        refine kw_iinc (lv' := [(1, _), (0, _)]) hC dX8_wToV_30 rfl 1 rfl (by decide) rfl ?_
        refine kw_goto (tgt := 10) hC dX8_wToV_33 rfl (by decide) ?_
        refine kw_lv [1, 0] rfl ?_
        exact ih10 (x + 1) S3 hfS3 (by omega) (by omega) (by rw [ho3 30 0 12 (by omega)]; exact q1) (fun j j0 j1 => by rcases Decidable.em (j = x) with e | e; exact (by rw [e, hv3]; exact ea x); exact (by rw [ho3 51 0 j (by omega)]; exact h3 j j0 (by omega))) (by omega)
  refine kw_lv [1, 0] rfl ?_
  exact hL10 201 0 S1 hfS1 (by omega) (by omega) (by have := hv1; omega) (fun j _ _ => by omega) (by omega)

set_option maxHeartbeats 4000000 in
set_option maxRecDepth 100000 in
theorem d_X8_load {g : wG} (hD : wD g) {S : wSt} {a : Int} (a0 : 0 ≤ a) (a1 : a < 8) (hRS : RI S) (l : Launch) : Kt l yX8_load wsX8_load ({ frames := 0, cells := 0, slots := 0, locals := 0 } : Room) g S [vr g 30 0, vi a] (pV (fun S' => Fr fL S S' ∧ (S' 30 0 14 = S 46 0 a ∧ ∀ j, 0 ≤ j → j < S 46 0 a → S' 53 0 j = S 45 0 (100 * a + j)))) := by
  refine Kt.of (cc := cX8_load) (nL := 3) (ret := none) (own := RX8) rfl hD (by decide) rfl (Nat.le_of_ble_eq_true rfl) ⟨rfl, rfl⟩ ?_
  intro E hC hR9
  have f43 : Cond.fieldLink RX8 43 "MirrorBenchModel" "lengths" "[I" ∈ wsX8_load := by decide +kernel
  have f52 : Cond.fieldLink RX8 52 "MirrorBenchModel" "words" "[I" ∈ wsX8_load := by decide +kernel
  have f57 : Cond.fieldLink RX8 57 "MirrorBenchModel" "wMany" "I" ∈ wsX8_load := by decide +kernel
  have f60 : Cond.fieldLink RX8 60 "MirrorBenchModel" "w" "[I" ∈ wsX8_load := by decide +kernel
  have w8 : ∀ w ∈ wsX80, w ∈ wsX8_load := by decide +kernel
  show Wk E g 3 S 0 [(0, vr g 30 0), (1, vi a)] []
  have hfS : Fr fL S S := Fr.rfl _ S
  have hl := hRS.ln a a0 a1
  refine kw_aload_n hC dX8_load_0 rfl 0 rfl ?_
  refine kw_aload_n hC dX8_load_1 rfl 0 rfl ?_
  refine kg_30_6 hC w8 f43 dX8_load_2 rfl (by decide) (by decide) ?_
  refine kw_iload_n hC dX8_load_5 rfl 1 rfl ?_
  refine ka_46 hC dX8_load_6 rfl (by decide) (by decide) (by omega) (by omega) ?_
  refine kp_30_14 hC w8 f57 dX8_load_7 rfl (by decide) (by decide) ?_
  refine kw_hv hfS (by unfold fL; omega) (fun S1 hfS1 hv1 ho1 => ?_)
  refine kw_iconst hC dX8_load_10 rfl ?_
  refine kw_istore_n (lv' := [(2, _), (0, _), (1, _)]) hC dX8_load_11 rfl (by decide) rfl ?_
  have hL12 : ∀ (n12 : Nat) (x : Int) (W12 : wSt), Fr fL S W12 → (0 ≤ x) → (x ≤ S 46 0 a) → (W12 30 0 14 = S 46 0 a) → (∀ j, 0 ≤ j → j < x → W12 53 0 j = S 45 0 (100 * a + j)) → S 46 0 a - x < (n12 : Int) → Wk E g 3 W12 12 [(0, vr g 30 0), (1, vi a), (2, vi x)] [] := by
    intro n12
    induction n12 with
    | zero => intro x W12 hfW12 hx0 hx1 q1 h3 hm12; exact absurd hm12 (by omega)
    | succ n12 ih12 =>
      intro x W12 hfW12 hx0 hx1 q1 h3 hm12
      have ea : ∀ j, W12 45 0 j = S 45 0 j := fun j => hfW12 45 0 j (by unfold fL; omega)
      refine kw_iload_n hC dX8_load_12 rfl 2 rfl ?_
      refine kw_aload_n hC dX8_load_13 rfl 0 rfl ?_
      refine kg_30_14 hC w8 f57 dX8_load_14 rfl (by decide) (by decide) ?_
      refine kw_icmp_ge (tgt := 43) hC dX8_load_17 rfl (by decide) (by omega) (by omega) ⟨fun c17 => ?_, fun c17 => ?_⟩
      · exact hR9.2.2.2 rfl _ _ _ dX8_load_43 ⟨rfl, hfW12, q1, fun j j0 j1 => h3 j j0 (by omega)⟩
      · refine kw_aload_n hC dX8_load_20 rfl 0 rfl ?_
        refine kg_30_13 hC w8 f60 dX8_load_21 rfl (by decide) (by decide) ?_
        refine kw_iload_n hC dX8_load_24 rfl 2 rfl ?_
        refine kw_aload_n hC dX8_load_25 rfl 0 rfl ?_
        refine kg_30_5 hC w8 f52 dX8_load_26 rfl (by decide) (by decide) ?_
        refine kw_bipush hC dX8_load_29 rfl (by decide) ?_
        refine kw_iload_n hC dX8_load_31 rfl 1 rfl ?_
        refine kw_imul hC dX8_load_32 rfl ?_
        refine kw_iload_n hC dX8_load_33 rfl 2 rfl ?_
        refine kw_iadd hC dX8_load_34 rfl ?_
        refine ka_45 hC dX8_load_35 rfl (by decide) (by decide) (by omega) (by omega) ?_
        refine ks_53 hC dX8_load_36 rfl (by decide) (by decide) (by omega) (by omega) ?_
        refine kw_hv hfW12 (by unfold fL; omega) (fun S3 hfS3 hv3 ho3 => ?_)
        refine kw_iinc (lv' := [(2, _), (0, _), (1, _)]) hC dX8_load_37 rfl 2 rfl (by decide) rfl ?_
        refine kw_goto (tgt := 12) hC dX8_load_40 rfl (by decide) ?_
        refine kw_lv [1, 2, 0] rfl ?_
        exact ih12 (x + 1) S3 hfS3 (by omega) (by omega) (by rw [ho3 30 0 14 (by omega)]; exact q1) (fun j j0 j1 => by rcases Decidable.em (j = x) with e | e; exact (by rw [e, hv3]; exact ea _); exact (by rw [ho3 53 0 j (by omega)]; exact h3 j j0 (by omega))) (by omega)
  refine kw_lv [1, 2, 0] rfl ?_
  exact hL12 101 0 S1 hfS1 (by omega) (by omega) hv1 (fun j _ _ => by omega) (by omega)

set_option maxHeartbeats 4000000 in
set_option maxRecDepth 100000 in
theorem d_X8_loadMore {g : wG} (hD : wD g) {S : wSt} {a : Int} (a0 : 0 ≤ a) (a1 : a < 8) (hRS : RI S) (m0 : 0 ≤ S 30 0 14) (m1 : S 30 0 14 + S 46 0 a ≤ 200) (l : Launch) : Kt l yX8_loadMore wsX8_loadMore ({ frames := 0, cells := 0, slots := 0, locals := 0 } : Room) g S [vr g 30 0, vi a] (pV (fun S' => Fr fL S S' ∧ (S' 30 0 14 = S 30 0 14 + S 46 0 a ∧ (∀ j, 0 ≤ j → j < S 30 0 14 → S' 53 0 j = S 53 0 j) ∧ ∀ j, 0 ≤ j → j < S 46 0 a → S' 53 0 (S 30 0 14 + j) = S 45 0 (100 * a + j)))) := by
  refine Kt.of (cc := cX8_loadMore) (nL := 3) (ret := none) (own := RX8) rfl hD (by decide) rfl (Nat.le_of_ble_eq_true rfl) ⟨rfl, rfl⟩ ?_
  intro E hC hR9
  have f43 : Cond.fieldLink RX8 43 "MirrorBenchModel" "lengths" "[I" ∈ wsX8_loadMore := by decide +kernel
  have f52 : Cond.fieldLink RX8 52 "MirrorBenchModel" "words" "[I" ∈ wsX8_loadMore := by decide +kernel
  have f57 : Cond.fieldLink RX8 57 "MirrorBenchModel" "wMany" "I" ∈ wsX8_loadMore := by decide +kernel
  have f60 : Cond.fieldLink RX8 60 "MirrorBenchModel" "w" "[I" ∈ wsX8_loadMore := by decide +kernel
  have w8 : ∀ w ∈ wsX80, w ∈ wsX8_loadMore := by decide +kernel
  show Wk E g 3 S 0 [(0, vr g 30 0), (1, vi a)] []
  have hfS : Fr fL S S := Fr.rfl _ S
  have hl := hRS.ln a a0 a1
  refine kw_iconst hC dX8_loadMore_0 rfl ?_
  refine kw_istore_n (lv' := [(2, _), (0, _), (1, _)]) hC dX8_loadMore_1 rfl (by decide) rfl ?_
  have hL2 : ∀ (n2 : Nat) (x : Int) (W2 : wSt), Fr fL S W2 → (0 ≤ x) → (x ≤ S 46 0 a) → (W2 30 0 14 = S 30 0 14 + x) → (∀ j, 0 ≤ j → j < S 30 0 14 → W2 53 0 j = S 53 0 j) → (∀ j, 0 ≤ j → j < x → W2 53 0 (S 30 0 14 + j) = S 45 0 (100 * a + j)) → S 46 0 a - x < (n2 : Int) → Wk E g 3 W2 2 [(0, vr g 30 0), (1, vi a), (2, vi x)] [] := by
    intro n2
    induction n2 with
    | zero => intro x W2 hfW2 hx0 hx1 q1 h2 h3 hm2; exact absurd hm2 (by omega)
    | succ n2 ih2 =>
      intro x W2 hfW2 hx0 hx1 q1 h2 h3 hm2
      have ea : ∀ j, W2 45 0 j = S 45 0 j := fun j => hfW2 45 0 j (by unfold fL; omega)
      have el : W2 46 0 a = S 46 0 a := hfW2 46 0 a (by unfold fL; omega)
      refine kw_iload_n hC dX8_loadMore_2 rfl 2 rfl ?_
      refine kw_aload_n hC dX8_loadMore_3 rfl 0 rfl ?_
      refine kg_30_6 hC w8 f43 dX8_loadMore_4 rfl (by decide) (by decide) ?_
      refine kw_iload_n hC dX8_loadMore_7 rfl 1 rfl ?_
      refine ka_46 hC dX8_loadMore_8 rfl (by decide) (by decide) (by omega) (by omega) ?_
      refine kw_icmp_ge (tgt := 48) hC dX8_loadMore_9 rfl (by decide) (by omega) (by omega) ⟨fun c9 => ?_, fun c9 => ?_⟩
      · exact hR9.2.2.2 rfl _ _ _ dX8_loadMore_48 ⟨rfl, hfW2, by omega, h2, fun j j0 j1 => h3 j j0 (by omega)⟩
      · refine kw_aload_n hC dX8_loadMore_12 rfl 0 rfl ?_
        refine kg_30_13 hC w8 f60 dX8_loadMore_13 rfl (by decide) (by decide) ?_
        refine kw_aload_n hC dX8_loadMore_16 rfl 0 rfl ?_
        refine kg_30_14 hC w8 f57 dX8_loadMore_17 rfl (by decide) (by decide) ?_
        refine kw_aload_n hC dX8_loadMore_20 rfl 0 rfl ?_
        refine kg_30_5 hC w8 f52 dX8_loadMore_21 rfl (by decide) (by decide) ?_
        refine kw_bipush hC dX8_loadMore_24 rfl (by decide) ?_
        refine kw_iload_n hC dX8_loadMore_26 rfl 1 rfl ?_
        refine kw_imul hC dX8_loadMore_27 rfl ?_
        refine kw_iload_n hC dX8_loadMore_28 rfl 2 rfl ?_
        refine kw_iadd hC dX8_loadMore_29 rfl ?_
        refine ka_45 hC dX8_loadMore_30 rfl (by decide) (by decide) (by omega) (by omega) ?_
        refine ks_53 hC dX8_loadMore_31 rfl (by decide) (by decide) (by omega) (by omega) ?_
        refine kw_hv hfW2 (by unfold fL; omega) (fun S2 hfS2 hv2 ho2 => ?_)
        have hvA := hv2
        have hoA := ho2
        have q1A : S2 30 0 14 = W2 30 0 14 := ho2 30 0 14 (by omega)
        refine kw_aload_n hC dX8_loadMore_32 rfl 0 rfl ?_
        refine kw_dup hC dX8_loadMore_33 rfl rfl ?_
        refine kg_30_14 hC w8 f57 dX8_loadMore_34 rfl (by decide) (by decide) ?_
        refine kw_iconst hC dX8_loadMore_37 rfl ?_
        refine kw_iadd hC dX8_loadMore_38 rfl ?_
        refine kp_30_14 hC w8 f57 dX8_loadMore_39 rfl (by decide) (by decide) ?_
        refine kw_hv hfS2 (by unfold fL; omega) (fun S3 hfS3 hv3 ho3 => ?_)
        refine kw_iinc (lv' := [(2, _), (0, _), (1, _)]) hC dX8_loadMore_42 rfl 2 rfl (by decide) rfl ?_
        refine kw_goto (tgt := 2) hC dX8_loadMore_45 rfl (by decide) ?_
        refine kw_lv [1, 2, 0] rfl ?_
        exact ih2 (x + 1) S3 hfS3 (by omega) (by omega) (by rw [hv3]; omega) (fun j j0 j1 => by rw [ho3 53 0 j (by omega), hoA 53 0 j (by omega)]; exact h2 j j0 j1) (fun j j0 j1 => by rcases Decidable.em (j = x) with e | e; exact (by rw [e, ho3 53 0 _ (by omega), ← q1, hvA]; exact ea _); exact (by rw [ho3 53 0 _ (by omega), hoA 53 0 _ (by omega)]; exact h3 j j0 (by omega))) (by omega)
  refine kw_lv [1, 2, 0] rfl ?_
  exact hL2 101 0 S hfS (by omega) (by omega) (by omega) (fun _ _ _ => rfl) (fun j _ _ => by omega) (by omega)

set_option maxHeartbeats 4000000 in
set_option maxRecDepth 100000 in
theorem d_X8_loadBack {g : wG} (hD : wD g) {S : wSt} {a : Int} (a0 : 0 ≤ a) (a1 : a < 8) (hRS : RI S) (l : Launch) : Kt l yX8_loadBack wsX8_loadBack ({ frames := 0, cells := 0, slots := 0, locals := 0 } : Room) g S [vr g 30 0, vi a] (pV (fun S' => Fr fL S S' ∧ (S' 30 0 14 = S 46 0 a ∧ ∀ j, 0 ≤ j → j < S 46 0 a → S' 53 0 j = S 45 0 (100 * a + (S 46 0 a - 1 - j))))) := by
  refine Kt.of (cc := cX8_loadBack) (nL := 3) (ret := none) (own := RX8) rfl hD (by decide) rfl (Nat.le_of_ble_eq_true rfl) ⟨rfl, rfl⟩ ?_
  intro E hC hR9
  have f43 : Cond.fieldLink RX8 43 "MirrorBenchModel" "lengths" "[I" ∈ wsX8_loadBack := by decide +kernel
  have f52 : Cond.fieldLink RX8 52 "MirrorBenchModel" "words" "[I" ∈ wsX8_loadBack := by decide +kernel
  have f57 : Cond.fieldLink RX8 57 "MirrorBenchModel" "wMany" "I" ∈ wsX8_loadBack := by decide +kernel
  have f60 : Cond.fieldLink RX8 60 "MirrorBenchModel" "w" "[I" ∈ wsX8_loadBack := by decide +kernel
  have w8 : ∀ w ∈ wsX80, w ∈ wsX8_loadBack := by decide +kernel
  show Wk E g 3 S 0 [(0, vr g 30 0), (1, vi a)] []
  have hfS : Fr fL S S := Fr.rfl _ S
  have hl := hRS.ln a a0 a1
  refine kw_aload_n hC dX8_loadBack_0 rfl 0 rfl ?_
  refine kw_iconst hC dX8_loadBack_1 rfl ?_
  refine kp_30_14 hC w8 f57 dX8_loadBack_2 rfl (by decide) (by decide) ?_
  refine kw_hv hfS (by unfold fL; omega) (fun S1 hfS1 hv1 ho1 => ?_)
  refine kw_aload_n hC dX8_loadBack_5 rfl 0 rfl ?_
  refine kg_30_6 hC w8 f43 dX8_loadBack_6 rfl (by decide) (by decide) ?_
  refine kw_iload_n hC dX8_loadBack_9 rfl 1 rfl ?_
  refine ka_46 hC dX8_loadBack_10 rfl (by decide) (by decide) (by omega) (by omega) ?_
  refine kw_chi (z' := S 46 0 a) (hfS1 46 0 a (by unfold fL; omega)) ?_
  refine kw_iconst hC dX8_loadBack_11 rfl ?_
  refine kw_isub hC dX8_loadBack_12 rfl ?_
  refine kw_istore_n (lv' := [(2, _), (0, _), (1, _)]) hC dX8_loadBack_13 rfl (by decide) rfl ?_
  have hL14 : ∀ (n14 : Nat) (x : Int) (W14 : wSt), Fr fL S W14 → (-1 ≤ x) → (x < S 46 0 a) → (W14 30 0 14 = S 46 0 a - 1 - x) → (∀ j, 0 ≤ j → j < S 46 0 a - 1 - x → W14 53 0 j = S 45 0 (100 * a + (S 46 0 a - 1 - j))) → x + 1 < (n14 : Int) → Wk E g 3 W14 14 [(0, vr g 30 0), (1, vi a), (2, vi x)] [] := by
    intro n14
    induction n14 with
    | zero => intro x W14 hfW14 hx0 hx1 q1 h3 hm14; exact absurd hm14 (by omega)
    | succ n14 ih14 =>
      intro x W14 hfW14 hx0 hx1 q1 h3 hm14
      have ea : ∀ j, W14 45 0 j = S 45 0 j := fun j => hfW14 45 0 j (by unfold fL; omega)
      refine kw_iload_n hC dX8_loadBack_14 rfl 2 rfl ?_
      refine kw_if_lt (tgt := 54) hC dX8_loadBack_15 rfl (by decide) (by omega) ⟨fun c15 => ?_, fun c15 => ?_⟩
      · exact hR9.2.2.2 rfl _ _ _ dX8_loadBack_54 ⟨rfl, hfW14, by omega, fun j j0 j1 => h3 j j0 (by omega)⟩
      · refine kw_aload_n hC dX8_loadBack_18 rfl 0 rfl ?_
        refine kg_30_13 hC w8 f60 dX8_loadBack_19 rfl (by decide) (by decide) ?_
        refine kw_aload_n hC dX8_loadBack_22 rfl 0 rfl ?_
        refine kg_30_14 hC w8 f57 dX8_loadBack_23 rfl (by decide) (by decide) ?_
        refine kw_aload_n hC dX8_loadBack_26 rfl 0 rfl ?_
        refine kg_30_5 hC w8 f52 dX8_loadBack_27 rfl (by decide) (by decide) ?_
        refine kw_bipush hC dX8_loadBack_30 rfl (by decide) ?_
        refine kw_iload_n hC dX8_loadBack_32 rfl 1 rfl ?_
        refine kw_imul hC dX8_loadBack_33 rfl ?_
        refine kw_iload_n hC dX8_loadBack_34 rfl 2 rfl ?_
        refine kw_iadd hC dX8_loadBack_35 rfl ?_
        refine ka_45 hC dX8_loadBack_36 rfl (by decide) (by decide) (by omega) (by omega) ?_
        refine ks_53 hC dX8_loadBack_37 rfl (by decide) (by decide) (by omega) (by omega) ?_
        refine kw_hv hfW14 (by unfold fL; omega) (fun S3 hfS3 hv3 ho3 => ?_)
        have hvA := hv3
        have hoA := ho3
        have q1A : S3 30 0 14 = W14 30 0 14 := ho3 30 0 14 (by omega)
        refine kw_aload_n hC dX8_loadBack_38 rfl 0 rfl ?_
        refine kw_dup hC dX8_loadBack_39 rfl rfl ?_
        refine kg_30_14 hC w8 f57 dX8_loadBack_40 rfl (by decide) (by decide) ?_
        refine kw_iconst hC dX8_loadBack_43 rfl ?_
        refine kw_iadd hC dX8_loadBack_44 rfl ?_
        refine kp_30_14 hC w8 f57 dX8_loadBack_45 rfl (by decide) (by decide) ?_
        refine kw_hv hfS3 (by unfold fL; omega) (fun S4 hfS4 hv4 ho4 => ?_)
        refine kw_iinc (lv' := [(2, _), (0, _), (1, _)]) hC dX8_loadBack_48 rfl 2 rfl (by decide) rfl ?_
        refine kw_goto (tgt := 14) hC dX8_loadBack_51 rfl (by decide) ?_
        refine kw_lv [1, 2, 0] rfl ?_
        exact ih14 (x + -1) S4 hfS4 (by omega) (by omega) (by rw [hv4]; omega) (fun j j0 j1 => by rcases Decidable.em (j = S 46 0 a - 1 - x) with e | e; exact (by rw [e, ho4 53 0 _ (by omega), ← q1, hvA, q1, show S 46 0 a - 1 - (S 46 0 a - 1 - x) = x by omega]; exact ea _); exact (by rw [ho4 53 0 _ (by omega), hoA 53 0 _ (by omega)]; exact h3 j j0 (by omega))) (by omega)
  refine kw_lv [1, 2, 0] rfl ?_
  exact hL14 101 (S 46 0 a - 1) S1 hfS1 (by omega) (by omega) (by have := hv1; omega) (fun j _ _ => by omega) (by omega)

/-- the words of W are words of S's set -/
def WdO (n : Int) (W : wSt) : Prop := (∀ s, 0 ≤ s → s < 8 → 0 ≤ W 46 0 s ∧ W 46 0 s ≤ 100) ∧ (∀ s k, 0 ≤ s → s < 8 → 0 ≤ k → k < W 46 0 s → 0 ≤ W 45 0 (100 * s + k) ∧ W 45 0 (100 * s + k) < n)
theorem RI.wdo {S : wSt} (h : RI S) : WdO (S 30 0 0) S := ⟨h.ln, h.lt⟩
theorem RI.wd {S S' : wSt} (h : RI S) (f : Fr fV S S') (hw : WdO (S 30 0 0) S') : RI S' := by
  have e0 : S' 30 0 0 = S 30 0 0 := f 30 0 0 (by unfold fV; omega)
  have e4 : S' 30 0 4 = S 30 0 4 := f 30 0 4 (by unfold fV; omega)
  have e41 : S' 41 0 = S 41 0 := funext fun j => f 41 0 j (by unfold fV; omega)
  have e42 : S' 42 0 = S 42 0 := funext fun j => f 42 0 j (by unfold fV; omega)
  have e43 : S' 43 0 = S 43 0 := funext fun j => f 43 0 j (by unfold fV; omega)
  have e69 : S' 69 0 = S 69 0 := funext fun j => f 69 0 j (by unfold fV; omega)
  have e70 : S' 70 0 = S 70 0 := funext fun j => f 70 0 j (by unfold fV; omega)
  have e71 : S' 71 0 = S 71 0 := funext fun j => f 71 0 j (by unfold fV; omega)
  obtain ⟨h1, h2, h3, -, -, h6, h7, h8⟩ := h
  unfold RI
  rw [e0, e4, e41, e42, e43, e69, e70, e71]
  exact ⟨h1, h2, h3, hw.1, hw.2, h6, h7, h8⟩
theorem fV_tW {S S' : wSt} (h : Fr fV S S') : Fr tW S S' := h.mono (fun k i j q => by unfold fV at q; unfold tW; omega)
/-- one letter, or the length, of a slot's word is set -/
theorem WdO.let {n : Int} {W W' : wSt} (h : WdO n W) {p : Int} (e46 : ∀ s, W' 46 0 s = W 46 0 s) (ho : ∀ j, j ≠ p → W' 45 0 j = W 45 0 j) (hv : 0 ≤ W' 45 0 p ∧ W' 45 0 p < n) : WdO n W' := ⟨fun s a b => by rw [e46]; exact h.1 s a b, fun s k a b c d => by
  rw [e46] at d
  by_cases e : 100 * s + k = p
  · rw [e]; exact hv
  · rw [ho _ e]; exact h.2 s k a b c d⟩
theorem WdO.len {n : Int} {W W' : wSt} (h : WdO n W) {a : Int} (e45 : ∀ j, W' 45 0 j = W 45 0 j) (ho : ∀ s, s ≠ a → W' 46 0 s = W 46 0 s) (h1 : 0 ≤ W' 46 0 a ∧ W' 46 0 a ≤ 100) (hv : ∀ k, 0 ≤ k → k < W' 46 0 a → 0 ≤ W 45 0 (100 * a + k) ∧ W 45 0 (100 * a + k) < n) : WdO n W' := ⟨fun s p q => by
  by_cases e : s = a
  · rw [e]; exact h1
  · rw [ho s e]; exact h.1 s p q, fun s k p q c d => by
  rw [e45]
  by_cases e : s = a
  · rw [e] at d ⊢; exact hv k c d
  · rw [ho s e] at d; exact h.2 s k p q c d⟩

set_option maxHeartbeats 4000000 in
set_option maxRecDepth 100000 in
theorem d_X8_store {g : wG} (hD : wD g) {S : wSt} {a : Int} (a0 : 0 ≤ a) (a1 : a < 8) (hRS : RI S) (hw : WV (S 53 0) (S 30 0 14) (S 30 0 0)) (m0 : 0 ≤ S 30 0 14) (m1 : S 30 0 14 ≤ 100) (l : Launch) : Kt l yX8_store wsX8_store ({ frames := 0, cells := 0, slots := 0, locals := 0 } : Room) g S [vr g 30 0, vi a] (pI (fun r S' => r = S 30 0 14 ∧ RI S' ∧ Fr fV S S' ∧ S' 46 0 a = S 30 0 14 ∧ (∀ s, s ≠ a → S' 46 0 s = S 46 0 s) ∧ (∀ j, 0 ≤ j → j < S 30 0 14 → S' 45 0 (100 * a + j) = S 53 0 j) ∧ ∀ j, ¬ (100 * a ≤ j ∧ j < 100 * a + S 30 0 14) → S' 45 0 j = S 45 0 j)) := by
  refine Kt.of (cc := cX8_store) (nL := 3) (ret := (some .int)) (own := RX8) rfl hD (by decide) rfl (Nat.le_of_ble_eq_true rfl) ⟨rfl, rfl⟩ ?_
  intro E hC hR9
  have f43 : Cond.fieldLink RX8 43 "MirrorBenchModel" "lengths" "[I" ∈ wsX8_store := by decide +kernel
  have f52 : Cond.fieldLink RX8 52 "MirrorBenchModel" "words" "[I" ∈ wsX8_store := by decide +kernel
  have f57 : Cond.fieldLink RX8 57 "MirrorBenchModel" "wMany" "I" ∈ wsX8_store := by decide +kernel
  have f60 : Cond.fieldLink RX8 60 "MirrorBenchModel" "w" "[I" ∈ wsX8_store := by decide +kernel
  have w8 : ∀ w ∈ wsX80, w ∈ wsX8_store := by decide +kernel
  show Wk E g 3 S 0 [(0, vr g 30 0), (1, vi a)] []
  have hfS : Fr fV S S := Fr.rfl _ S
  refine kw_aload_n hC dX8_store_0 rfl 0 rfl ?_
  refine kg_30_6 hC w8 f43 dX8_store_1 rfl (by decide) (by decide) ?_
  refine kw_iload_n hC dX8_store_4 rfl 1 rfl ?_
  refine kw_aload_n hC dX8_store_5 rfl 0 rfl ?_
  refine kg_30_14 hC w8 f57 dX8_store_6 rfl (by decide) (by decide) ?_
  refine ks_46 hC dX8_store_9 rfl (by decide) (by decide) (by omega) (by omega) ?_
  refine kw_hv hfS (by unfold fV; omega) (fun S1 hfS1 hv1 ho1 => ?_)
  refine kw_iconst hC dX8_store_10 rfl ?_
  refine kw_istore_n (lv' := [(2, _), (0, _), (1, _)]) hC dX8_store_11 rfl (by decide) rfl ?_
  have hL12 : ∀ (n12 : Nat) (x : Int) (W12 : wSt), Fr fV S W12 → (0 ≤ x) → (x ≤ S 30 0 14) → (W12 46 0 a = S 30 0 14) → (∀ s, s ≠ a → W12 46 0 s = S 46 0 s) → (∀ j, 0 ≤ j → j < x → W12 45 0 (100 * a + j) = S 53 0 j) → (∀ j, ¬ (100 * a ≤ j ∧ j < 100 * a + x) → W12 45 0 j = S 45 0 j) → S 30 0 14 - x < (n12 : Int) → Wk E g 3 W12 12 [(0, vr g 30 0), (1, vi a), (2, vi x)] [] := by
    intro n12
    induction n12 with
    | zero => intro x W12 hfW12 hx0 hx1 q46 h46 h3 h4 hm12; exact absurd hm12 (by omega)
    | succ n12 ih12 =>
      intro x W12 hfW12 hx0 hx1 q46 h46 h3 h4 hm12
      have ea : ∀ j, W12 53 0 j = S 53 0 j := fun j => hfW12 53 0 j (by unfold fV; omega)
      have el : W12 30 0 14 = S 30 0 14 := hfW12 30 0 14 (by unfold fV; omega)
      refine kw_iload_n hC dX8_store_12 rfl 2 rfl ?_
      refine kw_aload_n hC dX8_store_13 rfl 0 rfl ?_
      refine kg_30_14 hC w8 f57 dX8_store_14 rfl (by decide) (by decide) ?_
      refine kw_icmp_ge (tgt := 43) hC dX8_store_17 rfl (by decide) (by omega) (by omega) ⟨fun c17 => ?_, fun c17 => ?_⟩
      · refine kw_aload_n hC dX8_store_43 rfl 0 rfl ?_
        refine kg_30_14 hC w8 f57 dX8_store_44 rfl (by decide) (by decide) ?_
        refine kw_chi (z' := S 30 0 14) el ?_
        obtain rfl : x = S 30 0 14 := by omega
        exact hR9.1 rfl _ _ _ _ dX8_store_47 ⟨_, rfl, rfl, hRS.wd hfW12 ⟨fun s s0 s1 => by rcases Decidable.em (s = a) with e | e; exact (by rw [e, q46]; omega); exact (by rw [h46 s e]; exact hRS.ln s s0 s1), fun s k s0 s1 k0 k1 => by rcases Decidable.em (s = a) with e | e; exact (by rw [e] at k1 ⊢; rw [q46] at k1; rw [h3 k k0 k1]; exact hw k k0 k1); exact (by rw [h46 s e] at k1; have := hRS.ln s s0 s1; rw [h4 _ (by omega)]; exact hRS.lt s k s0 s1 k0 k1)⟩, hfW12, q46, h46, h3, h4⟩
      · refine kw_aload_n hC dX8_store_20 rfl 0 rfl ?_
        refine kg_30_5 hC w8 f52 dX8_store_21 rfl (by decide) (by decide) ?_
        refine kw_bipush hC dX8_store_24 rfl (by decide) ?_
        refine kw_iload_n hC dX8_store_26 rfl 1 rfl ?_
        refine kw_imul hC dX8_store_27 rfl ?_
        refine kw_iload_n hC dX8_store_28 rfl 2 rfl ?_
        refine kw_iadd hC dX8_store_29 rfl ?_
        refine kw_aload_n hC dX8_store_30 rfl 0 rfl ?_
        refine kg_30_13 hC w8 f60 dX8_store_31 rfl (by decide) (by decide) ?_
        refine kw_iload_n hC dX8_store_34 rfl 2 rfl ?_
        refine ka_53 hC dX8_store_35 rfl (by decide) (by decide) (by omega) (by omega) ?_
        refine ks_45 hC dX8_store_36 rfl (by decide) (by decide) (by omega) (by omega) ?_
        refine kw_hv hfW12 (by unfold fV; omega) (fun S3 hfS3 hv3 ho3 => ?_)
        refine kw_iinc (lv' := [(2, _), (0, _), (1, _)]) hC dX8_store_37 rfl 2 rfl (by decide) rfl ?_
        refine kw_goto (tgt := 12) hC dX8_store_40 rfl (by decide) ?_
        refine kw_lv [1, 2, 0] rfl ?_
        exact ih12 (x + 1) S3 hfS3 (by omega) (by omega) (by rw [ho3 46 0 a (by omega)]; exact q46) (fun s hs => by rw [ho3 46 0 s (by omega)]; exact h46 s hs) (fun j j0 j1 => by rcases Decidable.em (j = x) with e | e; exact (by rw [e, hv3]; exact ea x); exact (by rw [ho3 45 0 _ (by omega)]; exact h3 j j0 (by omega))) (fun j hj => by rw [ho3 45 0 j (by omega)]; exact h4 j (by omega)) (by omega)
  refine kw_lv [1, 2, 0] rfl ?_
  exact hL12 101 0 S1 hfS1 (by omega) (by omega) hv1 (fun s hs => ho1 46 0 s (by omega)) (fun j _ _ => by omega) (fun j _ => ho1 45 0 j (by omega)) (by omega)
