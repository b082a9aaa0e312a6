def fT3 (w : Int) (k : Nat) (i j : Int) : Prop := (k = 3 ∨ k = 4 ∨ k = 5) ∧ i = w
def fH (k : Nat) (i j : Int) : Prop := ((k = 3 ∨ k = 4 ∨ k = 5) ∧ i < 16) ∨ k = 8
def fN (k : Nat) (i j : Int) : Prop := k = 1 ∨ k = 12 ∨ k = 16
def fN1 (k : Nat) (i j : Int) : Prop := k = 12
def fN2 (k : Nat) (i j : Int) : Prop := k = 16
def fU (k : Nat) (i j : Int) : Prop := k = 3 ∨ k = 4 ∨ k = 5 ∨ k = 8
set_option maxHeartbeats 4000000 in
set_option maxRecDepth 100000 in
theorem d_X3_take {g : wG} (hD : wD g) {S : wSt} {p q : Int} (p0 : 0 ≤ p) (p1 : p < 17) (q0 : 0 ≤ q) (q1 : q < 17) (hpq : p ≠ q) (l : Launch) : Kt l yX3_take wsX3_take ({ frames := 1, cells := 0, slots := 0, locals := 26 } : Room) g S [vr g 3 p, vr g 3 q] (pV (fun S' => Fr (fT3 p) S S' ∧ (S' 3 p 2 = S 3 q 2 ∧ (∀ j, 0 ≤ j → j < 6 → S' 4 p j = S 4 q j) ∧ ∀ j, 0 ≤ j → j < 36 → S' 5 p j = S 5 q j))) := by
  refine Kt.of (cc := cX3_take) (nL := 2) (ret := none) (own := RX3) rfl hD (by decide) rfl (Nat.le_of_ble_eq_true rfl) ⟨rfl, rfl⟩ ?_
  intro E hC hR9
  have f9 : Cond.fieldLink RX3 9 "MirrorBench$Mirrors" "kinds" "[I" ∈ wsX3_take := by decide +kernel
  have f15 : Cond.fieldLink RX3 15 "MirrorBench$Mirrors" "numbers" "[I" ∈ wsX3_take := by decide +kernel
  have f18 : Cond.fieldLink RX3 18 "MirrorBench$Mirrors" "size" "I" ∈ wsX3_take := by decide +kernel
  have w3 : ∀ w ∈ wsX30, w ∈ wsX3_take := by decide +kernel
  show Wk E g 2 S 0 [(0, vr g 3 p), (1, vr g 3 q)] []
  have hfS : Fr (fT3 p) S S := Fr.rfl _ S
  refine kw_aload_n hC dX3_take_0 rfl 1 rfl ?_
  refine kg_3_0 hC w3 f9 dX3_take_1 rfl (by omega) (by omega) ?_
  refine kw_iconst hC dX3_take_4 rfl ?_
  refine kw_aload_n hC dX3_take_5 rfl 0 rfl ?_
  refine kg_3_0 hC w3 f9 dX3_take_6 rfl (by omega) (by omega) ?_
  refine kw_iconst hC dX3_take_9 rfl ?_
  refine kw_bipush hC dX3_take_10 rfl (by decide) ?_
  refine kw_copyi (k0 := 4) (k1 := 4) (n0 := 6) (n1 := 6) hC (by decide +kernel) (by decide +kernel) (by decide +kernel) (by decide +kernel) (by decide) (Nat.le_of_ble_eq_true rfl) (fun _ => rfl) (fun _ => rfl) (by decide) (by decide) (by omega) (show (_ : Int) < 17 by omega) (by omega) (show (_ : Int) < 17 by omega) (by omega) (by omega) (by omega) (by omega) (by omega) dX3_take_12 rfl ?_
  refine kw_hc hfS (fun j => by unfold fT3; omega) (fun S1 hfS1 hvC hoC => ?_)
  have hv4 := hvC
  have ho4 := hoC
  refine kw_aload_n hC dX3_take_15 rfl 1 rfl ?_
  refine kg_3_1 hC w3 f15 dX3_take_16 rfl (by omega) (by omega) ?_
  refine kw_iconst hC dX3_take_19 rfl ?_
  refine kw_aload_n hC dX3_take_20 rfl 0 rfl ?_
  refine kg_3_1 hC w3 f15 dX3_take_21 rfl (by omega) (by omega) ?_
  refine kw_iconst hC dX3_take_24 rfl ?_
  refine kw_bipush hC dX3_take_25 rfl (by decide) ?_
  refine kw_copyi (k0 := 5) (k1 := 5) (n0 := 36) (n1 := 36) hC (by decide +kernel) (by decide +kernel) (by decide +kernel) (by decide +kernel) (by decide) (Nat.le_of_ble_eq_true rfl) (fun _ => rfl) (fun _ => rfl) (by decide) (by decide) (by omega) (show (_ : Int) < 17 by omega) (by omega) (show (_ : Int) < 17 by omega) (by omega) (by omega) (by omega) (by omega) (by omega) dX3_take_27 rfl ?_
  refine kw_hc hfS1 (fun j => by unfold fT3; omega) (fun S2 hfS2 hvC hoC => ?_)
  refine kw_aload_n hC dX3_take_30 rfl 0 rfl ?_
  refine kw_aload_n hC dX3_take_31 rfl 1 rfl ?_
  refine kg_3_2 hC w3 f18 dX3_take_32 rfl (by omega) (by omega) ?_
  refine kw_chi (z' := S 3 q 2) ((hoC 3 q 2 (by omega)).trans (ho4 3 q 2 (by omega))) ?_
  refine kp_3_2 hC w3 f18 dX3_take_35 rfl (by omega) (by omega) ?_
  refine kw_hv hfS2 (by unfold fT3; omega) (fun S3 hfS3 hv3 ho3 => ?_)
  exact hR9.2.2.2 rfl _ _ _ dX3_take_38 ⟨rfl, hfS3, hv3, fun j j0 j1 => by rw [ho3 4 p j (by omega), hoC 4 p j (by omega), hv4 j j0 (by omega), show 0 + (j - 0) = j by omega], fun j j0 j1 => by rw [ho3 5 p j (by omega), hvC j j0 (by omega), ho4 5 q _ (by omega), show 0 + (j - 0) = j by omega]⟩
set_option maxHeartbeats 4000000 in
set_option maxRecDepth 100000 in
theorem d_X1_keep {g : wG} (hD : wD g) {S : wSt} (hRS : CI S) (l : Launch) : Kt l yX1_keep wsX1_keep ({ frames := 2, cells := 0, slots := 0, locals := 47 } : Room) g S [vr g 8 0, vr g 3 16] (pV (fun S' => Fr fH S S' ∧ KpC S S')) := by
  refine Kt.of (cc := cX1_keep) (nL := 2) (ret := none) (own := RX1) rfl hD (by decide) rfl (Nat.le_of_ble_eq_true rfl) ⟨rfl, rfl⟩ ?_
  intro E hC hR9
  have f11 : Cond.fieldLink RX1 11 "MirrorBench$History" "kept" "[LMirrorBench$Mirrors;" ∈ wsX1_keep := by decide +kernel
  have f18 : Cond.fieldLink RX1 18 "MirrorBench$History" "after" "I" ∈ wsX1_keep := by decide +kernel
  have f26 : Cond.fieldLink RX1 26 "MirrorBench$History" "steps" "I" ∈ wsX1_keep := by decide +kernel
  have w1 : ∀ w ∈ wsX10, w ∈ wsX1_keep := by decide +kernel
  show Wk E g 2 S 0 [(0, vr g 8 0), (1, vr g 3 16)] []
  have hfS : Fr fH S S := Fr.rfl _ S
  have hh := hRS.hs
  refine kw_aload_n hC dX1_keep_0 rfl 0 rfl ?_
  refine kg_8_0 hC w1 f11 dX1_keep_1 rfl (by decide) (by decide) ?_
  refine kw_aload_n hC dX1_keep_4 rfl 0 rfl ?_
  refine kg_8_1 hC w1 f18 dX1_keep_5 rfl (by decide) (by decide) ?_
  refine ka_9 hC dX1_keep_8 rfl (by decide) (by decide) (by omega) (by omega) ?_
  refine kw_aload_n hC dX1_keep_9 rfl 1 rfl ?_
  refine kw_callV hC (d_X3_take hD (by omega) (by omega) (by omega) (by omega) (by omega)) gX1_keep_X3_take ⟨_, rfl⟩ rfl (by omega) (show (_ : Int) < 17 by omega) rfl ⟨rfl, rfl⟩ 1 (by decide +kernel) ⟨by decide, by decide⟩ rfl rfl (Nat.le_of_ble_eq_true rfl) dX1_keep_10 rfl (kd_v (fun S1 hp1 => ?_))
  obtain ⟨hg1, hp1⟩ := hp1
  have hfS1 : Fr fH S S1 := hfS.trans (hg1.mono (fun k i j h => by unfold fT3 at h; unfold fH; omega))
  obtain ⟨y1, y2, y3⟩ := hp1
  have gA := hg1
  refine kw_aload_n hC dX1_keep_13 rfl 0 rfl ?_
  refine kw_aload_n hC dX1_keep_14 rfl 0 rfl ?_
  refine kg_8_1 hC w1 f18 dX1_keep_15 rfl (by decide) (by decide) ?_
  refine kw_chi (z' := S 8 0 1) (gA 8 0 1 (by unfold fT3; omega)) ?_
  refine kw_iconst hC dX1_keep_18 rfl ?_
  refine kw_iadd hC dX1_keep_19 rfl ?_
  refine kw_bipush hC dX1_keep_20 rfl (by decide) ?_
  refine kw_irem hC dX1_keep_22 rfl (by omega) (by omega) ?_
  refine kp_8_1 hC w1 f18 dX1_keep_23 rfl (by decide) (by decide) ?_
  refine kw_hv hfS1 (by unfold fH; omega) (fun S2 hfS2 hv2 ho2 => ?_)
  have hvA := hv2
  have hoA := ho2
  have e2 : S2 8 0 2 = S 8 0 2 := (ho2 8 0 2 (by omega)).trans (gA 8 0 2 (by unfold fT3; omega))
  have hK : (if S 8 0 2 = 16 then 16 else S 8 0 2 + 1 : Int) = S2 8 0 2 → KpC S S2 := fun q => ⟨hvA, q.symm, ⟨by rw [hoA 3 _ 2 (by omega)]; exact y1, fun j a b => by rw [hoA 4 _ j (by omega)]; exact y2 j a b, fun j a b => by rw [hoA 5 _ j (by omega)]; exact y3 j a b⟩, fun c c0 c1 hc => ⟨by rw [hoA 3 c 2 (by omega)]; exact gA 3 c 2 (by unfold fT3; omega), fun j => by rw [hoA 4 c j (by omega)]; exact gA 4 c j (by unfold fT3; omega), fun j => by rw [hoA 5 c j (by omega)]; exact gA 5 c j (by unfold fT3; omega)⟩⟩
  refine kw_aload_n hC dX1_keep_26 rfl 0 rfl ?_
  refine kg_8_2 hC w1 f26 dX1_keep_27 rfl (by decide) (by decide) ?_
  refine kw_chi (z' := S 8 0 2) e2 ?_
  refine kw_bipush hC dX1_keep_30 rfl (by decide) ?_
  refine kw_icmp_ge (tgt := 45) hC dX1_keep_32 rfl (by decide) (by omega) (by omega) ⟨fun c32 => ?_, fun c32 => ?_⟩
  · exact hR9.2.2.2 rfl _ _ _ dX1_keep_45 (by first | exact ⟨rfl, hfS2, hK (by rw [e2, if_pos (by omega)]; omega)⟩ | exact ⟨rfl, hfS2, (by rw [ho2 8 0 1 (by omega)]; exact hvA), (by rw [hv2, if_neg (by omega)]), ⟨by rw [ho2 3 _ 2 (by omega), hoA 3 _ 2 (by omega)]; exact y1, fun j a b => by rw [ho2 4 _ j (by omega), hoA 4 _ j (by omega)]; exact y2 j a b, fun j a b => by rw [ho2 5 _ j (by omega), hoA 5 _ j (by omega)]; exact y3 j a b⟩, fun c c0 c1 hc => ⟨by rw [ho2 3 c 2 (by omega), hoA 3 c 2 (by omega)]; exact gA 3 c 2 (by unfold fT3; omega), fun j => by rw [ho2 4 c j (by omega), hoA 4 c j (by omega)]; exact gA 4 c j (by unfold fT3; omega), fun j => by rw [ho2 5 c j (by omega), hoA 5 c j (by omega)]; exact gA 5 c j (by unfold fT3; omega)⟩⟩)
  · refine kw_aload_n hC dX1_keep_35 rfl 0 rfl ?_
    refine kw_dup hC dX1_keep_36 rfl rfl ?_
    refine kg_8_2 hC w1 f26 dX1_keep_37 rfl (by decide) (by decide) ?_
    refine kw_chi (z' := S 8 0 2) e2 ?_
    refine kw_iconst hC dX1_keep_40 rfl ?_
    refine kw_iadd hC dX1_keep_41 rfl ?_
    refine kp_8_2 hC w1 f26 dX1_keep_42 rfl (by decide) (by decide) ?_
    refine kw_hv hfS2 (by unfold fH; omega) (fun S4 hfS4 hv4 ho4 => ?_)
    exact hR9.2.2.2 rfl _ _ _ dX1_keep_45 (by first | exact ⟨rfl, hfS4, hK (by rw [e2, if_pos (by omega)]; omega)⟩ | exact ⟨rfl, hfS4, (by rw [ho4 8 0 1 (by omega)]; exact hvA), (by rw [hv4, if_neg (by omega)]), ⟨by rw [ho4 3 _ 2 (by omega), hoA 3 _ 2 (by omega)]; exact y1, fun j a b => by rw [ho4 4 _ j (by omega), hoA 4 _ j (by omega)]; exact y2 j a b, fun j a b => by rw [ho4 5 _ j (by omega), hoA 5 _ j (by omega)]; exact y3 j a b⟩, fun c c0 c1 hc => ⟨by rw [ho4 3 c 2 (by omega), hoA 3 c 2 (by omega)]; exact gA 3 c 2 (by unfold fT3; omega), fun j => by rw [ho4 4 c j (by omega), hoA 4 c j (by omega)]; exact gA 4 c j (by unfold fT3; omega), fun j => by rw [ho4 5 c j (by omega), hoA 5 c j (by omega)]; exact gA 5 c j (by unfold fT3; omega)⟩⟩)
set_option maxHeartbeats 4000000 in
set_option maxRecDepth 100000 in
theorem d_X4_forget {g : wG} (hD : wD g) {S : wSt}  (l : Launch) : Kt l yX4_forget wsX4_forget ({ frames := 0, cells := 0, slots := 0, locals := 0 } : Room) g S [vr g 12 0] (pV (fun S' => Fr fN1 S S' ∧ (S' 12 0 4 = 0 ∧ S' 12 0 5 = 0))) := by
  refine Kt.of (cc := cX4_forget) (nL := 1) (ret := none) (own := RX4) rfl hD (by decide) rfl (Nat.le_of_ble_eq_true rfl) ⟨rfl, rfl⟩ ?_
  intro E hC hR9
  have f26 : Cond.fieldLink RX4 26 "MirrorBench$RootList" "height" "I" ∈ wsX4_forget := by decide +kernel
  have f30 : Cond.fieldLink RX4 30 "MirrorBench$RootList" "full" "Z" ∈ wsX4_forget := by decide +kernel
  have w4 : ∀ w ∈ wsX40, w ∈ wsX4_forget := by decide +kernel
  show Wk E g 1 S 0 [(0, vr g 12 0)] []
  have hfS : Fr fN1 S S := Fr.rfl _ S
  refine kw_aload_n hC dX4_forget_0 rfl 0 rfl ?_
  refine kw_iconst hC dX4_forget_1 rfl ?_
  refine kp_12_4 hC w4 f26 dX4_forget_2 rfl (by decide) (by decide) ?_
  refine kw_hv hfS (by unfold fN1; omega) (fun S1 hfS1 hv1 ho1 => ?_)
  have hvA := hv1
  refine kw_aload_n hC dX4_forget_5 rfl 0 rfl ?_
  refine kw_iconst hC dX4_forget_6 rfl ?_
  refine kp_12_5 hC w4 f30 dX4_forget_7 rfl (by decide) (by decide) (by omega) ?_
  refine kw_hv hfS1 (by unfold fN1; omega) (fun S2 hfS2 hv2 ho2 => ?_)
  exact hR9.2.2.2 rfl _ _ _ dX4_forget_10 ⟨rfl, hfS2, by rw [ho2 12 0 4 (by omega)]; exact hvA, hv2⟩
set_option maxHeartbeats 4000000 in
set_option maxRecDepth 100000 in
theorem d_X0_forget {g : wG} (hD : wD g) {S : wSt}  (l : Launch) : Kt l yX0_forget wsX0_forget ({ frames := 0, cells := 0, slots := 0, locals := 0 } : Room) g S [vr g 16 0] (pV (fun S' => Fr fN2 S S' ∧ (S' 16 0 4 = 0 ∧ S' 16 0 5 = 0))) := by
  refine Kt.of (cc := cX0_forget) (nL := 1) (ret := none) (own := RX0) rfl hD (by decide) rfl (Nat.le_of_ble_eq_true rfl) ⟨rfl, rfl⟩ ?_
  intro E hC hR9
  have f26 : Cond.fieldLink RX0 26 "MirrorBench$FormList" "length" "I" ∈ wsX0_forget := by decide +kernel
  have f30 : Cond.fieldLink RX0 30 "MirrorBench$FormList" "full" "Z" ∈ wsX0_forget := by decide +kernel
  have w0 : ∀ w ∈ wsX00, w ∈ wsX0_forget := by decide +kernel
  show Wk E g 1 S 0 [(0, vr g 16 0)] []
  have hfS : Fr fN2 S S := Fr.rfl _ S
  refine kw_aload_n hC dX0_forget_0 rfl 0 rfl ?_
  refine kw_iconst hC dX0_forget_1 rfl ?_
  refine kp_16_4 hC w0 f26 dX0_forget_2 rfl (by decide) (by decide) ?_
  refine kw_hv hfS (by unfold fN2; omega) (fun S1 hfS1 hv1 ho1 => ?_)
  have hvA := hv1
  refine kw_aload_n hC dX0_forget_5 rfl 0 rfl ?_
  refine kw_iconst hC dX0_forget_6 rfl ?_
  refine kp_16_5 hC w0 f30 dX0_forget_7 rfl (by decide) (by decide) (by omega) ?_
  refine kw_hv hfS1 (by unfold fN2; omega) (fun S2 hfS2 hv2 ho2 => ?_)
  exact hR9.2.2.2 rfl _ _ _ dX0_forget_10 ⟨rfl, hfS2, by rw [ho2 16 0 4 (by omega)]; exact hvA, hv2⟩
set_option maxHeartbeats 4000000 in
set_option maxRecDepth 100000 in
theorem d_X7_startAnew {g : wG} (hD : wD g) {S : wSt}  (l : Launch) : Kt l yX7_startAnew wsX7_startAnew ({ frames := 1, cells := 0, slots := 0, locals := 20 } : Room) g S [vr g 0 0] (pV (fun S' => Fr fN S S' ∧ ((∀ s, 0 ≤ s → s < 8 → S' 1 s 1 = 0) ∧ (S' 12 0 4 = 0 ∧ S' 12 0 5 = 0) ∧ S' 16 0 4 = 0 ∧ S' 16 0 5 = 0))) := by
  refine Kt.of (cc := cX7_startAnew) (nL := 2) (ret := none) (own := RX7) rfl hD (by decide) rfl (Nat.le_of_ble_eq_true rfl) ⟨rfl, rfl⟩ ?_
  intro E hC hR9
  have f25 : Cond.fieldLink RX7 25 "MirrorBench" "slots" "[LMirrorBench$Word;" ∈ wsX7_startAnew := by decide +kernel
  have f47 : Cond.fieldLink RX7 47 "MirrorBench" "rootList" "LMirrorBench$RootList;" ∈ wsX7_startAnew := by decide +kernel
  have f54 : Cond.fieldLink RX7 54 "MirrorBench" "formList" "LMirrorBench$FormList;" ∈ wsX7_startAnew := by decide +kernel
  have f131 : Cond.fieldLink RX7 131 "MirrorBench$Word" "length" "I" ∈ wsX7_startAnew := by decide +kernel
  have w6 : ∀ w ∈ wsX60, w ∈ wsX7_startAnew := by decide +kernel
  have w7 : ∀ w ∈ wsX70, w ∈ wsX7_startAnew := by decide +kernel
  show Wk E g 2 S 0 [(0, vr g 0 0)] []
  have hfS : Fr fN S S := Fr.rfl _ S
  refine kw_iconst hC dX7_startAnew_0 rfl ?_
  refine kw_istore_n (lv' := [(1, _), (0, _)]) hC dX7_startAnew_1 rfl (by decide) rfl ?_
  have hL2 : ∀ (n2 : Nat) (x : Int) (W2 : wSt), Fr fN S W2 → (0 ≤ x) → (x ≤ 8) → (∀ s, 0 ≤ s → s < x → W2 1 s 1 = 0) → 8 - x < (n2 : Int) → Wk E g 2 W2 2 [(0, vr g 0 0), (1, vi x)] [] := by
    intro n2
    induction n2 with
    | zero => intro x W2 hfW2 x0 x1 h hm2; exact absurd hm2 (by omega)
    | succ n2 ih2 =>
      intro x W2 hfW2 x0 x1 h hm2
      refine kw_iload_n hC dX7_startAnew_2 rfl 1 rfl ?_
      refine kw_bipush hC dX7_startAnew_3 rfl (by decide) ?_
      refine kw_icmp_ge (tgt := 24) hC dX7_startAnew_5 rfl (by decide) (by omega) (by omega) ⟨fun c5 => ?_, fun c5 => ?_⟩
      · refine kw_aload_n hC dX7_startAnew_24 rfl 0 rfl ?_
        refine kg_0_5 hC w7 f47 dX7_startAnew_25 rfl (by decide) (by decide) ?_
        refine kw_callV hC (d_X4_forget hD ) gX7_startAnew_X4_forget ⟨_, rfl⟩ rfl (by decide) (by decide) rfl ⟨rfl, rfl⟩ 0 (by decide +kernel) ⟨by decide, by decide⟩ rfl rfl (Nat.le_of_ble_eq_true rfl) dX7_startAnew_28 rfl (kd_v (fun S2 hp2 => ?_))
        obtain ⟨hg2, hp2⟩ := hp2
        have hfS2 : Fr fN S S2 := hfW2.trans (hg2.mono (fun k i j h => by unfold fN1 at h; unfold fN; omega))
        have h12 := hp2
        have w12 : ∀ s, 0 ≤ s → s < 8 → S2 1 s 1 = 0 := fun s a b => by rw [hg2 1 s 1 (by unfold fN1; omega)]; exact h s a (by omega)
        refine kw_aload_n hC dX7_startAnew_31 rfl 0 rfl ?_
        refine kg_0_6 hC w7 f54 dX7_startAnew_32 rfl (by decide) (by decide) ?_
        refine kw_callV hC (d_X0_forget hD ) gX7_startAnew_X0_forget ⟨_, rfl⟩ rfl (by decide) (by decide) rfl ⟨rfl, rfl⟩ 0 (by decide +kernel) ⟨by decide, by decide⟩ rfl rfl (Nat.le_of_ble_eq_true rfl) dX7_startAnew_35 rfl (kd_v (fun S3 hp3 => ?_))
        obtain ⟨hg3, hp3⟩ := hp3
        have hfS3 : Fr fN S S3 := hfS2.trans (hg3.mono (fun k i j h => by unfold fN2 at h; unfold fN; omega))
        have h16 := hp3
        exact hR9.2.2.2 rfl _ _ _ dX7_startAnew_38 ⟨rfl, hfS3, fun s a b => by rw [hg3 1 s 1 (by unfold fN2; omega)]; exact w12 s a b, by rw [hg3 12 0 4 (by unfold fN2; omega), hg3 12 0 5 (by unfold fN2; omega)]; exact h12, h16⟩
      · refine kw_aload_n hC dX7_startAnew_8 rfl 0 rfl ?_
        refine kg_0_2 hC w7 f25 dX7_startAnew_9 rfl (by decide) (by decide) ?_
        refine kw_iload_n hC dX7_startAnew_12 rfl 1 rfl ?_
        refine ka_20 hC dX7_startAnew_13 rfl (by decide) (by decide) (by omega) (by omega) ?_
        refine kw_iconst hC dX7_startAnew_14 rfl ?_
        refine kp_1_1 hC w6 f131 dX7_startAnew_15 rfl (by omega) (by omega) ?_
        refine kw_hv hfW2 (by unfold fN; omega) (fun S4 hfS4 hv4 ho4 => ?_)
        refine kw_iinc (lv' := [(1, _), (0, _)]) hC dX7_startAnew_18 rfl 1 rfl (by decide) rfl ?_
        refine kw_goto (tgt := 2) hC dX7_startAnew_21 rfl (by decide) ?_
        refine kw_lv [1, 0] rfl ?_
        exact ih2 (x + 1) S4 hfS4 (by omega) (by omega) (fun s a b => by rcases Decidable.em (s = x) with e | e; exact (by rw [e]; exact hv4); exact (ho4 1 s 1 (by omega)).trans (h s a (by omega))) (by omega)
  refine kw_lv [1, 0] rfl ?_
  exact hL2 9 0 S hfS (by omega) (by omega) (fun s _ _ => by omega) (by omega)
set_option maxHeartbeats 4000000 in
set_option maxRecDepth 100000 in
theorem d_X3_addMirror {g : wG} (hD : wD g) {S : wSt} {p a : Int} (p0 : 0 ≤ p) (p1 : p < 17) (s0 : 0 ≤ S 3 p 2) (s1 : S 3 p 2 < 6) (l : Launch) : Kt l yX3_addMirror wsX3_addMirror ({ frames := 0, cells := 0, slots := 0, locals := 0 } : Room) g S [vr g 3 p, vi a] (pI (fun r S' => Fr (fT3 p) S S' ∧ (r = S 3 p 2 ∧ S' 3 p 2 = S 3 p 2 + 1 ∧ S' 4 p (S 3 p 2) = a ∧ (∀ j, j ≠ S 3 p 2 → S' 4 p j = S 4 p j) ∧ ∀ j, S' 5 p j = S 5 p j))) := by
  refine Kt.of (cc := cX3_addMirror) (nL := 2) (ret := (some .int)) (own := RX3) rfl hD (by decide) rfl (Nat.le_of_ble_eq_true rfl) ⟨rfl, rfl⟩ ?_
  intro E hC hR9
  have f9 : Cond.fieldLink RX3 9 "MirrorBench$Mirrors" "kinds" "[I" ∈ wsX3_addMirror := by decide +kernel
  have f18 : Cond.fieldLink RX3 18 "MirrorBench$Mirrors" "size" "I" ∈ wsX3_addMirror := by decide +kernel
  have w3 : ∀ w ∈ wsX30, w ∈ wsX3_addMirror := by decide +kernel
  show Wk E g 2 S 0 [(0, vr g 3 p), (1, vi a)] []
  have hfS : Fr (fT3 p) S S := Fr.rfl _ S
  refine kw_aload_n hC dX3_addMirror_0 rfl 0 rfl ?_
  refine kg_3_0 hC w3 f9 dX3_addMirror_1 rfl (by omega) (by omega) ?_
  refine kw_aload_n hC dX3_addMirror_4 rfl 0 rfl ?_
  refine kg_3_2 hC w3 f18 dX3_addMirror_5 rfl (by omega) (by omega) ?_
  refine kw_iload_n hC dX3_addMirror_8 rfl 1 rfl ?_
  refine ks_4 hC dX3_addMirror_9 rfl (by omega) (by omega) (by omega) (by omega) ?_
  refine kw_hv hfS (by unfold fT3; omega) (fun S1 hfS1 hv1 ho1 => ?_)
  have hvA := hv1
  have hoA := ho1
  refine kw_aload_n hC dX3_addMirror_10 rfl 0 rfl ?_
  refine kw_dup hC dX3_addMirror_11 rfl rfl ?_
  refine kg_3_2 hC w3 f18 dX3_addMirror_12 rfl (by omega) (by omega) ?_
  refine kw_chi (z' := S 3 p 2) (hoA 3 p 2 (by omega)) ?_
  refine kw_iconst hC dX3_addMirror_15 rfl ?_
  refine kw_iadd hC dX3_addMirror_16 rfl ?_
  refine kp_3_2 hC w3 f18 dX3_addMirror_17 rfl (by omega) (by omega) ?_
  refine kw_hv hfS1 (by unfold fT3; omega) (fun S2 hfS2 hv2 ho2 => ?_)
  refine kw_aload_n hC dX3_addMirror_20 rfl 0 rfl ?_
  refine kg_3_2 hC w3 f18 dX3_addMirror_21 rfl (by omega) (by omega) ?_
  refine kw_chi (z' := S 3 p 2 + 1) hv2 ?_
  refine kw_iconst hC dX3_addMirror_24 rfl ?_
  refine kw_isub hC dX3_addMirror_25 rfl ?_
  exact hR9.1 rfl _ _ _ _ dX3_addMirror_26 ⟨_, rfl, hfS2, by omega, hv2, by rw [ho2 4 p _ (by omega)]; exact hvA, fun j hj => by rw [ho2 4 p j (by omega)]; exact hoA 4 p j (by omega), fun j => by rw [ho2 5 p j (by omega)]; exact hoA 5 p j (by omega)⟩
set_option maxHeartbeats 4000000 in
set_option maxRecDepth 100000 in
theorem d_X3_setNumbers {g : wG} (hD : wD g) {S : wSt} {p a b c d : Int} (p0 : 0 ≤ p) (p1 : p < 17) (a0 : 0 ≤ a) (a1 : a < 6) (b0 : 0 ≤ b) (b1 : b < 6) (l : Launch) : Kt l yX3_setNumbers wsX3_setNumbers ({ frames := 0, cells := 0, slots := 0, locals := 0 } : Room) g S [vr g 3 p, vi a, vi b, vi c, vi d] (pV (fun S' => Fr (fT3 p) S S' ∧ (S' 5 p (6 * b + a) = d ∧ (a ≠ b ∨ c = d → S' 5 p (6 * a + b) = c) ∧ (∀ q, q ≠ 6 * a + b → q ≠ 6 * b + a → S' 5 p q = S 5 p q) ∧ S' 3 p 2 = S 3 p 2 ∧ ∀ j, S' 4 p j = S 4 p j))) := by
  refine Kt.of (cc := cX3_setNumbers) (nL := 5) (ret := none) (own := RX3) rfl hD (by decide) rfl (Nat.le_of_ble_eq_true rfl) ⟨rfl, rfl⟩ ?_
  intro E hC hR9
  have f15 : Cond.fieldLink RX3 15 "MirrorBench$Mirrors" "numbers" "[I" ∈ wsX3_setNumbers := by decide +kernel
  have w3 : ∀ w ∈ wsX30, w ∈ wsX3_setNumbers := by decide +kernel
  show Wk E g 5 S 0 [(0, vr g 3 p), (1, vi a), (2, vi b), (3, vi c), (4, vi d)] []
  have hfS : Fr (fT3 p) S S := Fr.rfl _ S
  refine kw_aload_n hC dX3_setNumbers_0 rfl 0 rfl ?_
  refine kg_3_1 hC w3 f15 dX3_setNumbers_1 rfl (by omega) (by omega) ?_
  refine kw_iload_n hC dX3_setNumbers_4 rfl 1 rfl ?_
  refine kw_bipush hC dX3_setNumbers_5 rfl (by decide) ?_
  refine kw_imul hC dX3_setNumbers_7 rfl ?_
  refine kw_iload_n hC dX3_setNumbers_8 rfl 2 rfl ?_
  rw [Int.mul_comm a 6]
  refine kw_iadd hC dX3_setNumbers_9 rfl ?_
  refine kw_iload_n hC dX3_setNumbers_10 rfl 3 rfl ?_
  refine ks_5 hC dX3_setNumbers_11 rfl (by omega) (by omega) (by omega) (by omega) ?_
  refine kw_hv hfS (by unfold fT3; omega) (fun S1 hfS1 hv1 ho1 => ?_)
  have hvA := hv1
  have hoA := ho1
  refine kw_aload_n hC dX3_setNumbers_12 rfl 0 rfl ?_
  refine kg_3_1 hC w3 f15 dX3_setNumbers_13 rfl (by omega) (by omega) ?_
  refine kw_iload_n hC dX3_setNumbers_16 rfl 2 rfl ?_
  refine kw_bipush hC dX3_setNumbers_17 rfl (by decide) ?_
  refine kw_imul hC dX3_setNumbers_19 rfl ?_
  refine kw_iload_n hC dX3_setNumbers_20 rfl 1 rfl ?_
  refine kw_iadd hC dX3_setNumbers_21 rfl ?_
  rw [Int.mul_comm b 6]
  refine kw_iload hC dX3_setNumbers_22 rfl 4 rfl ?_
  refine ks_5 hC dX3_setNumbers_24 rfl (by omega) (by omega) (by omega) (by omega) ?_
  refine kw_hv hfS1 (by unfold fT3; omega) (fun S2 hfS2 hv2 ho2 => ?_)
  exact hR9.2.2.2 rfl _ _ _ dX3_setNumbers_25 ⟨rfl, hfS2, hv2, fun q => by rcases Decidable.em (a = b) with e | e; exact (by rw [e] at hv2 ⊢; rw [hv2]; omega); exact (by rw [ho2 5 p _ (by omega)]; exact hvA), fun q q1 q2 => by rw [ho2 5 p q (by omega)]; exact hoA 5 p q (by omega), by rw [ho2 3 p 2 (by omega)]; exact hoA 3 p 2 (by omega), fun j => by rw [ho2 4 p j (by omega)]; exact hoA 4 p j (by omega)⟩
set_option maxHeartbeats 4000000 in
set_option maxRecDepth 100000 in
theorem d_X7_mirror {g : wG} (hD : wD g) {S : wSt} {a : Int} (ha : -2147483648 ≤ a ∧ a ≤ 2147483647) (hRS : CI S) (l : Launch) : Kt l yX7_mirror wsX7_mirror ({ frames := 3, cells := 0, slots := 0, locals := 68 } : Room) g S [vr g 0 0, vi a] (pI (fun r S' => CI S' ∧ Fr tY S S' ∧ ∀ x, AC S x → AC S' (aMirror a x) ∧ r = rMirror a x)) := by
  refine Kt.of (cc := cX7_mirror) (nL := 3) (ret := (some .int)) (own := RX7) rfl hD (by decide) rfl (Nat.le_of_ble_eq_true rfl) ⟨rfl, rfl⟩ ?_
  intro E hC hR9
  have f12 : Cond.fieldLink RX7 12 "MirrorBench" "set" "LMirrorBench$Mirrors;" ∈ wsX7_mirror := by decide +kernel
  have f19 : Cond.fieldLink RX7 19 "MirrorBench" "history" "LMirrorBench$History;" ∈ wsX7_mirror := by decide +kernel
  have f83 : Cond.fieldLink RX7 83 "MirrorBench$Mirrors" "size" "I" ∈ wsX7_mirror := by decide +kernel
  have w3 : ∀ w ∈ wsX30, w ∈ wsX7_mirror := by decide +kernel
  have w7 : ∀ w ∈ wsX70, w ∈ wsX7_mirror := by decide +kernel
  show Wk E g 3 S 0 [(0, vr g 0 0), (1, vi a)] []
  have hfS : Fr tY S S := Fr.rfl _ S
  have hn := hRS.n
  refine kw_iload_n hC dX7_mirror_0 rfl 1 rfl ?_
  refine kw_callS hC (d_X7_isKind hD (by omega)) gX7_mirror_X7_isKind rfl ⟨rfl, rfl⟩ 1 (by decide +kernel) ⟨by decide, by decide⟩ rfl rfl (Nat.le_of_ble_eq_true rfl) dX7_mirror_1 rfl (kd_ie ?_)
  refine kw_ifne_b (tgt := 9) hC dX7_mirror_4 rfl (by decide) ⟨fun c4 => ?_, fun c4 => ?_⟩
  · refine kw_aload_n hC dX7_mirror_9 rfl 0 rfl ?_
    refine kg_0_0 hC w7 f12 dX7_mirror_10 rfl (by decide) (by decide) ?_
    refine kg_3_2 hC w3 f83 dX7_mirror_13 rfl (by omega) (by omega) ?_
    refine kw_bipush hC dX7_mirror_16 rfl (by decide) ?_
    refine kw_icmp_ne (tgt := 24) hC dX7_mirror_18 rfl (by decide) (by omega) (by omega) ⟨fun c18 => ?_, fun c18 => ?_⟩
    · refine kw_aload_n hC dX7_mirror_24 rfl 0 rfl ?_
      refine kg_0_1 hC w7 f19 dX7_mirror_25 rfl (by decide) (by decide) ?_
      refine kw_aload_n hC dX7_mirror_28 rfl 0 rfl ?_
      refine kg_0_0 hC w7 f12 dX7_mirror_29 rfl (by decide) (by decide) ?_
      refine kw_callV hC (d_X1_keep hD hRS) gX7_mirror_X1_keep ⟨_, rfl⟩ rfl (by decide) (by decide) rfl ⟨rfl, rfl⟩ 1 (by decide +kernel) ⟨by decide, by decide⟩ rfl rfl (Nat.le_of_ble_eq_true rfl) dX7_mirror_32 rfl (kd_v (fun S3 hp3 => ?_))
      obtain ⟨hg3, hp3⟩ := hp3
      have hfS3 : Fr tY S S3 := hfS.trans (hg3.mono (fun k i j h => by unfold fH at h; unfold tY; omega))
      have hK := hp3
      have hgK := hg3
      have k0 : S3 3 16 2 = S 3 16 2 := hg3 3 16 2 (by unfold fH; omega)
      have k4 : ∀ j, S3 4 16 j = S 4 16 j := fun j => hg3 4 16 j (by unfold fH; omega)
      have k5 : ∀ j, S3 5 16 j = S 5 16 j := fun j => hg3 5 16 j (by unfold fH; omega)
      refine kw_aload_n hC dX7_mirror_35 rfl 0 rfl ?_
      refine kg_0_0 hC w7 f12 dX7_mirror_36 rfl (by decide) (by decide) ?_
      refine kw_iload_n hC dX7_mirror_39 rfl 1 rfl ?_
      refine kw_callV hC (d_X3_addMirror hD (by omega) (by omega) (by omega) (by omega)) gX7_mirror_X3_addMirror ⟨_, rfl⟩ rfl (by omega) (show (16 : Int) < 17 by omega) rfl ⟨rfl, rfl⟩ 1 (by decide +kernel) ⟨by decide, by decide⟩ rfl rfl (Nat.le_of_ble_eq_true rfl) dX7_mirror_40 rfl (kd_i (fun r4 S4 hp4 => ?_))
      obtain ⟨hg4, hp4⟩ := hp4
      have hfS4 : Fr tY S S4 := hfS3.trans (hg4.mono (fun k i j h => by unfold fT3 at h; unfold tY; omega))
      obtain ⟨hr9, y2, y3, y4, y5⟩ := hp4
      have hgM := hg4
      refine kw_istore_n (lv' := [(2, _), (0, _), (1, _)]) hC dX7_mirror_43 rfl (by decide) rfl ?_
      refine kw_aload_n hC dX7_mirror_44 rfl 1 rfl ?_
      refine kw_callV hC (d_X7_startAnew hD ) gX7_mirror_X7_startAnew ⟨_, rfl⟩ rfl (by decide) (by decide) rfl ⟨rfl, rfl⟩ 0 (by decide +kernel) ⟨by decide, by decide⟩ rfl rfl (Nat.le_of_ble_eq_true rfl) dX7_mirror_45 rfl (kd_v (fun S5 hp5 => ?_))
      obtain ⟨hg5, hp5⟩ := hp5
      have hfS5 : Fr tY S S5 := hfS4.trans (hg5.mono (fun k i j h => by unfold fN at h; unfold tY; omega))
      obtain ⟨hw1, h12, h16⟩ := hp5
      have z3 : ∀ c j, S5 3 c j = S4 3 c j := fun c j => hg5 3 c j (by unfold fN; omega)
      have z4 : ∀ c j, S5 4 c j = S4 4 c j := fun c j => hg5 4 c j (by unfold fN; omega)
      have z5 : ∀ c j, S5 5 c j = S4 5 c j := fun c j => hg5 5 c j (by unfold fN; omega)
      have z8 : ∀ j, S5 8 0 j = S4 8 0 j := fun j => hg5 8 0 j (by unfold fN; omega)
      have n3 : S5 3 16 2 = S 3 16 2 + 1 := by rw [z3, y2, k0]
      have n4 : S5 4 16 (S 3 16 2) = a := by rw [z4, ← k0]; exact y3
      have n4o : ∀ i, i ≠ S 3 16 2 → S5 4 16 i = S 4 16 i := fun i hi => by rw [z4, y4 i (by omega), k4]
      have n5 : ∀ j, S5 5 16 j = S 5 16 j := fun j => by rw [z5, y5, k5]
      have hK9 : KpC S S5 := hK.tr hRS.hs.1 (fun c hc => by rw [z3]; exact hgM 3 c 2 (by unfold fT3; omega)) (fun c j hc => by rw [z4]; exact hgM 4 c j (by unfold fT3; omega)) (fun c j hc => by rw [z5]; exact hgM 5 c j (by unfold fT3; omega)) (fun j => by rw [z8]; exact hgM 8 0 j (by unfold fT3; omega))
      have hz9 : ∀ j, 0 ≤ j → j < 6 → S5 5 16 (6 * S 3 16 2 + j) = 0 ∧ S5 5 16 (6 * j + S 3 16 2) = 0 := fun j j0 j1 => by rw [n5, n5]; exact ⟨hRS.zb _ j (by omega) (by omega) j0 j1 (by omega), hRS.zb j _ j0 j1 (by omega) (by omega) (by omega)⟩
      have hi8 : CI S5 := hK9.ci hRS ⟨by rw [n3]; exact hRS.set.mirror (by omega) (by omega) n4 n4o hz9 (fun i j _ _ _ _ _ _ => n5 _), fun i j i0 i1 j0 j1 hh => by rw [n5]; rw [n3] at hh; exact hRS.zb i j i0 i1 j0 j1 (by omega)⟩ hfS5 hw1 h12 h16
      refine kw_iload_n hC dX7_mirror_48 rfl 0 rfl ?_
      exact hR9.1 rfl _ _ _ _ dX7_mirror_49 ⟨_, rfl, hi8, hfS5, fun x hx => by have e := hx.1.1; have hk9 : 0 ≤ a ∧ a ≤ 2 := (by omega); have h6 : ¬ x.1.1 = 6 := (by omega); unfold aMirror rMirror; rw [if_pos hk9, if_pos hk9, if_neg h6, if_neg h6]; exact ⟨hK9.ac hRS hx (by rw [n3]; exact hx.1.mirror (by omega) n4 n4o hz9 (fun i j _ _ _ _ _ _ => n5 _)), by omega⟩⟩
    · refine kw_bipush hC dX7_mirror_21 rfl (by decide) ?_
      exact hR9.1 rfl _ _ _ _ dX7_mirror_23 ⟨_, rfl, hRS, Fr.rfl _ S, fun x hx => by have e := hx.1.1; have e4 := hx.2.1; unfold aMirror rMirror; rw [if_pos (by omega), if_pos (by omega), if_pos (by omega), if_pos (by omega)]; exact ⟨hx, rfl⟩⟩
  · refine kw_iconst hC dX7_mirror_7 rfl ?_
    exact hR9.1 rfl _ _ _ _ dX7_mirror_8 ⟨_, rfl, hRS, Fr.rfl _ S, fun x hx => by have e := hx.1.1; have e4 := hx.2.1; unfold aMirror rMirror; rw [if_neg (by omega), if_neg (by omega)]; exact ⟨hx, rfl⟩⟩
set_option maxHeartbeats 4000000 in
set_option maxRecDepth 100000 in
theorem d_X7_areMeetingNumbers {g : wG} (hD : wD g) {S : wSt} {a b : Int} (ha : -2147483648 ≤ a ∧ a ≤ 2147483647) (hb : -2147483648 ≤ b ∧ b ≤ 2147483647) (l : Launch) : Kt l yX7_areMeetingNumbers wsX7_areMeetingNumbers ({ frames := 0, cells := 0, slots := 0, locals := 0 } : Room) g S [vi a, vi b] (pI (fun r S' => r = bz ((0 ≤ a ∧ 0 ≤ b) ∧ (a = 0 ↔ b = 0) ∧ a * b ≤ 4) ∧ S' = S)) := by
  refine Kt.of (cc := cX7_areMeetingNumbers) (nL := 2) (ret := (some .boolean)) (own := RX7) rfl hD (by decide) rfl (Nat.le_of_ble_eq_true rfl) ⟨rfl, rfl⟩ ?_
  intro E hC hR9
  show Wk E g 2 S 0 [(0, vi a), (1, vi b)] []
  refine kw_iload_n hC dX7_areMeetingNumbers_0 rfl 0 rfl ?_
  refine kw_if_lt (tgt := 18) hC dX7_areMeetingNumbers_1 rfl (by decide) (by omega) ⟨fun c1 => ?_, fun c1 => ?_⟩
  · refine kw_iconst hC dX7_areMeetingNumbers_18 rfl ?_
    exact hR9.2.1 rfl _ _ _ _ dX7_areMeetingNumbers_19 (by omega) ⟨_, rfl, (bz_f (fun q => by obtain ⟨q1, q2, q3⟩ := q; have := @mul_big a b; omega)).symm, rfl⟩
  · refine kw_iload_n hC dX7_areMeetingNumbers_4 rfl 1 rfl ?_
    refine kw_if_lt (tgt := 18) hC dX7_areMeetingNumbers_5 rfl (by decide) (by omega) ⟨fun c5 => ?_, fun c5 => ?_⟩
    · refine kw_iconst hC dX7_areMeetingNumbers_18 rfl ?_
      exact hR9.2.1 rfl _ _ _ _ dX7_areMeetingNumbers_19 (by omega) ⟨_, rfl, (bz_f (fun q => by obtain ⟨q1, q2, q3⟩ := q; have := @mul_big a b; omega)).symm, rfl⟩
    · refine kw_iload_n hC dX7_areMeetingNumbers_8 rfl 0 rfl ?_
      refine kw_iconst hC dX7_areMeetingNumbers_9 rfl ?_
      refine kw_icmp_gt (tgt := 18) hC dX7_areMeetingNumbers_10 rfl (by decide) (by omega) (by omega) ⟨fun c10 => ?_, fun c10 => ?_⟩
      · refine kw_iconst hC dX7_areMeetingNumbers_18 rfl ?_
        exact hR9.2.1 rfl _ _ _ _ dX7_areMeetingNumbers_19 (by omega) ⟨_, rfl, (bz_f (fun q => by obtain ⟨q1, q2, q3⟩ := q; have := @mul_big a b; omega)).symm, rfl⟩
      · refine kw_iload_n hC dX7_areMeetingNumbers_13 rfl 1 rfl ?_
        refine kw_iconst hC dX7_areMeetingNumbers_14 rfl ?_
        refine kw_icmp_le (tgt := 20) hC dX7_areMeetingNumbers_15 rfl (by decide) (by omega) (by omega) ⟨fun c15 => ?_, fun c15 => ?_⟩
        · refine kw_iload_n hC dX7_areMeetingNumbers_20 rfl 0 rfl ?_
          refine kw_if_ne (tgt := 28) hC dX7_areMeetingNumbers_21 rfl (by decide) (by omega) ⟨fun c21 => ?_, fun c21 => ?_⟩
          · refine kw_iconst hC dX7_areMeetingNumbers_28 rfl ?_
            refine kw_iload_n hC dX7_areMeetingNumbers_29 rfl 1 rfl ?_
            refine kw_if_ne (tgt := 37) hC dX7_areMeetingNumbers_30 rfl (by decide) (by omega) ⟨fun c30 => ?_, fun c30 => ?_⟩
            · refine kw_iconst hC dX7_areMeetingNumbers_37 rfl ?_
              refine kw_icmp_ne (tgt := 52) hC dX7_areMeetingNumbers_38 rfl (by decide) (by omega) (by omega) ⟨fun c38 => ?_, fun c38 => ?_⟩
              · refine kw_iconst hC dX7_areMeetingNumbers_52 rfl ?_
                exact hR9.2.1 rfl _ _ _ _ dX7_areMeetingNumbers_53 (by omega) ⟨_, rfl, by first | exact (bz_t (by omega)).symm | exact (bz_f (by omega)).symm, rfl⟩
              · refine kw_iload_n hC dX7_areMeetingNumbers_41 rfl 0 rfl ?_
                refine kw_iload_n hC dX7_areMeetingNumbers_42 rfl 1 rfl ?_
                refine kw_imul hC dX7_areMeetingNumbers_43 rfl ?_
                refine kw_iconst hC dX7_areMeetingNumbers_44 rfl ?_
                refine kw_icmp_gt (tgt := 52) hC dX7_areMeetingNumbers_45 rfl (by decide) (by have := mul_rng (c := a) (d := b) (by omega) (by omega) (by omega) (by omega); have h9 := Int.mul_le_mul (show a ≤ 4 by omega) (show b ≤ 4 by omega) (by omega) (by omega); omega) (by omega) ⟨fun c45 => ?_, fun c45 => ?_⟩
                · refine kw_iconst hC dX7_areMeetingNumbers_52 rfl ?_
                  exact hR9.2.1 rfl _ _ _ _ dX7_areMeetingNumbers_53 (by omega) ⟨_, rfl, by first | exact (bz_t (by omega)).symm | exact (bz_f (by omega)).symm, rfl⟩
                · refine kw_iconst hC dX7_areMeetingNumbers_48 rfl ?_
                  refine kw_goto (tgt := 53) hC dX7_areMeetingNumbers_49 rfl (by decide) ?_
                  exact hR9.2.1 rfl _ _ _ _ dX7_areMeetingNumbers_53 (by omega) ⟨_, rfl, by first | exact (bz_t (by omega)).symm | exact (bz_f (by omega)).symm, rfl⟩
            · refine kw_iconst hC dX7_areMeetingNumbers_33 rfl ?_
              refine kw_goto (tgt := 38) hC dX7_areMeetingNumbers_34 rfl (by decide) ?_
              refine kw_icmp_ne (tgt := 52) hC dX7_areMeetingNumbers_38 rfl (by decide) (by omega) (by omega) ⟨fun c38 => ?_, fun c38 => ?_⟩
              · refine kw_iconst hC dX7_areMeetingNumbers_52 rfl ?_
                exact hR9.2.1 rfl _ _ _ _ dX7_areMeetingNumbers_53 (by omega) ⟨_, rfl, by first | exact (bz_t (by omega)).symm | exact (bz_f (by omega)).symm, rfl⟩
              · refine kw_iload_n hC dX7_areMeetingNumbers_41 rfl 0 rfl ?_
                refine kw_iload_n hC dX7_areMeetingNumbers_42 rfl 1 rfl ?_
                refine kw_imul hC dX7_areMeetingNumbers_43 rfl ?_
                refine kw_iconst hC dX7_areMeetingNumbers_44 rfl ?_
                refine kw_icmp_gt (tgt := 52) hC dX7_areMeetingNumbers_45 rfl (by decide) (by have := mul_rng (c := a) (d := b) (by omega) (by omega) (by omega) (by omega); have h9 := Int.mul_le_mul (show a ≤ 4 by omega) (show b ≤ 4 by omega) (by omega) (by omega); omega) (by omega) ⟨fun c45 => ?_, fun c45 => ?_⟩
                · refine kw_iconst hC dX7_areMeetingNumbers_52 rfl ?_
                  exact hR9.2.1 rfl _ _ _ _ dX7_areMeetingNumbers_53 (by omega) ⟨_, rfl, by first | exact (bz_t (by omega)).symm | exact (bz_f (by omega)).symm, rfl⟩
                · refine kw_iconst hC dX7_areMeetingNumbers_48 rfl ?_
                  refine kw_goto (tgt := 53) hC dX7_areMeetingNumbers_49 rfl (by decide) ?_
                  exact hR9.2.1 rfl _ _ _ _ dX7_areMeetingNumbers_53 (by omega) ⟨_, rfl, by first | exact (bz_t (by omega)).symm | exact (bz_f (by omega)).symm, rfl⟩
          · refine kw_iconst hC dX7_areMeetingNumbers_24 rfl ?_
            refine kw_goto (tgt := 29) hC dX7_areMeetingNumbers_25 rfl (by decide) ?_
            refine kw_iload_n hC dX7_areMeetingNumbers_29 rfl 1 rfl ?_
            refine kw_if_ne (tgt := 37) hC dX7_areMeetingNumbers_30 rfl (by decide) (by omega) ⟨fun c30 => ?_, fun c30 => ?_⟩
            · refine kw_iconst hC dX7_areMeetingNumbers_37 rfl ?_
              refine kw_icmp_ne (tgt := 52) hC dX7_areMeetingNumbers_38 rfl (by decide) (by omega) (by omega) ⟨fun c38 => ?_, fun c38 => ?_⟩
              · refine kw_iconst hC dX7_areMeetingNumbers_52 rfl ?_
                exact hR9.2.1 rfl _ _ _ _ dX7_areMeetingNumbers_53 (by omega) ⟨_, rfl, by first | exact (bz_t (by omega)).symm | exact (bz_f (by omega)).symm, rfl⟩
              · refine kw_iload_n hC dX7_areMeetingNumbers_41 rfl 0 rfl ?_
                refine kw_iload_n hC dX7_areMeetingNumbers_42 rfl 1 rfl ?_
                refine kw_imul hC dX7_areMeetingNumbers_43 rfl ?_
                refine kw_iconst hC dX7_areMeetingNumbers_44 rfl ?_
                refine kw_icmp_gt (tgt := 52) hC dX7_areMeetingNumbers_45 rfl (by decide) (by have := mul_rng (c := a) (d := b) (by omega) (by omega) (by omega) (by omega); have h9 := Int.mul_le_mul (show a ≤ 4 by omega) (show b ≤ 4 by omega) (by omega) (by omega); omega) (by omega) ⟨fun c45 => ?_, fun c45 => ?_⟩
                · refine kw_iconst hC dX7_areMeetingNumbers_52 rfl ?_
                  exact hR9.2.1 rfl _ _ _ _ dX7_areMeetingNumbers_53 (by omega) ⟨_, rfl, by first | exact (bz_t (by omega)).symm | exact (bz_f (by omega)).symm, rfl⟩
                · refine kw_iconst hC dX7_areMeetingNumbers_48 rfl ?_
                  refine kw_goto (tgt := 53) hC dX7_areMeetingNumbers_49 rfl (by decide) ?_
                  exact hR9.2.1 rfl _ _ _ _ dX7_areMeetingNumbers_53 (by omega) ⟨_, rfl, by first | exact (bz_t (by omega)).symm | exact (bz_f (by omega)).symm, rfl⟩
            · refine kw_iconst hC dX7_areMeetingNumbers_33 rfl ?_
              refine kw_goto (tgt := 38) hC dX7_areMeetingNumbers_34 rfl (by decide) ?_
              refine kw_icmp_ne (tgt := 52) hC dX7_areMeetingNumbers_38 rfl (by decide) (by omega) (by omega) ⟨fun c38 => ?_, fun c38 => ?_⟩
              · refine kw_iconst hC dX7_areMeetingNumbers_52 rfl ?_
                exact hR9.2.1 rfl _ _ _ _ dX7_areMeetingNumbers_53 (by omega) ⟨_, rfl, by first | exact (bz_t (by omega)).symm | exact (bz_f (by omega)).symm, rfl⟩
              · refine kw_iload_n hC dX7_areMeetingNumbers_41 rfl 0 rfl ?_
                refine kw_iload_n hC dX7_areMeetingNumbers_42 rfl 1 rfl ?_
                refine kw_imul hC dX7_areMeetingNumbers_43 rfl ?_
                refine kw_iconst hC dX7_areMeetingNumbers_44 rfl ?_
                refine kw_icmp_gt (tgt := 52) hC dX7_areMeetingNumbers_45 rfl (by decide) (by have := mul_rng (c := a) (d := b) (by omega) (by omega) (by omega) (by omega); have h9 := Int.mul_le_mul (show a ≤ 4 by omega) (show b ≤ 4 by omega) (by omega) (by omega); omega) (by omega) ⟨fun c45 => ?_, fun c45 => ?_⟩
                · refine kw_iconst hC dX7_areMeetingNumbers_52 rfl ?_
                  exact hR9.2.1 rfl _ _ _ _ dX7_areMeetingNumbers_53 (by omega) ⟨_, rfl, by first | exact (bz_t (by omega)).symm | exact (bz_f (by omega)).symm, rfl⟩
                · refine kw_iconst hC dX7_areMeetingNumbers_48 rfl ?_
                  refine kw_goto (tgt := 53) hC dX7_areMeetingNumbers_49 rfl (by decide) ?_
                  exact hR9.2.1 rfl _ _ _ _ dX7_areMeetingNumbers_53 (by omega) ⟨_, rfl, by first | exact (bz_t (by omega)).symm | exact (bz_f (by omega)).symm, rfl⟩
        · refine kw_iconst hC dX7_areMeetingNumbers_18 rfl ?_
          exact hR9.2.1 rfl _ _ _ _ dX7_areMeetingNumbers_19 (by omega) ⟨_, rfl, (bz_f (fun q => by obtain ⟨q1, q2, q3⟩ := q; have := @mul_big a b; omega)).symm, rfl⟩
set_option maxHeartbeats 4000000 in
set_option maxRecDepth 100000 in
theorem d_X7_meet {g : wG} (hD : wD g) {S : wSt} {a b c d : Int} (ha : -2147483648 ≤ a ∧ a ≤ 2147483647) (hb : -2147483648 ≤ b ∧ b ≤ 2147483647) (hc : -2147483648 ≤ c ∧ c ≤ 2147483647) (hd : -2147483648 ≤ d ∧ d ≤ 2147483647) (hRS : CI S) (l : Launch) : Kt l yX7_meet wsX7_meet ({ frames := 3, cells := 0, slots := 0, locals := 68 } : Room) g S [vr g 0 0, vi a, vi b, vi c, vi d] (pI (fun r S' => CI S' ∧ Fr tY S S' ∧ ∀ x, AC S x → AC S' (aMeet a b c d x) ∧ r = rMeet a b c d x)) := by
  refine Kt.of (cc := cX7_meet) (nL := 5) (ret := (some .int)) (own := RX7) rfl hD (by decide) rfl (Nat.le_of_ble_eq_true rfl) ⟨rfl, rfl⟩ ?_
  intro E hC hR9
  have f12 : Cond.fieldLink RX7 12 "MirrorBench" "set" "LMirrorBench$Mirrors;" ∈ wsX7_meet := by decide +kernel
  have f19 : Cond.fieldLink RX7 19 "MirrorBench" "history" "LMirrorBench$History;" ∈ wsX7_meet := by decide +kernel
  have w7 : ∀ w ∈ wsX70, w ∈ wsX7_meet := by decide +kernel
  show Wk E g 5 S 0 [(0, vr g 0 0), (1, vi a), (2, vi b), (3, vi c), (4, vi d)] []
  have hfS : Fr tY S S := Fr.rfl _ S
  have hn := hRS.n
  refine kw_aload_n hC dX7_meet_0 rfl 0 rfl ?_
  refine kg_0_0 hC w7 f12 dX7_meet_1 rfl (by decide) (by decide) ?_
  refine kw_iload_n hC dX7_meet_4 rfl 1 rfl ?_
  refine kw_callV hC (d_X3_has hD (by omega) (by omega) (by omega) (by omega) (by omega)) gX7_meet_X3_has ⟨_, rfl⟩ rfl (by omega) (show (16 : Int) < 17 by omega) rfl ⟨rfl, rfl⟩ 1 (by decide +kernel) ⟨by decide, by decide⟩ rfl rfl (Nat.le_of_ble_eq_true rfl) dX7_meet_5 rfl (kd_ie ?_)
  refine kw_ifeq_b (tgt := 36) hC dX7_meet_8 rfl (by decide) ⟨fun c8 => ?_, fun c8 => ?_⟩
  · refine kw_iconst hC dX7_meet_36 rfl ?_
    exact hR9.1 rfl _ _ _ _ dX7_meet_37 ⟨_, rfl, hRS, Fr.rfl _ S, fun x hx => by have e := hx.1.1; have hno : ¬ oMeet a b c d x.1.1 := (fun q => by obtain ⟨⟨q1, q2⟩, q3, q4, q5, q6⟩ := q; first | omega | exact c33 ⟨q4, q5, q6⟩); unfold aMeet rMeet; rw [if_neg hno, if_neg hno]; exact ⟨hx, rfl⟩⟩
  · refine kw_aload_n hC dX7_meet_11 rfl 0 rfl ?_
    refine kg_0_0 hC w7 f12 dX7_meet_12 rfl (by decide) (by decide) ?_
    refine kw_iload_n hC dX7_meet_15 rfl 2 rfl ?_
    refine kw_callV hC (d_X3_has hD (by omega) (by omega) (by omega) (by omega) (by omega)) gX7_meet_X3_has ⟨_, rfl⟩ rfl (by omega) (show (16 : Int) < 17 by omega) rfl ⟨rfl, rfl⟩ 1 (by decide +kernel) ⟨by decide, by decide⟩ rfl rfl (Nat.le_of_ble_eq_true rfl) dX7_meet_16 rfl (kd_ie ?_)
    refine kw_ifeq_b (tgt := 36) hC dX7_meet_19 rfl (by decide) ⟨fun c19 => ?_, fun c19 => ?_⟩
    · refine kw_iconst hC dX7_meet_36 rfl ?_
      exact hR9.1 rfl _ _ _ _ dX7_meet_37 ⟨_, rfl, hRS, Fr.rfl _ S, fun x hx => by have e := hx.1.1; have hno : ¬ oMeet a b c d x.1.1 := (fun q => by obtain ⟨⟨q1, q2⟩, q3, q4, q5, q6⟩ := q; first | omega | exact c33 ⟨q4, q5, q6⟩); unfold aMeet rMeet; rw [if_neg hno, if_neg hno]; exact ⟨hx, rfl⟩⟩
    · refine kw_iload_n hC dX7_meet_22 rfl 1 rfl ?_
      refine kw_iload_n hC dX7_meet_23 rfl 2 rfl ?_
      refine kw_icmp_eq (tgt := 36) hC dX7_meet_24 rfl (by decide) (by omega) (by omega) ⟨fun c24 => ?_, fun c24 => ?_⟩
      · refine kw_iconst hC dX7_meet_36 rfl ?_
        exact hR9.1 rfl _ _ _ _ dX7_meet_37 ⟨_, rfl, hRS, Fr.rfl _ S, fun x hx => by have e := hx.1.1; have hno : ¬ oMeet a b c d x.1.1 := (fun q => by obtain ⟨⟨q1, q2⟩, q3, q4, q5, q6⟩ := q; first | omega | exact c33 ⟨q4, q5, q6⟩); unfold aMeet rMeet; rw [if_neg hno, if_neg hno]; exact ⟨hx, rfl⟩⟩
      · refine kw_iload_n hC dX7_meet_27 rfl 3 rfl ?_
        refine kw_iload hC dX7_meet_28 rfl 4 rfl ?_
        refine kw_callS hC (d_X7_areMeetingNumbers hD (by omega) (by omega)) gX7_meet_X7_areMeetingNumbers rfl ⟨rfl, rfl⟩ 2 (by decide +kernel) ⟨by decide, by decide⟩ rfl rfl (Nat.le_of_ble_eq_true rfl) dX7_meet_30 rfl (kd_ie ?_)
        refine kw_ifne_b (tgt := 38) hC dX7_meet_33 rfl (by decide) ⟨fun c33 => ?_, fun c33 => ?_⟩
        · refine kw_aload_n hC dX7_meet_38 rfl 0 rfl ?_
          refine kg_0_1 hC w7 f19 dX7_meet_39 rfl (by decide) (by decide) ?_
          refine kw_aload_n hC dX7_meet_42 rfl 0 rfl ?_
          refine kg_0_0 hC w7 f12 dX7_meet_43 rfl (by decide) (by decide) ?_
          refine kw_callV hC (d_X1_keep hD hRS) gX7_meet_X1_keep ⟨_, rfl⟩ rfl (by decide) (by decide) rfl ⟨rfl, rfl⟩ 1 (by decide +kernel) ⟨by decide, by decide⟩ rfl rfl (Nat.le_of_ble_eq_true rfl) dX7_meet_46 rfl (kd_v (fun S5 hp5 => ?_))
          obtain ⟨hg5, hp5⟩ := hp5
          have hfS5 : Fr tY S S5 := hfS.trans (hg5.mono (fun k i j h => by unfold fH at h; unfold tY; omega))
          have hK := hp5
          have hgK := hg5
          have k0 : S5 3 16 2 = S 3 16 2 := hg5 3 16 2 (by unfold fH; omega)
          have k4 : ∀ j, S5 4 16 j = S 4 16 j := fun j => hg5 4 16 j (by unfold fH; omega)
          have k5 : ∀ j, S5 5 16 j = S 5 16 j := fun j => hg5 5 16 j (by unfold fH; omega)
          refine kw_aload_n hC dX7_meet_49 rfl 0 rfl ?_
          refine kg_0_0 hC w7 f12 dX7_meet_50 rfl (by decide) (by decide) ?_
          refine kw_iload_n hC dX7_meet_53 rfl 1 rfl ?_
          refine kw_iload_n hC dX7_meet_54 rfl 2 rfl ?_
          refine kw_iload_n hC dX7_meet_55 rfl 3 rfl ?_
          refine kw_iload hC dX7_meet_56 rfl 4 rfl ?_
          refine kw_callV hC (d_X3_setNumbers hD (by omega) (by omega) (by omega) (by omega) (by omega) (by omega)) gX7_meet_X3_setNumbers ⟨_, rfl⟩ rfl (by omega) (show (16 : Int) < 17 by omega) rfl ⟨rfl, rfl⟩ 4 (by decide +kernel) ⟨by decide, by decide⟩ rfl rfl (Nat.le_of_ble_eq_true rfl) dX7_meet_58 rfl (kd_v (fun S6 hp6 => ?_))
          obtain ⟨hg6, hp6⟩ := hp6
          have hfS6 : Fr tY S S6 := hfS5.trans (hg6.mono (fun k i j h => by unfold fT3 at h; unfold tY; omega))
          obtain ⟨y1, y2, y3, y4, y5⟩ := hp6
          have hgM := hg6
          refine kw_aload_n hC dX7_meet_61 rfl 0 rfl ?_
          refine kw_callV hC (d_X7_startAnew hD ) gX7_meet_X7_startAnew ⟨_, rfl⟩ rfl (by decide) (by decide) rfl ⟨rfl, rfl⟩ 0 (by decide +kernel) ⟨by decide, by decide⟩ rfl rfl (Nat.le_of_ble_eq_true rfl) dX7_meet_62 rfl (kd_v (fun S7 hp7 => ?_))
          obtain ⟨hg7, hp7⟩ := hp7
          have hfS7 : Fr tY S S7 := hfS6.trans (hg7.mono (fun k i j h => by unfold fN at h; unfold tY; omega))
          obtain ⟨hw1, h12, h16⟩ := hp7
          have z3 : ∀ c j, S7 3 c j = S6 3 c j := fun c j => hg7 3 c j (by unfold fN; omega)
          have z4 : ∀ c j, S7 4 c j = S6 4 c j := fun c j => hg7 4 c j (by unfold fN; omega)
          have z5 : ∀ c j, S7 5 c j = S6 5 c j := fun c j => hg7 5 c j (by unfold fN; omega)
          have z8 : ∀ j, S7 8 0 j = S6 8 0 j := fun j => hg7 8 0 j (by unfold fN; omega)
          have n3 : S7 3 16 2 = S 3 16 2 := by rw [z3, y4, k0]
          have n4 : ∀ j, S7 4 16 j = S 4 16 j := fun j => by rw [z4, y5, k4]
          have m1 : S7 5 16 (6 * a + b) = c := by rw [z5]; exact y2 (Or.inl c24)
          have m2 : S7 5 16 (6 * b + a) = d := by rw [z5]; exact y1
          have m3 : ∀ p, p ≠ 6 * a + b → p ≠ 6 * b + a → S7 5 16 p = S 5 16 p := fun p q1 q2 => by rw [z5, y3 p q1 q2, k5]
          have hK9 : KpC S S7 := hK.tr hRS.hs.1 (fun c hc => by rw [z3]; exact hgM 3 c 2 (by unfold fT3; omega)) (fun c j hc => by rw [z4]; exact hgM 4 c j (by unfold fT3; omega)) (fun c j hc => by rw [z5]; exact hgM 5 c j (by unfold fT3; omega)) (fun j => by rw [z8]; exact hgM 8 0 j (by unfold fT3; omega))
          have hi8 : CI S7 := hK9.ci hRS ⟨by rw [n3]; exact hRS.set.meet (by omega) (by omega) c24 c33.1 c33.2.1 c33.2.2 n4 m1 m2 m3, fun i j i0 i1 j0 j1 hh => by rw [n3] at hh; rw [m3 _ (by omega) (by omega)]; exact hRS.zb i j i0 i1 j0 j1 hh⟩ hfS7 hw1 h12 h16
          refine kw_aload_n hC dX7_meet_65 rfl 0 rfl ?_
          refine kg_0_0 hC w7 f12 dX7_meet_66 rfl (by decide) (by decide) ?_
          refine kw_iload_n hC dX7_meet_69 rfl 1 rfl ?_
          refine kw_iload_n hC dX7_meet_70 rfl 2 rfl ?_
          refine kw_callV hC (d_X3_meetsAt hD (by omega) (by omega) (by omega) (by omega) hi8) gX7_meet_X3_meetsAt ⟨_, rfl⟩ rfl (by omega) (show (16 : Int) < 17 by omega) rfl ⟨rfl, rfl⟩ 2 (by decide +kernel) ⟨by decide, by decide⟩ rfl rfl (Nat.le_of_ble_eq_true rfl) dX7_meet_71 rfl (kd_ie ?_)
          exact hR9.1 rfl _ _ _ _ dX7_meet_74 ⟨_, rfl, hi8, hfS7, fun x hx => by have e := hx.1.1; have hyes : oMeet a b c d x.1.1 := ⟨⟨by omega, by omega⟩, c24, c33.1, c33.2.1, c33.2.2⟩; unfold aMeet rMeet; rw [if_pos hyes, if_pos hyes, m1, m2]; exact ⟨hK9.ac hRS hx (by rw [n3]; exact hx.1.meet hn.2 (by omega) (by omega) c24 n4 m1 m2 m3), rfl⟩⟩
        · refine kw_iconst hC dX7_meet_36 rfl ?_
          exact hR9.1 rfl _ _ _ _ dX7_meet_37 ⟨_, rfl, hRS, Fr.rfl _ S, fun x hx => by have e := hx.1.1; have hno : ¬ oMeet a b c d x.1.1 := (fun q => by obtain ⟨⟨q1, q2⟩, q3, q4, q5, q6⟩ := q; first | omega | exact c33 ⟨q4, q5, q6⟩); unfold aMeet rMeet; rw [if_neg hno, if_neg hno]; exact ⟨hx, rfl⟩⟩
theorem CI.kind {S S' : wSt} (h : CI S) {a b : Int} (hb : 0 ≤ b ∧ b ≤ 2) (hk : S' 4 16 a = b) (hko : ∀ p, p ≠ a → S' 4 16 p = S 4 16 p) (ho : ∀ k i j, ¬ (k = 4 ∧ i = 16) → S' k i j = S k i j) : CI S' := by
  obtain ⟨h1, h2, h3, h4, h5, h6, h7, h8⟩ := h
  have e (k : Nat) (i : Int) (hk : ¬ (k = 4 ∧ i = 16)) : S' k i = S k i := funext fun j => ho k i j hk
  refine ⟨⟨⟨by rw [e 3 16 (by omega)]; exact h1.1.1, fun i i0 i1 => ?_, by rw [e 5 16 (by omega)]; exact h1.1.2.2⟩, by rw [e 3 16 (by omega), e 5 16 (by omega)]; exact h1.2⟩, by rw [e 8 0 (by omega)]; exact h2, fun c c0 c1 => by rw [e 3 c (by omega), e 4 c (by omega), e 5 c (by omega)]; exact h3 c c0 c1, fun s s0 s1 => by rw [e 1 s (by omega), e 2 s (by omega), e 3 16 (by omega)]; exact h4 s s0 s1, fun l l0 l1 => by rw [e 6 l (by omega)]; exact h5 l l0 l1, fun l j l0 l1 j0 j1 => by rw [e 7 l (by omega)]; exact h6 l j l0 l1 j0 j1, by unfold RLI; rw [e 12 0 (by omega), e 13 0 (by omega), e 14 0 (by omega), e 15 0 (by omega), e 5 16 (by omega), e 3 16 (by omega)]; exact h7, by unfold FLI; rw [e 16 0 (by omega), e 17 0 (by omega), e 18 0 (by omega), e 3 16 (by omega)]; exact h8⟩
  by_cases e : i = a
  · rw [e, hk]; exact hb
  · rw [hko i e]; exact h1.1.2.1 i i0 i1
theorem AC.kind {S S' : wSt} {x : aS} (h : AC S x) {a b : Int} (hk : S' 4 16 a = b) (hko : ∀ p, p ≠ a → S' 4 16 p = S 4 16 p) (ho : ∀ k i j, ¬ (k = 4 ∧ i = 16) → S' k i j = S k i j) (ha : 0 ≤ S 8 0 1) : AC S' ((x.1.1, fun p => if p = a then b else x.1.2.1 p, x.1.2.2), x.2) := by
  obtain ⟨h1, h2, h3⟩ := h
  have e (k : Nat) (i : Int) (hk : ¬ (k = 4 ∧ i = 16)) : S' k i = S k i := funext fun j => ho k i j hk
  unfold AC
  rw [e 3 16 (by omega), e 8 0 (by omega)]
  refine ⟨h1.kind hk hko (fun j => ho 5 16 j (by omega)), h2, fun t t0 t1 => ?_⟩
  rw [e 3 _ (by omega), e 4 _ (by omega), e 5 _ (by omega)]
  exact h3 t t0 t1
theorem AC.undo {S S' : wSt} {x : aS} (h : AC S x) (hR : CI S) (hc : ¬ S 8 0 2 = 0) (g1 : S' 8 0 1 = (S 8 0 1 + 15) % 16) (g2 : S' 8 0 2 = S 8 0 2 - 1) (gn : S' 3 16 2 = S 3 ((S 8 0 1 + 15) % 16) 2) (g4 : ∀ j, 0 ≤ j → j < 6 → S' 4 16 j = S 4 ((S 8 0 1 + 15) % 16) j) (g5 : ∀ j, 0 ≤ j → j < 36 → S' 5 16 j = S 5 ((S 8 0 1 + 15) % 16) j) (go : ∀ k c j, k = 3 ∨ k = 4 ∨ k = 5 → c < 16 → S' k c j = S k c j) : AC S' (x.2.2 0, x.2.1 - 1, fun t => x.2.2 (t + 1)) := by
  obtain ⟨h1, h2, h3⟩ := h
  have hh := hR.hs
  have h0 := h3 0 (by omega) (by omega)
  rw [show (S 8 0 1 - 1 - 0) % 16 = (S 8 0 1 + 15) % 16 by omega] at h0
  refine ⟨h0.congr (hR.kp _ (by omega) (by omega)).1.1.2 gn g4 g5, by show S' 8 0 2 = x.2.1 - 1; omega, fun t t0 t1 => ?_⟩
  have t1 : t < x.2.1 - 1 := t1
  have h5 := h3 (t + 1) (by omega) (by omega)
  rw [g1, show ((S 8 0 1 + 15) % 16 - 1 - t) % 16 = (S 8 0 1 - 1 - (t + 1)) % 16 by omega]
  have e (k : Nat) (hk : k = 3 ∨ k = 4 ∨ k = 5) : S' k ((S 8 0 1 - 1 - (t + 1)) % 16) = S k ((S 8 0 1 - 1 - (t + 1)) % 16) := funext fun j => go k _ j hk (by omega)
  rw [e 3 (by omega), e 4 (by omega), e 5 (by omega)]
  exact h5
def tK (k : Nat) (i j : Int) : Prop := k = 6 ∨ k = 7
def fLe (w : Int) (k : Nat) (i j : Int) : Prop := (k = 6 ∨ k = 7) ∧ i = w
theorem CI.lfs {S S' : wSt} (h : CI S) (f : Fr tK S S') (h5' : ∀ l, 0 ≤ l → l < 4 → (S' 6 l 1 = 0 ∨ S' 6 l 1 = 1) ∧ (0 ≤ S' 6 l 2 ∧ S' 6 l 2 ≤ 2) ∧ 0 ≤ S' 6 l 3 ∧ S' 6 l 3 ≤ 40) (h6' : ∀ l j, 0 ≤ l → l < 4 → 0 ≤ j → j < 40 → -9223372036854775808 ≤ S' 7 l j ∧ S' 7 l j ≤ 9223372036854775807) : CI S' := by
  have e (k : Nat) (i : Int) (hk : k ≠ 6 ∧ k ≠ 7) : S' k i = S k i := funext fun j => f k i j (by unfold tK; omega)
  obtain ⟨h1, h2, h3, h4, -, -, h7, h8⟩ := h
  exact ⟨by rw [e 3 16 (by omega), e 4 16 (by omega), e 5 16 (by omega)]; exact h1, by rw [e 8 0 (by omega)]; exact h2, fun c c0 c1 => by rw [e 3 c (by omega), e 4 c (by omega), e 5 c (by omega)]; exact h3 c c0 c1, fun s s0 s1 => by rw [e 1 s (by omega), e 2 s (by omega), e 3 16 (by omega)]; exact h4 s s0 s1, h5', h6', by unfold RLI; rw [e 12 0 (by omega), e 13 0 (by omega), e 14 0 (by omega), e 15 0 (by omega), e 5 16 (by omega), e 3 16 (by omega)]; exact h7, by unfold FLI; rw [e 16 0 (by omega), e 17 0 (by omega), e 18 0 (by omega), e 3 16 (by omega)]; exact h8⟩
