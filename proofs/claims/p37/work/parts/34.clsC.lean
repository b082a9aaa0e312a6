def fT3 (w : Int) (k : Nat) (i j : Int) : Prop := (k = 3 ∨ k = 4 ∨ k = 5) ∧ i = w

def fH (k : Nat) (i j : Int) : Prop := ((k = 3 ∨ k = 4 ∨ k = 5) ∧ i < 16) ∨ k = 8

def fN (k : Nat) (i j : Int) : Prop := k = 1 ∨ k = 12 ∨ k = 16

def fN1 (k : Nat) (i j : Int) : Prop := k = 12

def fN2 (k : Nat) (i j : Int) : Prop := k = 16

def fU (k : Nat) (i j : Int) : Prop := k = 3 ∨ k = 4 ∨ k = 5 ∨ k = 8

set_option maxHeartbeats 4000000 in
set_option maxRecDepth 100000 in
theorem d_X3_take {g : wG} (hD : wD g) {S : wSt} {p q : Int} (p0 : 0 ≤ p) (p1 : p < 17) (q0 : 0 ≤ q) (q1 : q < 17) (hpq : p ≠ q) (l : Launch) : Kt l yX3_take wsX3_take ({ frames := 1, cells := 0, slots := 0, locals := 26 } : Room) g S [vr g 3 p, vr g 3 q] (pV (fun S' => Fr (fT3 p) S S' ∧ (S' 3 p 2 = S 3 q 2 ∧ (∀ j, 0 ≤ j → j < 6 → S' 4 p j = S 4 q j) ∧ ∀ j, 0 ≤ j → j < 36 → S' 5 p j = S 5 q j))) := by
  refine Kt.of (cc := cX3_take) (nL := 2) (ret := none) (own := RX3) rfl hD (by decide) rfl (Nat.le_of_ble_eq_true rfl) ⟨rfl, rfl⟩ ?_
  intro E hC hR9
  have f9 : Cond.fieldLink RX3 9 "MirrorBench$Mirrors" "kinds" "[I" ∈ wsX3_take := by decide +kernel
  have f15 : Cond.fieldLink RX3 15 "MirrorBench$Mirrors" "numbers" "[I" ∈ wsX3_take := by decide +kernel
  have f18 : Cond.fieldLink RX3 18 "MirrorBench$Mirrors" "size" "I" ∈ wsX3_take := by decide +kernel
  have w3 : ∀ w ∈ wsX30, w ∈ wsX3_take := by decide +kernel
  show Wk E g 2 S 0 [(0, vr g 3 p), (1, vr g 3 q)] []
  have hfS : Fr (fT3 p) S S := Fr.rfl _ S
  refine kw_aload_n hC dX3_take_0 rfl 1 rfl ?_
  refine kg_3_0 hC w3 f9 dX3_take_1 rfl (by omega) (by omega) ?_
  refine kw_iconst hC dX3_take_4 rfl ?_
  refine kw_aload_n hC dX3_take_5 rfl 0 rfl ?_
  refine kg_3_0 hC w3 f9 dX3_take_6 rfl (by omega) (by omega) ?_
  refine kw_iconst hC dX3_take_9 rfl ?_
  refine kw_bipush hC dX3_take_10 rfl (by decide) ?_
  refine kw_copyi (k0 := 4) (k1 := 4) (n0 := 6) (n1 := 6) hC (by decide +kernel) (by decide +kernel) (by decide +kernel) (by decide +kernel) (by decide) (Nat.le_of_ble_eq_true rfl) (fun _ => rfl) (fun _ => rfl) (by decide) (by decide) (by omega) (show (_ : Int) < 17 by omega) (by omega) (show (_ : Int) < 17 by omega) (by omega) (by omega) (by omega) (by omega) (by omega) dX3_take_12 rfl ?_
  refine kw_hc hfS (fun j => by unfold fT3; omega) (fun S1 hfS1 hvC hoC => ?_)
  have hv4 := hvC
  have ho4 := hoC
  refine kw_aload_n hC dX3_take_15 rfl 1 rfl ?_
  refine kg_3_1 hC w3 f15 dX3_take_16 rfl (by omega) (by omega) ?_
  refine kw_iconst hC dX3_take_19 rfl ?_
  refine kw_aload_n hC dX3_take_20 rfl 0 rfl ?_
  refine kg_3_1 hC w3 f15 dX3_take_21 rfl (by omega) (by omega) ?_
  refine kw_iconst hC dX3_take_24 rfl ?_
  refine kw_bipush hC dX3_take_25 rfl (by decide) ?_
  refine kw_copyi (k0 := 5) (k1 := 5) (n0 := 36) (n1 := 36) hC (by decide +kernel) (by decide +kernel) (by decide +kernel) (by decide +kernel) (by decide) (Nat.le_of_ble_eq_true rfl) (fun _ => rfl) (fun _ => rfl) (by decide) (by decide) (by omega) (show (_ : Int) < 17 by omega) (by omega) (show (_ : Int) < 17 by omega) (by omega) (by omega) (by omega) (by omega) (by omega) dX3_take_27 rfl ?_
  refine kw_hc hfS1 (fun j => by unfold fT3; omega) (fun S2 hfS2 hvC hoC => ?_)
  refine kw_aload_n hC dX3_take_30 rfl 0 rfl ?_
  refine kw_aload_n hC dX3_take_31 rfl 1 rfl ?_
  refine kg_3_2 hC w3 f18 dX3_take_32 rfl (by omega) (by omega) ?_
  refine kw_chi (z' := S 3 q 2) ((hoC 3 q 2 (by omega)).trans (ho4 3 q 2 (by omega))) ?_
  refine kp_3_2 hC w3 f18 dX3_take_35 rfl (by omega) (by omega) ?_
  refine kw_hv hfS2 (by unfold fT3; omega) (fun S3 hfS3 hv3 ho3 => ?_)
  exact hR9.2.2.2 rfl _ _ _ dX3_take_38 ⟨rfl, hfS3, hv3, fun j j0 j1 => by rw [ho3 4 p j (by omega), hoC 4 p j (by omega), hv4 j j0 (by omega), show 0 + (j - 0) = j by omega], fun j j0 j1 => by rw [ho3 5 p j (by omega), hvC j j0 (by omega), ho4 5 q _ (by omega), show 0 + (j - 0) = j by omega]⟩

set_option maxHeartbeats 4000000 in
set_option maxRecDepth 100000 in
theorem d_X1_keep {g : wG} (hD : wD g) {S : wSt} (hRS : CI S) (l : Launch) : Kt l yX1_keep wsX1_keep ({ frames := 2, cells := 0, slots := 0, locals := 47 } : Room) g S [vr g 8 0, vr g 3 16] (pV (fun S' => Fr fH S S' ∧ KpC S S')) := by
  refine Kt.of (cc := cX1_keep) (nL := 2) (ret := none) (own := RX1) rfl hD (by decide) rfl (Nat.le_of_ble_eq_true rfl) ⟨rfl, rfl⟩ ?_
  intro E hC hR9
  have f11 : Cond.fieldLink RX1 11 "MirrorBench$History" "kept" "[LMirrorBench$Mirrors;" ∈ wsX1_keep := by decide +kernel
  have f18 : Cond.fieldLink RX1 18 "MirrorBench$History" "after" "I" ∈ wsX1_keep := by decide +kernel
  have f26 : Cond.fieldLink RX1 26 "MirrorBench$History" "steps" "I" ∈ wsX1_keep := by decide +kernel
  have w1 : ∀ w ∈ wsX10, w ∈ wsX1_keep := by decide +kernel
  show Wk E g 2 S 0 [(0, vr g 8 0), (1, vr g 3 16)] []
  have hfS : Fr fH S S := Fr.rfl _ S
  have hh := hRS.hs
  refine kw_aload_n hC dX1_keep_0 rfl 0 rfl ?_
  refine kg_8_0 hC w1 f11 dX1_keep_1 rfl (by decide) (by decide) ?_
  refine kw_aload_n hC dX1_keep_4 rfl 0 rfl ?_
  refine kg_8_1 hC w1 f18 dX1_keep_5 rfl (by decide) (by decide) ?_
  refine ka_9 hC dX1_keep_8 rfl (by decide) (by decide) (by omega) (by omega) ?_
  refine kw_aload_n hC dX1_keep_9 rfl 1 rfl ?_
  refine kw_callV hC (d_X3_take hD (by omega) (by omega) (by omega) (by omega) (by omega)) gX1_keep_X3_take ⟨_, rfl⟩ rfl (by omega) (show (_ : Int) < 17 by omega) rfl ⟨rfl, rfl⟩ 1 (by decide +kernel) ⟨by decide, by decide⟩ rfl rfl (Nat.le_of_ble_eq_true rfl) dX1_keep_10 rfl (kd_v (fun S1 hp1 => ?_))
  obtain ⟨hg1, hp1⟩ := hp1
  have hfS1 : Fr fH S S1 := hfS.trans (hg1.mono (fun k i j h => by unfold fT3 at h; unfold fH; omega))
  obtain ⟨y1, y2, y3⟩ := hp1
  have gA := hg1
  refine kw_aload_n hC dX1_keep_13 rfl 0 rfl ?_
  refine kw_aload_n hC dX1_keep_14 rfl 0 rfl ?_
  refine kg_8_1 hC w1 f18 dX1_keep_15 rfl (by decide) (by decide) ?_
  refine kw_chi (z' := S 8 0 1) (gA 8 0 1 (by unfold fT3; omega)) ?_
  refine kw_iconst hC dX1_keep_18 rfl ?_
  refine kw_iadd hC dX1_keep_19 rfl ?_
  refine kw_bipush hC dX1_keep_20 rfl (by decide) ?_
  refine kw_irem hC dX1_keep_22 rfl (by omega) (by omega) ?_
  refine kp_8_1 hC w1 f18 dX1_keep_23 rfl (by decide) (by decide) ?_
  refine kw_hv hfS1 (by unfold fH; omega) (fun S2 hfS2 hv2 ho2 => ?_)
  have hvA := hv2
  have hoA := ho2
  have e2 : S2 8 0 2 = S 8 0 2 := (ho2 8 0 2 (by omega)).trans (gA 8 0 2 (by unfold fT3; omega))
  have hK : (if S 8 0 2 = 16 then 16 else S 8 0 2 + 1 : Int) = S2 8 0 2 → KpC S S2 := fun q => ⟨hvA, q.symm, ⟨by rw [hoA 3 _ 2 (by omega)]; exact y1, fun j a b => by rw [hoA 4 _ j (by omega)]; exact y2 j a b, fun j a b => by rw [hoA 5 _ j (by omega)]; exact y3 j a b⟩, fun c c0 c1 hc => ⟨by rw [hoA 3 c 2 (by omega)]; exact gA 3 c 2 (by unfold fT3; omega), fun j => by rw [hoA 4 c j (by omega)]; exact gA 4 c j (by unfold fT3; omega), fun j => by rw [hoA 5 c j (by omega)]; exact gA 5 c j (by unfold fT3; omega)⟩⟩
  refine kw_aload_n hC dX1_keep_26 rfl 0 rfl ?_
  refine kg_8_2 hC w1 f26 dX1_keep_27 rfl (by decide) (by decide) ?_
  refine kw_chi (z' := S 8 0 2) e2 ?_
  refine kw_bipush hC dX1_keep_30 rfl (by decide) ?_
  refine kw_icmp_ge (tgt := 45) hC dX1_keep_32 rfl (by decide) (by omega) (by omega) ⟨fun c32 => ?_, fun c32 => ?_⟩
  · exact hR9.2.2.2 rfl _ _ _ dX1_keep_45 (by first | exact ⟨rfl, hfS2, hK (by rw [e2, if_pos (by omega)]; omega)⟩ | exact ⟨rfl, hfS2, (by rw [ho2 8 0 1 (by omega)]; exact hvA), (by rw [hv2, if_neg (by omega)]), ⟨by rw [ho2 3 _ 2 (by omega), hoA 3 _ 2 (by omega)]; exact y1, fun j a b => by rw [ho2 4 _ j (by omega), hoA 4 _ j (by omega)]; exact y2 j a b, fun j a b => by rw [ho2 5 _ j (by omega), hoA 5 _ j (by omega)]; exact y3 j a b⟩, fun c c0 c1 hc => ⟨by rw [ho2 3 c 2 (by omega), hoA 3 c 2 (by omega)]; exact gA 3 c 2 (by unfold fT3; omega), fun j => by rw [ho2 4 c j (by omega), hoA 4 c j (by omega)]; exact gA 4 c j (by unfold fT3; omega), fun j => by rw [ho2 5 c j (by omega), hoA 5 c j (by omega)]; exact gA 5 c j (by unfold fT3; omega)⟩⟩)
  · refine kw_aload_n hC dX1_keep_35 rfl 0 rfl ?_
    refine kw_dup hC dX1_keep_36 rfl rfl ?_
    refine kg_8_2 hC w1 f26 dX1_keep_37 rfl (by decide) (by decide) ?_
    refine kw_chi (z' := S 8 0 2) e2 ?_
    refine kw_iconst hC dX1_keep_40 rfl ?_
    refine kw_iadd hC dX1_keep_41 rfl ?_
    refine kp_8_2 hC w1 f26 dX1_keep_42 rfl (by decide) (by decide) ?_
    refine kw_hv hfS2 (by unfold fH; omega) (fun S4 hfS4 hv4 ho4 => ?_)
    exact hR9.2.2.2 rfl _ _ _ dX1_keep_45 (by first | exact ⟨rfl, hfS4, hK (by rw [e2, if_pos (by omega)]; omega)⟩ | exact ⟨rfl, hfS4, (by rw [ho4 8 0 1 (by omega)]; exact hvA), (by rw [hv4, if_neg (by omega)]), ⟨by rw [ho4 3 _ 2 (by omega), hoA 3 _ 2 (by omega)]; exact y1, fun j a b => by rw [ho4 4 _ j (by omega), hoA 4 _ j (by omega)]; exact y2 j a b, fun j a b => by rw [ho4 5 _ j (by omega), hoA 5 _ j (by omega)]; exact y3 j a b⟩, fun c c0 c1 hc => ⟨by rw [ho4 3 c 2 (by omega), hoA 3 c 2 (by omega)]; exact gA 3 c 2 (by unfold fT3; omega), fun j => by rw [ho4 4 c j (by omega), hoA 4 c j (by omega)]; exact gA 4 c j (by unfold fT3; omega), fun j => by rw [ho4 5 c j (by omega), hoA 5 c j (by omega)]; exact gA 5 c j (by unfold fT3; omega)⟩⟩)

set_option maxHeartbeats 4000000 in
set_option maxRecDepth 100000 in
theorem d_X4_forget {g : wG} (hD : wD g) {S : wSt}  (l : Launch) : Kt l yX4_forget wsX4_forget ({ frames := 0, cells := 0, slots := 0, locals := 0 } : Room) g S [vr g 12 0] (pV (fun S' => Fr fN1 S S' ∧ (S' 12 0 4 = 0 ∧ S' 12 0 5 = 0))) := by
  refine Kt.of (cc := cX4_forget) (nL := 1) (ret := none) (own := RX4) rfl hD (by decide) rfl (Nat.le_of_ble_eq_true rfl) ⟨rfl, rfl⟩ ?_
  intro E hC hR9
  have f26 : Cond.fieldLink RX4 26 "MirrorBench$RootList" "height" "I" ∈ wsX4_forget := by decide +kernel
  have f30 : Cond.fieldLink RX4 30 "MirrorBench$RootList" "full" "Z" ∈ wsX4_forget := by decide +kernel
  have w4 : ∀ w ∈ wsX40, w ∈ wsX4_forget := by decide +kernel
  show Wk E g 1 S 0 [(0, vr g 12 0)] []
  have hfS : Fr fN1 S S := Fr.rfl _ S
  refine kw_aload_n hC dX4_forget_0 rfl 0 rfl ?_
  refine kw_iconst hC dX4_forget_1 rfl ?_
  refine kp_12_4 hC w4 f26 dX4_forget_2 rfl (by decide) (by decide) ?_
  refine kw_hv hfS (by unfold fN1; omega) (fun S1 hfS1 hv1 ho1 => ?_)
  have hvA := hv1
  refine kw_aload_n hC dX4_forget_5 rfl 0 rfl ?_
  refine kw_iconst hC dX4_forget_6 rfl ?_
  refine kp_12_5 hC w4 f30 dX4_forget_7 rfl (by decide) (by decide) (by omega) ?_
  refine kw_hv hfS1 (by unfold fN1; omega) (fun S2 hfS2 hv2 ho2 => ?_)
  exact hR9.2.2.2 rfl _ _ _ dX4_forget_10 ⟨rfl, hfS2, by rw [ho2 12 0 4 (by omega)]; exact hvA, hv2⟩

set_option maxHeartbeats 4000000 in
set_option maxRecDepth 100000 in
theorem d_X0_forget {g : wG} (hD : wD g) {S : wSt}  (l : Launch) : Kt l yX0_forget wsX0_forget ({ frames := 0, cells := 0, slots := 0, locals := 0 } : Room) g S [vr g 16 0] (pV (fun S' => Fr fN2 S S' ∧ (S' 16 0 4 = 0 ∧ S' 16 0 5 = 0))) := by
  refine Kt.of (cc := cX0_forget) (nL := 1) (ret := none) (own := RX0) rfl hD (by decide) rfl (Nat.le_of_ble_eq_true rfl) ⟨rfl, rfl⟩ ?_
  intro E hC hR9
  have f26 : Cond.fieldLink RX0 26 "MirrorBench$FormList" "length" "I" ∈ wsX0_forget := by decide +kernel
  have f30 : Cond.fieldLink RX0 30 "MirrorBench$FormList" "full" "Z" ∈ wsX0_forget := by decide +kernel
  have w0 : ∀ w ∈ wsX00, w ∈ wsX0_forget := by decide +kernel
  show Wk E g 1 S 0 [(0, vr g 16 0)] []
  have hfS : Fr fN2 S S := Fr.rfl _ S
  refine kw_aload_n hC dX0_forget_0 rfl 0 rfl ?_
  refine kw_iconst hC dX0_forget_1 rfl ?_
  refine kp_16_4 hC w0 f26 dX0_forget_2 rfl (by decide) (by decide) ?_
  refine kw_hv hfS (by unfold fN2; omega) (fun S1 hfS1 hv1 ho1 => ?_)
  have hvA := hv1
  refine kw_aload_n hC dX0_forget_5 rfl 0 rfl ?_
  refine kw_iconst hC dX0_forget_6 rfl ?_
  refine kp_16_5 hC w0 f30 dX0_forget_7 rfl (by decide) (by decide) (by omega) ?_
  refine kw_hv hfS1 (by unfold fN2; omega) (fun S2 hfS2 hv2 ho2 => ?_)
  exact hR9.2.2.2 rfl _ _ _ dX0_forget_10 ⟨rfl, hfS2, by rw [ho2 16 0 4 (by omega)]; exact hvA, hv2⟩

set_option maxHeartbeats 4000000 in
set_option maxRecDepth 100000 in
theorem d_X7_startAnew {g : wG} (hD : wD g) {S : wSt}  (l : Launch) : Kt l yX7_startAnew wsX7_startAnew ({ frames := 1, cells := 0, slots := 0, locals := 20 } : Room) g S [vr g 0 0] (pV (fun S' => Fr fN S S' ∧ ((∀ s, 0 ≤ s → s < 8 → S' 1 s 1 = 0) ∧ (S' 12 0 4 = 0 ∧ S' 12 0 5 = 0) ∧ S' 16 0 4 = 0 ∧ S' 16 0 5 = 0))) := by
  refine Kt.of (cc := cX7_startAnew) (nL := 2) (ret := none) (own := RX7) rfl hD (by decide) rfl (Nat.le_of_ble_eq_true rfl) ⟨rfl, rfl⟩ ?_
  intro E hC hR9
  have f25 : Cond.fieldLink RX7 25 "MirrorBench" "slots" "[LMirrorBench$Word;" ∈ wsX7_startAnew := by decide +kernel
  have f47 : Cond.fieldLink RX7 47 "MirrorBench" "rootList" "LMirrorBench$RootList;" ∈ wsX7_startAnew := by decide +kernel
  have f54 : Cond.fieldLink RX7 54 "MirrorBench" "formList" "LMirrorBench$FormList;" ∈ wsX7_startAnew := by decide +kernel
  have f131 : Cond.fieldLink RX7 131 "MirrorBench$Word" "length" "I" ∈ wsX7_startAnew := by decide +kernel
  have w6 : ∀ w ∈ wsX60, w ∈ wsX7_startAnew := by decide +kernel
  have w7 : ∀ w ∈ wsX70, w ∈ wsX7_startAnew := by decide +kernel
  show Wk E g 2 S 0 [(0, vr g 0 0)] []
  have hfS : Fr fN S S := Fr.rfl _ S
  refine kw_iconst hC dX7_startAnew_0 rfl ?_
  refine kw_istore_n (lv' := [(1, _), (0, _)]) hC dX7_startAnew_1 rfl (by decide) rfl ?_
  have hL2 : ∀ (n2 : Nat) (x : Int) (W2 : wSt), Fr fN S W2 → (0 ≤ x) → (x ≤ 8) → (∀ s, 0 ≤ s → s < x → W2 1 s 1 = 0) → 8 - x < (n2 : Int) → Wk E g 2 W2 2 [(0, vr g 0 0), (1, vi x)] [] := by
    intro n2
    induction n2 with
    | zero => intro x W2 hfW2 x0 x1 h hm2; exact absurd hm2 (by omega)
    | succ n2 ih2 =>
      intro x W2 hfW2 x0 x1 h hm2
      refine kw_iload_n hC dX7_startAnew_2 rfl 1 rfl ?_
      refine kw_bipush hC dX7_startAnew_3 rfl (by decide) ?_
      refine kw_icmp_ge (tgt := 24) hC dX7_startAnew_5 rfl (by decide) (by omega) (by omega) ⟨fun c5 => ?_, fun c5 => ?_⟩
      · refine kw_aload_n hC dX7_startAnew_24 rfl 0 rfl ?_
        refine kg_0_5 hC w7 f47 dX7_startAnew_25 rfl (by decide) (by decide) ?_
        refine kw_callV hC (d_X4_forget hD ) gX7_startAnew_X4_forget ⟨_, rfl⟩ rfl (by decide) (by decide) rfl ⟨rfl, rfl⟩ 0 (by decide +kernel) ⟨by decide, by decide⟩ rfl rfl (Nat.le_of_ble_eq_true rfl) dX7_startAnew_28 rfl (kd_v (fun S2 hp2 => ?_))
        obtain ⟨hg2, hp2⟩ := hp2
        have hfS2 : Fr fN S S2 := hfW2.trans (hg2.mono (fun k i j h => by unfold fN1 at h; unfold fN; omega))
        have h12 := hp2
        have w12 : ∀ s, 0 ≤ s → s < 8 → S2 1 s 1 = 0 := fun s a b => by rw [hg2 1 s 1 (by unfold fN1; omega)]; exact h s a (by omega)
        refine kw_aload_n hC dX7_startAnew_31 rfl 0 rfl ?_
        refine kg_0_6 hC w7 f54 dX7_startAnew_32 rfl (by decide) (by decide) ?_
        refine kw_callV hC (d_X0_forget hD ) gX7_startAnew_X0_forget ⟨_, rfl⟩ rfl (by decide) (by decide) rfl ⟨rfl, rfl⟩ 0 (by decide +kernel) ⟨by decide, by decide⟩ rfl rfl (Nat.le_of_ble_eq_true rfl) dX7_startAnew_35 rfl (kd_v (fun S3 hp3 => ?_))
        obtain ⟨hg3, hp3⟩ := hp3
        have hfS3 : Fr fN S S3 := hfS2.trans (hg3.mono (fun k i j h => by unfold fN2 at h; unfold fN; omega))
        have h16 := hp3
        exact hR9.2.2.2 rfl _ _ _ dX7_startAnew_38 ⟨rfl, hfS3, fun s a b => by rw [hg3 1 s 1 (by unfold fN2; omega)]; exact w12 s a b, by rw [hg3 12 0 4 (by unfold fN2; omega), hg3 12 0 5 (by unfold fN2; omega)]; exact h12, h16⟩
      · refine kw_aload_n hC dX7_startAnew_8 rfl 0 rfl ?_
        refine kg_0_2 hC w7 f25 dX7_startAnew_9 rfl (by decide) (by decide) ?_
        refine kw_iload_n hC dX7_startAnew_12 rfl 1 rfl ?_
        refine ka_20 hC dX7_startAnew_13 rfl (by decide) (by decide) (by omega) (by omega) ?_
        refine kw_iconst hC dX7_startAnew_14 rfl ?_
        refine kp_1_1 hC w6 f131 dX7_startAnew_15 rfl (by omega) (by omega) ?_
        refine kw_hv hfW2 (by unfold fN; omega) (fun S4 hfS4 hv4 ho4 => ?_)
        refine kw_iinc (lv' := [(1, _), (0, _)]) hC dX7_startAnew_18 rfl 1 rfl (by decide) rfl ?_
        refine kw_goto (tgt := 2) hC dX7_startAnew_21 rfl (by decide) ?_
        refine kw_lv [1, 0] rfl ?_
        exact ih2 (x + 1) S4 hfS4 (by omega) (by omega) (fun s a b => by rcases Decidable.em (s = x) with e | e; exact (by rw [e]; exact hv4); exact (ho4 1 s 1 (by omega)).trans (h s a (by omega))) (by omega)
  refine kw_lv [1, 0] rfl ?_
  exact hL2 9 0 S hfS (by omega) (by omega) (fun s _ _ => by omega) (by omega)

set_option maxHeartbeats 4000000 in
set_option maxRecDepth 100000 in
theorem d_X3_addMirror {g : wG} (hD : wD g) {S : wSt} {p a : Int} (p0 : 0 ≤ p) (p1 : p < 17) (s0 : 0 ≤ S 3 p 2) (s1 : S 3 p 2 < 6) (l : Launch) : Kt l yX3_addMirror wsX3_addMirror ({ frames := 0, cells := 0, slots := 0, locals := 0 } : Room) g S [vr g 3 p, vi a] (pI (fun r S' => Fr (fT3 p) S S' ∧ (r = S 3 p 2 ∧ S' 3 p 2 = S 3 p 2 + 1 ∧ S' 4 p (S 3 p 2) = a ∧ (∀ j, j ≠ S 3 p 2 → S' 4 p j = S 4 p j) ∧ ∀ j, S' 5 p j = S 5 p j))) := by
  refine Kt.of (cc := cX3_addMirror) (nL := 2) (ret := (some .int)) (own := RX3) rfl hD (by decide) rfl (Nat.le_of_ble_eq_true rfl) ⟨rfl, rfl⟩ ?_
  intro E hC hR9
  have f9 : Cond.fieldLink RX3 9 "MirrorBench$Mirrors" "kinds" "[I" ∈ wsX3_addMirror := by decide +kernel
  have f18 : Cond.fieldLink RX3 18 "MirrorBench$Mirrors" "size" "I" ∈ wsX3_addMirror := by decide +kernel
  have w3 : ∀ w ∈ wsX30, w ∈ wsX3_addMirror := by decide +kernel
  show Wk E g 2 S 0 [(0, vr g 3 p), (1, vi a)] []
  have hfS : Fr (fT3 p) S S := Fr.rfl _ S
  refine kw_aload_n hC dX3_addMirror_0 rfl 0 rfl ?_
  refine kg_3_0 hC w3 f9 dX3_addMirror_1 rfl (by omega) (by omega) ?_
  refine kw_aload_n hC dX3_addMirror_4 rfl 0 rfl ?_
  refine kg_3_2 hC w3 f18 dX3_addMirror_5 rfl (by omega) (by omega) ?_
  refine kw_iload_n hC dX3_addMirror_8 rfl 1 rfl ?_
  refine ks_4 hC dX3_addMirror_9 rfl (by omega) (by omega) (by omega) (by omega) ?_
  refine kw_hv hfS (by unfold fT3; omega) (fun S1 hfS1 hv1 ho1 => ?_)
  have hvA := hv1
  have hoA := ho1
  refine kw_aload_n hC dX3_addMirror_10 rfl 0 rfl ?_
  refine kw_dup hC dX3_addMirror_11 rfl rfl ?_
  refine kg_3_2 hC w3 f18 dX3_addMirror_12 rfl (by omega) (by omega) ?_
  refine kw_chi (z' := S 3 p 2) (hoA 3 p 2 (by omega)) ?_
  refine kw_iconst hC dX3_addMirror_15 rfl ?_
  refine kw_iadd hC dX3_addMirror_16 rfl ?_
  refine kp_3_2 hC w3 f18 dX3_addMirror_17 rfl (by omega) (by omega) ?_
  refine kw_hv hfS1 (by unfold fT3; omega) (fun S2 hfS2 hv2 ho2 => ?_)
  refine kw_aload_n hC dX3_addMirror_20 rfl 0 rfl ?_
  refine kg_3_2 hC w3 f18 dX3_addMirror_21 rfl (by omega) (by omega) ?_
  refine kw_chi (z' := S 3 p 2 + 1) hv2 ?_
  refine kw_iconst hC dX3_addMirror_24 rfl ?_
  refine kw_isub hC dX3_addMirror_25 rfl ?_
  exact hR9.1 rfl _ _ _ _ dX3_addMirror_26 ⟨_, rfl, hfS2, by omega, hv2, by rw [ho2 4 p _ (by omega)]; exact hvA, fun j hj => by rw [ho2 4 p j (by omega)]; exact hoA 4 p j (by omega), fun j => by rw [ho2 5 p j (by omega)]; exact hoA 5 p j (by omega)⟩

set_option maxHeartbeats 4000000 in
set_option maxRecDepth 100000 in
theorem d_X3_setNumbers {g : wG} (hD : wD g) {S : wSt} {p a b c d : Int} (p0 : 0 ≤ p) (p1 : p < 17) (a0 : 0 ≤ a) (a1 : a < 6) (b0 : 0 ≤ b) (b1 : b < 6) (l : Launch) : Kt l yX3_setNumbers wsX3_setNumbers ({ frames := 0, cells := 0, slots := 0, locals := 0 } : Room) g S [vr g 3 p, vi a, vi b, vi c, vi d] (pV (fun S' => Fr (fT3 p) S S' ∧ (S' 5 p (6 * b + a) = d ∧ (a ≠ b ∨ c = d → S' 5 p (6 * a + b) = c) ∧ (∀ q, q ≠ 6 * a + b → q ≠ 6 * b + a → S' 5 p q = S 5 p q) ∧ S' 3 p 2 = S 3 p 2 ∧ ∀ j, S' 4 p j = S 4 p j))) := by
  refine Kt.of (cc := cX3_setNumbers) (nL := 5) (ret := none) (own := RX3) rfl hD (by decide) rfl (Nat.le_of_ble_eq_true rfl) ⟨rfl, rfl⟩ ?_
  intro E hC hR9
  have f15 : Cond.fieldLink RX3 15 "MirrorBench$Mirrors" "numbers" "[I" ∈ wsX3_setNumbers := by decide +kernel
  have w3 : ∀ w ∈ wsX30, w ∈ wsX3_setNumbers := by decide +kernel
  show Wk E g 5 S 0 [(0, vr g 3 p), (1, vi a), (2, vi b), (3, vi c), (4, vi d)] []
  have hfS : Fr (fT3 p) S S := Fr.rfl _ S
  refine kw_aload_n hC dX3_setNumbers_0 rfl 0 rfl ?_
  refine kg_3_1 hC w3 f15 dX3_setNumbers_1 rfl (by omega) (by omega) ?_
  refine kw_iload_n hC dX3_setNumbers_4 rfl 1 rfl ?_
  refine kw_bipush hC dX3_setNumbers_5 rfl (by decide) ?_
  refine kw_imul hC dX3_setNumbers_7 rfl ?_
  refine kw_iload_n hC dX3_setNumbers_8 rfl 2 rfl ?_
  rw [Int.mul_comm a 6]
  refine kw_iadd hC dX3_setNumbers_9 rfl ?_
  refine kw_iload_n hC dX3_setNumbers_10 rfl 3 rfl ?_
  refine ks_5 hC dX3_setNumbers_11 rfl (by omega) (by omega) (by omega) (by omega) ?_
  refine kw_hv hfS (by unfold fT3; omega) (fun S1 hfS1 hv1 ho1 => ?_)
  have hvA := hv1
  have hoA := ho1
  refine kw_aload_n hC dX3_setNumbers_12 rfl 0 rfl ?_
  refine kg_3_1 hC w3 f15 dX3_setNumbers_13 rfl (by omega) (by omega) ?_
  refine kw_iload_n hC dX3_setNumbers_16 rfl 2 rfl ?_
  refine kw_bipush hC dX3_setNumbers_17 rfl (by decide) ?_
  refine kw_imul hC dX3_setNumbers_19 rfl ?_
  refine kw_iload_n hC dX3_setNumbers_20 rfl 1 rfl ?_
  refine kw_iadd hC dX3_setNumbers_21 rfl ?_
  rw [Int.mul_comm b 6]
  refine kw_iload hC dX3_setNumbers_22 rfl 4 rfl ?_
  refine ks_5 hC dX3_setNumbers_24 rfl (by omega) (by omega) (by omega) (by omega) ?_
  refine kw_hv hfS1 (by unfold fT3; omega) (fun S2 hfS2 hv2 ho2 => ?_)
  exact hR9.2.2.2 rfl _ _ _ dX3_setNumbers_25 ⟨rfl, hfS2, hv2, fun q => by rcases Decidable.em (a = b) with e | e; exact (by rw [e] at hv2 ⊢; rw [hv2]; omega); exact (by rw [ho2 5 p _ (by omega)]; exact hvA), fun q q1 q2 => by rw [ho2 5 p q (by omega)]; exact hoA 5 p q (by omega), by rw [ho2 3 p 2 (by omega)]; exact hoA 3 p 2 (by omega), fun j => by rw [ho2 4 p j (by omega)]; exact hoA 4 p j (by omega)⟩

set_option maxHeartbeats 4000000 in
set_option maxRecDepth 100000 in
theorem d_X3_removeLast {g : wG} (hD : wD g) {S : wSt} {p : Int} (p0 : 0 ≤ p) (p1 : p < 17) (s0 : 1 ≤ S 3 p 2) (s1 : S 3 p 2 ≤ 6) (l : Launch) : Kt l yX3_removeLast wsX3_removeLast ({ frames := 1, cells := 0, slots := 0, locals := 24 } : Room) g S [vr g 3 p] (pV (fun S' => Fr (fT3 p) S S' ∧ (S' 3 p 2 = S 3 p 2 - 1 ∧ (∀ j, S' 4 p j = S 4 p j) ∧ (∀ j, 0 ≤ j → j < 6 → S' 5 p (6 * (S 3 p 2 - 1) + j) = 0 ∧ S' 5 p (6 * j + (S 3 p 2 - 1)) = 0) ∧ ∀ i j, 0 ≤ i → i < 6 → 0 ≤ j → j < 6 → i ≠ S 3 p 2 - 1 → j ≠ S 3 p 2 - 1 → S' 5 p (6 * i + j) = S 5 p (6 * i + j)))) := by
  refine Kt.of (cc := cX3_removeLast) (nL := 2) (ret := none) (own := RX3) rfl hD (by decide) rfl (Nat.le_of_ble_eq_true rfl) ⟨rfl, rfl⟩ ?_
  intro E hC hR9
  have f18 : Cond.fieldLink RX3 18 "MirrorBench$Mirrors" "size" "I" ∈ wsX3_removeLast := by decide +kernel
  have w3 : ∀ w ∈ wsX30, w ∈ wsX3_removeLast := by decide +kernel
  show Wk E g 2 S 0 [(0, vr g 3 p)] []
  have hfS : Fr (fT3 p) S S := Fr.rfl _ S
  refine kw_aload_n hC dX3_removeLast_0 rfl 0 rfl ?_
  refine kw_dup hC dX3_removeLast_1 rfl rfl ?_
  refine kg_3_2 hC w3 f18 dX3_removeLast_2 rfl (by omega) (by omega) ?_
  refine kw_iconst hC dX3_removeLast_5 rfl ?_
  refine kw_isub hC dX3_removeLast_6 rfl ?_
  refine kp_3_2 hC w3 f18 dX3_removeLast_7 rfl (by omega) (by omega) ?_
  refine kw_hv hfS (by unfold fT3; omega) (fun S1 hfS1 hv1 ho1 => ?_)
  refine kw_iconst hC dX3_removeLast_10 rfl ?_
  refine kw_istore_n (lv' := [(1, _), (0, _)]) hC dX3_removeLast_11 rfl (by decide) rfl ?_
  have hL12 : ∀ (n12 : Nat) (x : Int) (W12 : wSt), Fr (fT3 p) S W12 → (0 ≤ x) → (x ≤ 6) → (W12 3 p 2 = S 3 p 2 - 1) → (∀ j, W12 4 p j = S 4 p j) → (∀ j, 0 ≤ j → j < x → W12 5 p (6 * (S 3 p 2 - 1) + j) = 0 ∧ W12 5 p (6 * j + (S 3 p 2 - 1)) = 0) → (∀ i j, 0 ≤ i → i < 6 → 0 ≤ j → j < 6 → i ≠ S 3 p 2 - 1 → j ≠ S 3 p 2 - 1 → W12 5 p (6 * i + j) = S 5 p (6 * i + j)) → 6 - x < (n12 : Int) → Wk E g 2 W12 12 [(0, vr g 3 p), (1, vi x)] [] := by
    intro n12
    induction n12 with
    | zero => intro x W12 hfW12 x0 x1 hs h4 hz ho hm12; exact absurd hm12 (by omega)
    | succ n12 ih12 =>
      intro x W12 hfW12 x0 x1 hs h4 hz ho hm12
      refine kw_iload_n hC dX3_removeLast_12 rfl 1 rfl ?_
      refine kw_bipush hC dX3_removeLast_13 rfl (by decide) ?_
      refine kw_icmp_ge (tgt := 35) hC dX3_removeLast_15 rfl (by decide) (by omega) (by omega) ⟨fun c15 => ?_, fun c15 => ?_⟩
      · exact hR9.2.2.2 rfl _ _ _ dX3_removeLast_35 ⟨rfl, hfW12, hs, h4, fun j j0 j1 => hz j j0 (by omega), ho⟩
      · refine kw_aload_n hC dX3_removeLast_18 rfl 0 rfl ?_
        refine kw_aload_n hC dX3_removeLast_19 rfl 0 rfl ?_
        refine kg_3_2 hC w3 f18 dX3_removeLast_20 rfl (by omega) (by omega) ?_
        refine kw_chi (z' := S 3 p 2 - 1) hs ?_
        refine kw_iload_n hC dX3_removeLast_23 rfl 1 rfl ?_
        refine kw_iconst hC dX3_removeLast_24 rfl ?_
        refine kw_iconst hC dX3_removeLast_25 rfl ?_
        refine kw_callV hC (d_X3_setNumbers hD (by omega) (by omega) (by omega) (by omega) (by omega) (by omega)) gX3_removeLast_X3_setNumbers ⟨_, rfl⟩ rfl (by omega) (show (_ : Int) < 17 by omega) rfl ⟨rfl, rfl⟩ 4 (by decide +kernel) ⟨by decide, by decide⟩ rfl rfl (Nat.le_of_ble_eq_true rfl) dX3_removeLast_26 rfl (kd_v (fun S3 hp3 => ?_))
        obtain ⟨hg3, hp3⟩ := hp3
        have hfS3 : Fr (fT3 p) S S3 := hfW12.trans (hg3.mono (fun k i j h => by unfold fT3 at h; unfold fT3; omega))
        obtain ⟨y1, y2, y3, y4, y5⟩ := hp3
        have y2 := y2 (Or.inr rfl)
        have hzz : ∀ q, W12 5 p q = 0 ∨ q = 6 * (S 3 p 2 - 1) + x ∨ q = 6 * x + (S 3 p 2 - 1) → S3 5 p q = 0 := fun q hq => by rcases Decidable.em (q = 6 * x + (S 3 p 2 - 1)) with e | e; exact (by rw [e]; exact y1); rcases Decidable.em (q = 6 * (S 3 p 2 - 1) + x) with e2 | e2; exact (by rw [e2]; exact y2); exact (by rw [y3 q e2 e]; omega)
        refine kw_iinc (lv' := [(1, _), (0, _)]) hC dX3_removeLast_29 rfl 1 rfl (by decide) rfl ?_
        refine kw_goto (tgt := 12) hC dX3_removeLast_32 rfl (by decide) ?_
        refine kw_lv [1, 0] rfl ?_
        exact ih12 (x + 1) S3 hfS3 (by omega) (by omega) (y4.trans hs) (fun j => (y5 j).trans (h4 j)) (fun j j0 j1 => by rcases Decidable.em (j = x) with e | e; exact (by rw [e]; exact ⟨hzz _ (by omega), hzz _ (by omega)⟩); exact ⟨hzz _ (Or.inl (hz j j0 (by omega)).1), hzz _ (Or.inl (hz j j0 (by omega)).2)⟩) (fun i j i0 i1 j0 j1 hi hj => by rw [y3 _ (by omega) (by omega)]; exact ho i j i0 i1 j0 j1 hi hj) (by omega)
  refine kw_lv [1, 0] rfl ?_
  exact hL12 7 0 S1 hfS1 (by omega) (by omega) hv1 (fun j => ho1 4 p j (by omega)) (fun j _ _ => by omega) (fun i j _ _ _ _ _ _ => ho1 5 p _ (by omega)) (by omega)

set_option maxHeartbeats 4000000 in
set_option maxRecDepth 100000 in
theorem d_X7_mirror {g : wG} (hD : wD g) {S : wSt} {a : Int} (ha : -2147483648 ≤ a ∧ a ≤ 2147483647) (hRS : CI S) (l : Launch) : Kt l yX7_mirror wsX7_mirror ({ frames := 3, cells := 0, slots := 0, locals := 68 } : Room) g S [vr g 0 0, vi a] (pI (fun r S' => CI S' ∧ Fr tY S S' ∧ ∀ x, AC S x → AC S' (aMirror a x) ∧ r = rMirror a x)) := by
  refine Kt.of (cc := cX7_mirror) (nL := 3) (ret := (some .int)) (own := RX7) rfl hD (by decide) rfl (Nat.le_of_ble_eq_true rfl) ⟨rfl, rfl⟩ ?_
  intro E hC hR9
  have f12 : Cond.fieldLink RX7 12 "MirrorBench" "set" "LMirrorBench$Mirrors;" ∈ wsX7_mirror := by decide +kernel
  have f19 : Cond.fieldLink RX7 19 "MirrorBench" "history" "LMirrorBench$History;" ∈ wsX7_mirror := by decide +kernel
  have f83 : Cond.fieldLink RX7 83 "MirrorBench$Mirrors" "size" "I" ∈ wsX7_mirror := by decide +kernel
  have w3 : ∀ w ∈ wsX30, w ∈ wsX7_mirror := by decide +kernel
  have w7 : ∀ w ∈ wsX70, w ∈ wsX7_mirror := by decide +kernel
  show Wk E g 3 S 0 [(0, vr g 0 0), (1, vi a)] []
  have hfS : Fr tY S S := Fr.rfl _ S
  have hn := hRS.n
  refine kw_iload_n hC dX7_mirror_0 rfl 1 rfl ?_
  refine kw_callS hC (d_X7_isKind hD (by omega)) gX7_mirror_X7_isKind rfl ⟨rfl, rfl⟩ 1 (by decide +kernel) ⟨by decide, by decide⟩ rfl rfl (Nat.le_of_ble_eq_true rfl) dX7_mirror_1 rfl (kd_ie ?_)
  refine kw_ifne_b (tgt := 9) hC dX7_mirror_4 rfl (by decide) ⟨fun c4 => ?_, fun c4 => ?_⟩
  · refine kw_aload_n hC dX7_mirror_9 rfl 0 rfl ?_
    refine kg_0_0 hC w7 f12 dX7_mirror_10 rfl (by decide) (by decide) ?_
    refine kg_3_2 hC w3 f83 dX7_mirror_13 rfl (by omega) (by omega) ?_
    refine kw_bipush hC dX7_mirror_16 rfl (by decide) ?_
    refine kw_icmp_ne (tgt := 24) hC dX7_mirror_18 rfl (by decide) (by omega) (by omega) ⟨fun c18 => ?_, fun c18 => ?_⟩
    · refine kw_aload_n hC dX7_mirror_24 rfl 0 rfl ?_
      refine kg_0_1 hC w7 f19 dX7_mirror_25 rfl (by decide) (by decide) ?_
      refine kw_aload_n hC dX7_mirror_28 rfl 0 rfl ?_
      refine kg_0_0 hC w7 f12 dX7_mirror_29 rfl (by decide) (by decide) ?_
      refine kw_callV hC (d_X1_keep hD hRS) gX7_mirror_X1_keep ⟨_, rfl⟩ rfl (by decide) (by decide) rfl ⟨rfl, rfl⟩ 1 (by decide +kernel) ⟨by decide, by decide⟩ rfl rfl (Nat.le_of_ble_eq_true rfl) dX7_mirror_32 rfl (kd_v (fun S3 hp3 => ?_))
      obtain ⟨hg3, hp3⟩ := hp3
      have hfS3 : Fr tY S S3 := hfS.trans (hg3.mono (fun k i j h => by unfold fH at h; unfold tY; omega))
      have hK := hp3
      have hgK := hg3
      have k0 : S3 3 16 2 = S 3 16 2 := hg3 3 16 2 (by unfold fH; omega)
      have k4 : ∀ j, S3 4 16 j = S 4 16 j := fun j => hg3 4 16 j (by unfold fH; omega)
      have k5 : ∀ j, S3 5 16 j = S 5 16 j := fun j => hg3 5 16 j (by unfold fH; omega)
      refine kw_aload_n hC dX7_mirror_35 rfl 0 rfl ?_
      refine kg_0_0 hC w7 f12 dX7_mirror_36 rfl (by decide) (by decide) ?_
      refine kw_iload_n hC dX7_mirror_39 rfl 1 rfl ?_
      refine kw_callV hC (d_X3_addMirror hD (by omega) (by omega) (by omega) (by omega)) gX7_mirror_X3_addMirror ⟨_, rfl⟩ rfl (by omega) (show (16 : Int) < 17 by omega) rfl ⟨rfl, rfl⟩ 1 (by decide +kernel) ⟨by decide, by decide⟩ rfl rfl (Nat.le_of_ble_eq_true rfl) dX7_mirror_40 rfl (kd_i (fun r4 S4 hp4 => ?_))
      obtain ⟨hg4, hp4⟩ := hp4
      have hfS4 : Fr tY S S4 := hfS3.trans (hg4.mono (fun k i j h => by unfold fT3 at h; unfold tY; omega))
      obtain ⟨hr9, y2, y3, y4, y5⟩ := hp4
      have hgM := hg4
      refine kw_istore_n (lv' := [(2, _), (0, _), (1, _)]) hC dX7_mirror_43 rfl (by decide) rfl ?_
      refine kw_aload_n hC dX7_mirror_44 rfl 1 rfl ?_
      refine kw_callV hC (d_X7_startAnew hD ) gX7_mirror_X7_startAnew ⟨_, rfl⟩ rfl (by decide) (by decide) rfl ⟨rfl, rfl⟩ 0 (by decide +kernel) ⟨by decide, by decide⟩ rfl rfl (Nat.le_of_ble_eq_true rfl) dX7_mirror_45 rfl (kd_v (fun S5 hp5 => ?_))
      obtain ⟨hg5, hp5⟩ := hp5
      have hfS5 : Fr tY S S5 := hfS4.trans (hg5.mono (fun k i j h => by unfold fN at h; unfold tY; omega))
      obtain ⟨hw1, h12, h16⟩ := hp5
      have z3 : ∀ c j, S5 3 c j = S4 3 c j := fun c j => hg5 3 c j (by unfold fN; omega)
      have z4 : ∀ c j, S5 4 c j = S4 4 c j := fun c j => hg5 4 c j (by unfold fN; omega)
      have z5 : ∀ c j, S5 5 c j = S4 5 c j := fun c j => hg5 5 c j (by unfold fN; omega)
      have z8 : ∀ j, S5 8 0 j = S4 8 0 j := fun j => hg5 8 0 j (by unfold fN; omega)
      have n3 : S5 3 16 2 = S 3 16 2 + 1 := by rw [z3, y2, k0]
      have n4 : S5 4 16 (S 3 16 2) = a := by rw [z4, ← k0]; exact y3
      have n4o : ∀ i, i ≠ S 3 16 2 → S5 4 16 i = S 4 16 i := fun i hi => by rw [z4, y4 i (by omega), k4]
      have n5 : ∀ j, S5 5 16 j = S 5 16 j := fun j => by rw [z5, y5, k5]
      have hK9 : KpC S S5 := hK.tr hRS.hs.1 (fun c hc => by rw [z3]; exact hgM 3 c 2 (by unfold fT3; omega)) (fun c j hc => by rw [z4]; exact hgM 4 c j (by unfold fT3; omega)) (fun c j hc => by rw [z5]; exact hgM 5 c j (by unfold fT3; omega)) (fun j => by rw [z8]; exact hgM 8 0 j (by unfold fT3; omega))
      have hz9 : ∀ j, 0 ≤ j → j < 6 → S5 5 16 (6 * S 3 16 2 + j) = 0 ∧ S5 5 16 (6 * j + S 3 16 2) = 0 := fun j j0 j1 => by rw [n5, n5]; exact ⟨hRS.zb _ j (by omega) (by omega) j0 j1 (by omega), hRS.zb j _ j0 j1 (by omega) (by omega) (by omega)⟩
      have hi8 : CI S5 := hK9.ci hRS ⟨by rw [n3]; exact hRS.set.mirror (by omega) (by omega) n4 n4o hz9 (fun i j _ _ _ _ _ _ => n5 _), fun i j i0 i1 j0 j1 hh => by rw [n5]; rw [n3] at hh; exact hRS.zb i j i0 i1 j0 j1 (by omega)⟩ hfS5 hw1 h12 h16
      refine kw_iload_n hC dX7_mirror_48 rfl 0 rfl ?_
      exact hR9.1 rfl _ _ _ _ dX7_mirror_49 ⟨_, rfl, hi8, hfS5, fun x hx => by have e := hx.1.1; have hk9 : 0 ≤ a ∧ a ≤ 2 := (by omega); have h6 : ¬ x.1.1 = 6 := (by omega); unfold aMirror rMirror; rw [if_pos hk9, if_pos hk9, if_neg h6, if_neg h6]; exact ⟨hK9.ac hRS hx (by rw [n3]; exact hx.1.mirror (by omega) n4 n4o hz9 (fun i j _ _ _ _ _ _ => n5 _)), by omega⟩⟩
    · refine kw_bipush hC dX7_mirror_21 rfl (by decide) ?_
      exact hR9.1 rfl _ _ _ _ dX7_mirror_23 ⟨_, rfl, hRS, Fr.rfl _ S, fun x hx => by have e := hx.1.1; have e4 := hx.2.1; unfold aMirror rMirror; rw [if_pos (by omega), if_pos (by omega), if_pos (by omega), if_pos (by omega)]; exact ⟨hx, rfl⟩⟩
  · refine kw_iconst hC dX7_mirror_7 rfl ?_
    exact hR9.1 rfl _ _ _ _ dX7_mirror_8 ⟨_, rfl, hRS, Fr.rfl _ S, fun x hx => by have e := hx.1.1; have e4 := hx.2.1; unfold aMirror rMirror; rw [if_neg (by omega), if_neg (by omega)]; exact ⟨hx, rfl⟩⟩

set_option maxHeartbeats 4000000 in
set_option maxRecDepth 100000 in
theorem d_X7_areMeetingNumbers {g : wG} (hD : wD g) {S : wSt} {a b : Int} (ha : -2147483648 ≤ a ∧ a ≤ 2147483647) (hb : -2147483648 ≤ b ∧ b ≤ 2147483647) (l : Launch) : Kt l yX7_areMeetingNumbers wsX7_areMeetingNumbers ({ frames := 0, cells := 0, slots := 0, locals := 0 } : Room) g S [vi a, vi b] (pI (fun r S' => r = bz ((0 ≤ a ∧ 0 ≤ b) ∧ (a = 0 ↔ b = 0) ∧ a * b ≤ 4) ∧ S' = S)) := by
  refine Kt.of (cc := cX7_areMeetingNumbers) (nL := 2) (ret := (some .boolean)) (own := RX7) rfl hD (by decide) rfl (Nat.le_of_ble_eq_true rfl) ⟨rfl, rfl⟩ ?_
  intro E hC hR9
  show Wk E g 2 S 0 [(0, vi a), (1, vi b)] []
  refine kw_iload_n hC dX7_areMeetingNumbers_0 rfl 0 rfl ?_
  refine kw_if_lt (tgt := 18) hC dX7_areMeetingNumbers_1 rfl (by decide) (by omega) ⟨fun c1 => ?_, fun c1 => ?_⟩
  · refine kw_iconst hC dX7_areMeetingNumbers_18 rfl ?_
    exact hR9.2.1 rfl _ _ _ _ dX7_areMeetingNumbers_19 (by omega) ⟨_, rfl, (bz_f (fun q => by obtain ⟨q1, q2, q3⟩ := q; have := @mul_big a b; omega)).symm, rfl⟩
  · refine kw_iload_n hC dX7_areMeetingNumbers_4 rfl 1 rfl ?_
    refine kw_if_lt (tgt := 18) hC dX7_areMeetingNumbers_5 rfl (by decide) (by omega) ⟨fun c5 => ?_, fun c5 => ?_⟩
    · refine kw_iconst hC dX7_areMeetingNumbers_18 rfl ?_
      exact hR9.2.1 rfl _ _ _ _ dX7_areMeetingNumbers_19 (by omega) ⟨_, rfl, (bz_f (fun q => by obtain ⟨q1, q2, q3⟩ := q; have := @mul_big a b; omega)).symm, rfl⟩
    · refine kw_iload_n hC dX7_areMeetingNumbers_8 rfl 0 rfl ?_
      refine kw_iconst hC dX7_areMeetingNumbers_9 rfl ?_
      refine kw_icmp_gt (tgt := 18) hC dX7_areMeetingNumbers_10 rfl (by decide) (by omega) (by omega) ⟨fun c10 => ?_, fun c10 => ?_⟩
      · refine kw_iconst hC dX7_areMeetingNumbers_18 rfl ?_
        exact hR9.2.1 rfl _ _ _ _ dX7_areMeetingNumbers_19 (by omega) ⟨_, rfl, (bz_f (fun q => by obtain ⟨q1, q2, q3⟩ := q; have := @mul_big a b; omega)).symm, rfl⟩
      · refine kw_iload_n hC dX7_areMeetingNumbers_13 rfl 1 rfl ?_
        refine kw_iconst hC dX7_areMeetingNumbers_14 rfl ?_
        refine kw_icmp_le (tgt := 20) hC dX7_areMeetingNumbers_15 rfl (by decide) (by omega) (by omega) ⟨fun c15 => ?_, fun c15 => ?_⟩
        · refine kw_iload_n hC dX7_areMeetingNumbers_20 rfl 0 rfl ?_
          refine kw_if_ne (tgt := 28) hC dX7_areMeetingNumbers_21 rfl (by decide) (by omega) ⟨fun c21 => ?_, fun c21 => ?_⟩
          · refine kw_iconst hC dX7_areMeetingNumbers_28 rfl ?_
            refine kw_iload_n hC dX7_areMeetingNumbers_29 rfl 1 rfl ?_
            refine kw_if_ne (tgt := 37) hC dX7_areMeetingNumbers_30 rfl (by decide) (by omega) ⟨fun c30 => ?_, fun c30 => ?_⟩
            · refine kw_iconst hC dX7_areMeetingNumbers_37 rfl ?_
              refine kw_icmp_ne (tgt := 52) hC dX7_areMeetingNumbers_38 rfl (by decide) (by omega) (by omega) ⟨fun c38 => ?_, fun c38 => ?_⟩
              · refine kw_iconst hC dX7_areMeetingNumbers_52 rfl ?_
                exact hR9.2.1 rfl _ _ _ _ dX7_areMeetingNumbers_53 (by omega) ⟨_, rfl, by first | exact (bz_t (by omega)).symm | exact (bz_f (by omega)).symm, rfl⟩
              · refine kw_iload_n hC dX7_areMeetingNumbers_41 rfl 0 rfl ?_
                refine kw_iload_n hC dX7_areMeetingNumbers_42 rfl 1 rfl ?_
                refine kw_imul hC dX7_areMeetingNumbers_43 rfl ?_
                refine kw_iconst hC dX7_areMeetingNumbers_44 rfl ?_
                refine kw_icmp_gt (tgt := 52) hC dX7_areMeetingNumbers_45 rfl (by decide) (by have := mul_rng (c := a) (d := b) (by omega) (by omega) (by omega) (by omega); have h9 := Int.mul_le_mul (show a ≤ 4 by omega) (show b ≤ 4 by omega) (by omega) (by omega); omega) (by omega) ⟨fun c45 => ?_, fun c45 => ?_⟩
                · refine kw_iconst hC dX7_areMeetingNumbers_52 rfl ?_
                  exact hR9.2.1 rfl _ _ _ _ dX7_areMeetingNumbers_53 (by omega) ⟨_, rfl, by first | exact (bz_t (by omega)).symm | exact (bz_f (by omega)).symm, rfl⟩
                · refine kw_iconst hC dX7_areMeetingNumbers_48 rfl ?_
                  refine kw_goto (tgt := 53) hC dX7_areMeetingNumbers_49 rfl (by decide) ?_
                  exact hR9.2.1 rfl _ _ _ _ dX7_areMeetingNumbers_53 (by omega) ⟨_, rfl, by first | exact (bz_t (by omega)).symm | exact (bz_f (by omega)).symm, rfl⟩
            · refine kw_iconst hC dX7_areMeetingNumbers_33 rfl ?_
              refine kw_goto (tgt := 38) hC dX7_areMeetingNumbers_34 rfl (by decide) ?_
              refine kw_icmp_ne (tgt := 52) hC dX7_areMeetingNumbers_38 rfl (by decide) (by omega) (by omega) ⟨fun c38 => ?_, fun c38 => ?_⟩
              · refine kw_iconst hC dX7_areMeetingNumbers_52 rfl ?_
                exact hR9.2.1 rfl _ _ _ _ dX7_areMeetingNumbers_53 (by omega) ⟨_, rfl, by first | exact (bz_t (by omega)).symm | exact (bz_f (by omega)).symm, rfl⟩
              · refine kw_iload_n hC dX7_areMeetingNumbers_41 rfl 0 rfl ?_
                refine kw_iload_n hC dX7_areMeetingNumbers_42 rfl 1 rfl ?_
                refine kw_imul hC dX7_areMeetingNumbers_43 rfl ?_
                refine kw_iconst hC dX7_areMeetingNumbers_44 rfl ?_
                refine kw_icmp_gt (tgt := 52) hC dX7_areMeetingNumbers_45 rfl (by decide) (by have := mul_rng (c := a) (d := b) (by omega) (by omega) (by omega) (by omega); have h9 := Int.mul_le_mul (show a ≤ 4 by omega) (show b ≤ 4 by omega) (by omega) (by omega); omega) (by omega) ⟨fun c45 => ?_, fun c45 => ?_⟩
                · refine kw_iconst hC dX7_areMeetingNumbers_52 rfl ?_
                  exact hR9.2.1 rfl _ _ _ _ dX7_areMeetingNumbers_53 (by omega) ⟨_, rfl, by first | exact (bz_t (by omega)).symm | exact (bz_f (by omega)).symm, rfl⟩
                · refine kw_iconst hC dX7_areMeetingNumbers_48 rfl ?_
                  refine kw_goto (tgt := 53) hC dX7_areMeetingNumbers_49 rfl (by decide) ?_
                  exact hR9.2.1 rfl _ _ _ _ dX7_areMeetingNumbers_53 (by omega) ⟨_, rfl, by first | exact (bz_t (by omega)).symm | exact (bz_f (by omega)).symm, rfl⟩
          · refine kw_iconst hC dX7_areMeetingNumbers_24 rfl ?_
            refine kw_goto (tgt := 29) hC dX7_areMeetingNumbers_25 rfl (by decide) ?_
            refine kw_iload_n hC dX7_areMeetingNumbers_29 rfl 1 rfl ?_
            refine kw_if_ne (tgt := 37) hC dX7_areMeetingNumbers_30 rfl (by decide) (by omega) ⟨fun c30 => ?_, fun c30 => ?_⟩
            · refine kw_iconst hC dX7_areMeetingNumbers_37 rfl ?_
              refine kw_icmp_ne (tgt := 52) hC dX7_areMeetingNumbers_38 rfl (by decide) (by omega) (by omega) ⟨fun c38 => ?_, fun c38 => ?_⟩
              · refine kw_iconst hC dX7_areMeetingNumbers_52 rfl ?_
                exact hR9.2.1 rfl _ _ _ _ dX7_areMeetingNumbers_53 (by omega) ⟨_, rfl, by first | exact (bz_t (by omega)).symm | exact (bz_f (by omega)).symm, rfl⟩
              · refine kw_iload_n hC dX7_areMeetingNumbers_41 rfl 0 rfl ?_
                refine kw_iload_n hC dX7_areMeetingNumbers_42 rfl 1 rfl ?_
                refine kw_imul hC dX7_areMeetingNumbers_43 rfl ?_
                refine kw_iconst hC dX7_areMeetingNumbers_44 rfl ?_
                refine kw_icmp_gt (tgt := 52) hC dX7_areMeetingNumbers_45 rfl (by decide) (by have := mul_rng (c := a) (d := b) (by omega) (by omega) (by omega) (by omega); have h9 := Int.mul_le_mul (show a ≤ 4 by omega) (show b ≤ 4 by omega) (by omega) (by omega); omega) (by omega) ⟨fun c45 => ?_, fun c45 => ?_⟩
                · refine kw_iconst hC dX7_areMeetingNumbers_52 rfl ?_
                  exact hR9.2.1 rfl _ _ _ _ dX7_areMeetingNumbers_53 (by omega) ⟨_, rfl, by first | exact (bz_t (by omega)).symm | exact (bz_f (by omega)).symm, rfl⟩
                · refine kw_iconst hC dX7_areMeetingNumbers_48 rfl ?_
                  refine kw_goto (tgt := 53) hC dX7_areMeetingNumbers_49 rfl (by decide) ?_
                  exact hR9.2.1 rfl _ _ _ _ dX7_areMeetingNumbers_53 (by omega) ⟨_, rfl, by first | exact (bz_t (by omega)).symm | exact (bz_f (by omega)).symm, rfl⟩
            · refine kw_iconst hC dX7_areMeetingNumbers_33 rfl ?_
              refine kw_goto (tgt := 38) hC dX7_areMeetingNumbers_34 rfl (by decide) ?_
              refine kw_icmp_ne (tgt := 52) hC dX7_areMeetingNumbers_38 rfl (by decide) (by omega) (by omega) ⟨fun c38 => ?_, fun c38 => ?_⟩
              · refine kw_iconst hC dX7_areMeetingNumbers_52 rfl ?_
                exact hR9.2.1 rfl _ _ _ _ dX7_areMeetingNumbers_53 (by omega) ⟨_, rfl, by first | exact (bz_t (by omega)).symm | exact (bz_f (by omega)).symm, rfl⟩
              · refine kw_iload_n hC dX7_areMeetingNumbers_41 rfl 0 rfl ?_
                refine kw_iload_n hC dX7_areMeetingNumbers_42 rfl 1 rfl ?_
                refine kw_imul hC dX7_areMeetingNumbers_43 rfl ?_
                refine kw_iconst hC dX7_areMeetingNumbers_44 rfl ?_
                refine kw_icmp_gt (tgt := 52) hC dX7_areMeetingNumbers_45 rfl (by decide) (by have := mul_rng (c := a) (d := b) (by omega) (by omega) (by omega) (by omega); have h9 := Int.mul_le_mul (show a ≤ 4 by omega) (show b ≤ 4 by omega) (by omega) (by omega); omega) (by omega) ⟨fun c45 => ?_, fun c45 => ?_⟩
                · refine kw_iconst hC dX7_areMeetingNumbers_52 rfl ?_
                  exact hR9.2.1 rfl _ _ _ _ dX7_areMeetingNumbers_53 (by omega) ⟨_, rfl, by first | exact (bz_t (by omega)).symm | exact (bz_f (by omega)).symm, rfl⟩
                · refine kw_iconst hC dX7_areMeetingNumbers_48 rfl ?_
                  refine kw_goto (tgt := 53) hC dX7_areMeetingNumbers_49 rfl (by decide) ?_
                  exact hR9.2.1 rfl _ _ _ _ dX7_areMeetingNumbers_53 (by omega) ⟨_, rfl, by first | exact (bz_t (by omega)).symm | exact (bz_f (by omega)).symm, rfl⟩
        · refine kw_iconst hC dX7_areMeetingNumbers_18 rfl ?_
          exact hR9.2.1 rfl _ _ _ _ dX7_areMeetingNumbers_19 (by omega) ⟨_, rfl, (bz_f (fun q => by obtain ⟨q1, q2, q3⟩ := q; have := @mul_big a b; omega)).symm, rfl⟩

set_option maxHeartbeats 4000000 in
set_option maxRecDepth 100000 in
theorem d_X7_meet {g : wG} (hD : wD g) {S : wSt} {a b c d : Int} (ha : -2147483648 ≤ a ∧ a ≤ 2147483647) (hb : -2147483648 ≤ b ∧ b ≤ 2147483647) (hc : -2147483648 ≤ c ∧ c ≤ 2147483647) (hd : -2147483648 ≤ d ∧ d ≤ 2147483647) (hRS : CI S) (l : Launch) : Kt l yX7_meet wsX7_meet ({ frames := 3, cells := 0, slots := 0, locals := 68 } : Room) g S [vr g 0 0, vi a, vi b, vi c, vi d] (pI (fun r S' => CI S' ∧ Fr tY S S' ∧ ∀ x, AC S x → AC S' (aMeet a b c d x) ∧ r = rMeet a b c d x)) := by
  refine Kt.of (cc := cX7_meet) (nL := 5) (ret := (some .int)) (own := RX7) rfl hD (by decide) rfl (Nat.le_of_ble_eq_true rfl) ⟨rfl, rfl⟩ ?_
  intro E hC hR9
  have f12 : Cond.fieldLink RX7 12 "MirrorBench" "set" "LMirrorBench$Mirrors;" ∈ wsX7_meet := by decide +kernel
  have f19 : Cond.fieldLink RX7 19 "MirrorBench" "history" "LMirrorBench$History;" ∈ wsX7_meet := by decide +kernel
  have w7 : ∀ w ∈ wsX70, w ∈ wsX7_meet := by decide +kernel
  show Wk E g 5 S 0 [(0, vr g 0 0), (1, vi a), (2, vi b), (3, vi c), (4, vi d)] []
  have hfS : Fr tY S S := Fr.rfl _ S
  have hn := hRS.n
  refine kw_aload_n hC dX7_meet_0 rfl 0 rfl ?_
  refine kg_0_0 hC w7 f12 dX7_meet_1 rfl (by decide) (by decide) ?_
  refine kw_iload_n hC dX7_meet_4 rfl 1 rfl ?_
  refine kw_callV hC (d_X3_has hD (by omega) (by omega) (by omega) (by omega) (by omega)) gX7_meet_X3_has ⟨_, rfl⟩ rfl (by omega) (show (16 : Int) < 17 by omega) rfl ⟨rfl, rfl⟩ 1 (by decide +kernel) ⟨by decide, by decide⟩ rfl rfl (Nat.le_of_ble_eq_true rfl) dX7_meet_5 rfl (kd_ie ?_)
  refine kw_ifeq_b (tgt := 36) hC dX7_meet_8 rfl (by decide) ⟨fun c8 => ?_, fun c8 => ?_⟩
  · refine kw_iconst hC dX7_meet_36 rfl ?_
    exact hR9.1 rfl _ _ _ _ dX7_meet_37 ⟨_, rfl, hRS, Fr.rfl _ S, fun x hx => by have e := hx.1.1; have hno : ¬ oMeet a b c d x.1.1 := (fun q => by obtain ⟨⟨q1, q2⟩, q3, q4, q5, q6⟩ := q; first | omega | exact c33 ⟨q4, q5, q6⟩); unfold aMeet rMeet; rw [if_neg hno, if_neg hno]; exact ⟨hx, rfl⟩⟩
  · refine kw_aload_n hC dX7_meet_11 rfl 0 rfl ?_
    refine kg_0_0 hC w7 f12 dX7_meet_12 rfl (by decide) (by decide) ?_
    refine kw_iload_n hC dX7_meet_15 rfl 2 rfl ?_
    refine kw_callV hC (d_X3_has hD (by omega) (by omega) (by omega) (by omega) (by omega)) gX7_meet_X3_has ⟨_, rfl⟩ rfl (by omega) (show (16 : Int) < 17 by omega) rfl ⟨rfl, rfl⟩ 1 (by decide +kernel) ⟨by decide, by decide⟩ rfl rfl (Nat.le_of_ble_eq_true rfl) dX7_meet_16 rfl (kd_ie ?_)
    refine kw_ifeq_b (tgt := 36) hC dX7_meet_19 rfl (by decide) ⟨fun c19 => ?_, fun c19 => ?_⟩
    · refine kw_iconst hC dX7_meet_36 rfl ?_
      exact hR9.1 rfl _ _ _ _ dX7_meet_37 ⟨_, rfl, hRS, Fr.rfl _ S, fun x hx => by have e := hx.1.1; have hno : ¬ oMeet a b c d x.1.1 := (fun q => by obtain ⟨⟨q1, q2⟩, q3, q4, q5, q6⟩ := q; first | omega | exact c33 ⟨q4, q5, q6⟩); unfold aMeet rMeet; rw [if_neg hno, if_neg hno]; exact ⟨hx, rfl⟩⟩
    · refine kw_iload_n hC dX7_meet_22 rfl 1 rfl ?_
      refine kw_iload_n hC dX7_meet_23 rfl 2 rfl ?_
      refine kw_icmp_eq (tgt := 36) hC dX7_meet_24 rfl (by decide) (by omega) (by omega) ⟨fun c24 => ?_, fun c24 => ?_⟩
      · refine kw_iconst hC dX7_meet_36 rfl ?_
        exact hR9.1 rfl _ _ _ _ dX7_meet_37 ⟨_, rfl, hRS, Fr.rfl _ S, fun x hx => by have e := hx.1.1; have hno : ¬ oMeet a b c d x.1.1 := (fun q => by obtain ⟨⟨q1, q2⟩, q3, q4, q5, q6⟩ := q; first | omega | exact c33 ⟨q4, q5, q6⟩); unfold aMeet rMeet; rw [if_neg hno, if_neg hno]; exact ⟨hx, rfl⟩⟩
      · refine kw_iload_n hC dX7_meet_27 rfl 3 rfl ?_
        refine kw_iload hC dX7_meet_28 rfl 4 rfl ?_
        refine kw_callS hC (d_X7_areMeetingNumbers hD (by omega) (by omega)) gX7_meet_X7_areMeetingNumbers rfl ⟨rfl, rfl⟩ 2 (by decide +kernel) ⟨by decide, by decide⟩ rfl rfl (Nat.le_of_ble_eq_true rfl) dX7_meet_30 rfl (kd_ie ?_)
        refine kw_ifne_b (tgt := 38) hC dX7_meet_33 rfl (by decide) ⟨fun c33 => ?_, fun c33 => ?_⟩
        · refine kw_aload_n hC dX7_meet_38 rfl 0 rfl ?_
          refine kg_0_1 hC w7 f19 dX7_meet_39 rfl (by decide) (by decide) ?_
          refine kw_aload_n hC dX7_meet_42 rfl 0 rfl ?_
          refine kg_0_0 hC w7 f12 dX7_meet_43 rfl (by decide) (by decide) ?_
          refine kw_callV hC (d_X1_keep hD hRS) gX7_meet_X1_keep ⟨_, rfl⟩ rfl (by decide) (by decide) rfl ⟨rfl, rfl⟩ 1 (by decide +kernel) ⟨by decide, by decide⟩ rfl rfl (Nat.le_of_ble_eq_true rfl) dX7_meet_46 rfl (kd_v (fun S5 hp5 => ?_))
          obtain ⟨hg5, hp5⟩ := hp5
          have hfS5 : Fr tY S S5 := hfS.trans (hg5.mono (fun k i j h => by unfold fH at h; unfold tY; omega))
          have hK := hp5
          have hgK := hg5
          have k0 : S5 3 16 2 = S 3 16 2 := hg5 3 16 2 (by unfold fH; omega)
          have k4 : ∀ j, S5 4 16 j = S 4 16 j := fun j => hg5 4 16 j (by unfold fH; omega)
          have k5 : ∀ j, S5 5 16 j = S 5 16 j := fun j => hg5 5 16 j (by unfold fH; omega)
          refine kw_aload_n hC dX7_meet_49 rfl 0 rfl ?_
          refine kg_0_0 hC w7 f12 dX7_meet_50 rfl (by decide) (by decide) ?_
          refine kw_iload_n hC dX7_meet_53 rfl 1 rfl ?_
          refine kw_iload_n hC dX7_meet_54 rfl 2 rfl ?_
          refine kw_iload_n hC dX7_meet_55 rfl 3 rfl ?_
          refine kw_iload hC dX7_meet_56 rfl 4 rfl ?_
          refine kw_callV hC (d_X3_setNumbers hD (by omega) (by omega) (by omega) (by omega) (by omega) (by omega)) gX7_meet_X3_setNumbers ⟨_, rfl⟩ rfl (by omega) (show (16 : Int) < 17 by omega) rfl ⟨rfl, rfl⟩ 4 (by decide +kernel) ⟨by decide, by decide⟩ rfl rfl (Nat.le_of_ble_eq_true rfl) dX7_meet_58 rfl (kd_v (fun S6 hp6 => ?_))
          obtain ⟨hg6, hp6⟩ := hp6
          have hfS6 : Fr tY S S6 := hfS5.trans (hg6.mono (fun k i j h => by unfold fT3 at h; unfold tY; omega))
          obtain ⟨y1, y2, y3, y4, y5⟩ := hp6
          have hgM := hg6
          refine kw_aload_n hC dX7_meet_61 rfl 0 rfl ?_
          refine kw_callV hC (d_X7_startAnew hD ) gX7_meet_X7_startAnew ⟨_, rfl⟩ rfl (by decide) (by decide) rfl ⟨rfl, rfl⟩ 0 (by decide +kernel) ⟨by decide, by decide⟩ rfl rfl (Nat.le_of_ble_eq_true rfl) dX7_meet_62 rfl (kd_v (fun S7 hp7 => ?_))
          obtain ⟨hg7, hp7⟩ := hp7
          have hfS7 : Fr tY S S7 := hfS6.trans (hg7.mono (fun k i j h => by unfold fN at h; unfold tY; omega))
          obtain ⟨hw1, h12, h16⟩ := hp7
          have z3 : ∀ c j, S7 3 c j = S6 3 c j := fun c j => hg7 3 c j (by unfold fN; omega)
          have z4 : ∀ c j, S7 4 c j = S6 4 c j := fun c j => hg7 4 c j (by unfold fN; omega)
          have z5 : ∀ c j, S7 5 c j = S6 5 c j := fun c j => hg7 5 c j (by unfold fN; omega)
          have z8 : ∀ j, S7 8 0 j = S6 8 0 j := fun j => hg7 8 0 j (by unfold fN; omega)
          have n3 : S7 3 16 2 = S 3 16 2 := by rw [z3, y4, k0]
          have n4 : ∀ j, S7 4 16 j = S 4 16 j := fun j => by rw [z4, y5, k4]
          have m1 : S7 5 16 (6 * a + b) = c := by rw [z5]; exact y2 (Or.inl c24)
          have m2 : S7 5 16 (6 * b + a) = d := by rw [z5]; exact y1
          have m3 : ∀ p, p ≠ 6 * a + b → p ≠ 6 * b + a → S7 5 16 p = S 5 16 p := fun p q1 q2 => by rw [z5, y3 p q1 q2, k5]
          have hK9 : KpC S S7 := hK.tr hRS.hs.1 (fun c hc => by rw [z3]; exact hgM 3 c 2 (by unfold fT3; omega)) (fun c j hc => by rw [z4]; exact hgM 4 c j (by unfold fT3; omega)) (fun c j hc => by rw [z5]; exact hgM 5 c j (by unfold fT3; omega)) (fun j => by rw [z8]; exact hgM 8 0 j (by unfold fT3; omega))
          have hi8 : CI S7 := hK9.ci hRS ⟨by rw [n3]; exact hRS.set.meet (by omega) (by omega) c24 c33.1 c33.2.1 c33.2.2 n4 m1 m2 m3, fun i j i0 i1 j0 j1 hh => by rw [n3] at hh; rw [m3 _ (by omega) (by omega)]; exact hRS.zb i j i0 i1 j0 j1 hh⟩ hfS7 hw1 h12 h16
          refine kw_aload_n hC dX7_meet_65 rfl 0 rfl ?_
          refine kg_0_0 hC w7 f12 dX7_meet_66 rfl (by decide) (by decide) ?_
          refine kw_iload_n hC dX7_meet_69 rfl 1 rfl ?_
          refine kw_iload_n hC dX7_meet_70 rfl 2 rfl ?_
          refine kw_callV hC (d_X3_meetsAt hD (by omega) (by omega) (by omega) (by omega) hi8) gX7_meet_X3_meetsAt ⟨_, rfl⟩ rfl (by omega) (show (16 : Int) < 17 by omega) rfl ⟨rfl, rfl⟩ 2 (by decide +kernel) ⟨by decide, by decide⟩ rfl rfl (Nat.le_of_ble_eq_true rfl) dX7_meet_71 rfl (kd_ie ?_)
          exact hR9.1 rfl _ _ _ _ dX7_meet_74 ⟨_, rfl, hi8, hfS7, fun x hx => by have e := hx.1.1; have hyes : oMeet a b c d x.1.1 := ⟨⟨by omega, by omega⟩, c24, c33.1, c33.2.1, c33.2.2⟩; unfold aMeet rMeet; rw [if_pos hyes, if_pos hyes, m1, m2]; exact ⟨hK9.ac hRS hx (by rw [n3]; exact hx.1.meet hn.2 (by omega) (by omega) c24 n4 m1 m2 m3), rfl⟩⟩
        · refine kw_iconst hC dX7_meet_36 rfl ?_
          exact hR9.1 rfl _ _ _ _ dX7_meet_37 ⟨_, rfl, hRS, Fr.rfl _ S, fun x hx => by have e := hx.1.1; have hno : ¬ oMeet a b c d x.1.1 := (fun q => by obtain ⟨⟨q1, q2⟩, q3, q4, q5, q6⟩ := q; first | omega | exact c33 ⟨q4, q5, q6⟩); unfold aMeet rMeet; rw [if_neg hno, if_neg hno]; exact ⟨hx, rfl⟩⟩

set_option maxHeartbeats 4000000 in
set_option maxRecDepth 100000 in
theorem d_X7_less {g : wG} (hD : wD g) {S : wSt}  (hRS : CI S) (l : Launch) : Kt l yX7_less wsX7_less ({ frames := 3, cells := 0, slots := 0, locals := 68 } : Room) g S [vr g 0 0] (pI (fun r S' => CI S' ∧ Fr tY S S' ∧ ∀ x, AC S x → AC S' (aLess x) ∧ r = rLess x)) := by
  refine Kt.of (cc := cX7_less) (nL := 1) (ret := (some .int)) (own := RX7) rfl hD (by decide) rfl (Nat.le_of_ble_eq_true rfl) ⟨rfl, rfl⟩ ?_
  intro E hC hR9
  have f12 : Cond.fieldLink RX7 12 "MirrorBench" "set" "LMirrorBench$Mirrors;" ∈ wsX7_less := by decide +kernel
  have f19 : Cond.fieldLink RX7 19 "MirrorBench" "history" "LMirrorBench$History;" ∈ wsX7_less := by decide +kernel
  have f83 : Cond.fieldLink RX7 83 "MirrorBench$Mirrors" "size" "I" ∈ wsX7_less := by decide +kernel
  have w3 : ∀ w ∈ wsX30, w ∈ wsX7_less := by decide +kernel
  have w7 : ∀ w ∈ wsX70, w ∈ wsX7_less := by decide +kernel
  show Wk E g 1 S 0 [(0, vr g 0 0)] []
  have hfS : Fr tY S S := Fr.rfl _ S
  have hn := hRS.n
  refine kw_aload_n hC dX7_less_0 rfl 0 rfl ?_
  refine kg_0_0 hC w7 f12 dX7_less_1 rfl (by decide) (by decide) ?_
  refine kg_3_2 hC w3 f83 dX7_less_4 rfl (by omega) (by omega) ?_
  refine kw_if_ne (tgt := 13) hC dX7_less_7 rfl (by decide) (by omega) ⟨fun c7 => ?_, fun c7 => ?_⟩
  · refine kw_aload_n hC dX7_less_13 rfl 0 rfl ?_
    refine kg_0_1 hC w7 f19 dX7_less_14 rfl (by decide) (by decide) ?_
    refine kw_aload_n hC dX7_less_17 rfl 0 rfl ?_
    refine kg_0_0 hC w7 f12 dX7_less_18 rfl (by decide) (by decide) ?_
    refine kw_callV hC (d_X1_keep hD hRS) gX7_less_X1_keep ⟨_, rfl⟩ rfl (by decide) (by decide) rfl ⟨rfl, rfl⟩ 1 (by decide +kernel) ⟨by decide, by decide⟩ rfl rfl (Nat.le_of_ble_eq_true rfl) dX7_less_21 rfl (kd_v (fun S2 hp2 => ?_))
    obtain ⟨hg2, hp2⟩ := hp2
    have hfS2 : Fr tY S S2 := hfS.trans (hg2.mono (fun k i j h => by unfold fH at h; unfold tY; omega))
    have hK := hp2
    have hgK := hg2
    have k0 : S2 3 16 2 = S 3 16 2 := hg2 3 16 2 (by unfold fH; omega)
    have k4 : ∀ j, S2 4 16 j = S 4 16 j := fun j => hg2 4 16 j (by unfold fH; omega)
    have k5 : ∀ j, S2 5 16 j = S 5 16 j := fun j => hg2 5 16 j (by unfold fH; omega)
    refine kw_aload_n hC dX7_less_24 rfl 0 rfl ?_
    refine kg_0_0 hC w7 f12 dX7_less_25 rfl (by decide) (by decide) ?_
    refine kw_callV hC (d_X3_removeLast hD (by omega) (by omega) (by omega) (by omega)) gX7_less_X3_removeLast ⟨_, rfl⟩ rfl (by omega) (show (16 : Int) < 17 by omega) rfl ⟨rfl, rfl⟩ 0 (by decide +kernel) ⟨by decide, by decide⟩ rfl rfl (Nat.le_of_ble_eq_true rfl) dX7_less_28 rfl (kd_v (fun S3 hp3 => ?_))
    obtain ⟨hg3, hp3⟩ := hp3
    have hfS3 : Fr tY S S3 := hfS2.trans (hg3.mono (fun k i j h => by unfold fT3 at h; unfold tY; omega))
    obtain ⟨y1, y2, y3, y4⟩ := hp3
    have hgM := hg3
    rw [k0] at y1 y3 y4
    refine kw_aload_n hC dX7_less_31 rfl 0 rfl ?_
    refine kw_callV hC (d_X7_startAnew hD ) gX7_less_X7_startAnew ⟨_, rfl⟩ rfl (by decide) (by decide) rfl ⟨rfl, rfl⟩ 0 (by decide +kernel) ⟨by decide, by decide⟩ rfl rfl (Nat.le_of_ble_eq_true rfl) dX7_less_32 rfl (kd_v (fun S4 hp4 => ?_))
    obtain ⟨hg4, hp4⟩ := hp4
    have hfS4 : Fr tY S S4 := hfS3.trans (hg4.mono (fun k i j h => by unfold fN at h; unfold tY; omega))
    obtain ⟨hw1, h12, h16⟩ := hp4
    have z3 : ∀ c j, S4 3 c j = S3 3 c j := fun c j => hg4 3 c j (by unfold fN; omega)
    have z4 : ∀ c j, S4 4 c j = S3 4 c j := fun c j => hg4 4 c j (by unfold fN; omega)
    have z5 : ∀ c j, S4 5 c j = S3 5 c j := fun c j => hg4 5 c j (by unfold fN; omega)
    have z8 : ∀ j, S4 8 0 j = S3 8 0 j := fun j => hg4 8 0 j (by unfold fN; omega)
    have n3 : S4 3 16 2 = S 3 16 2 - 1 := by rw [z3, y1]
    have n4 : ∀ j, S4 4 16 j = S 4 16 j := fun j => by rw [z4, y2, k4]
    have n5z : ∀ j, 0 ≤ j → j < 6 → S4 5 16 (6 * (S 3 16 2 - 1) + j) = 0 ∧ S4 5 16 (6 * j + (S 3 16 2 - 1)) = 0 := fun j j0 j1 => by rw [z5, z5]; exact y3 j j0 j1
    have n5o : ∀ i j, 0 ≤ i → i < 6 → 0 ≤ j → j < 6 → i ≠ S 3 16 2 - 1 → j ≠ S 3 16 2 - 1 → S4 5 16 (6 * i + j) = S 5 16 (6 * i + j) := fun i j i0 i1 j0 j1 hi hj => by rw [z5, y4 i j i0 i1 j0 j1 hi hj, k5]
    have hK9 : KpC S S4 := hK.tr hRS.hs.1 (fun c hc => by rw [z3]; exact hgM 3 c 2 (by unfold fT3; omega)) (fun c j hc => by rw [z4]; exact hgM 4 c j (by unfold fT3; omega)) (fun c j hc => by rw [z5]; exact hgM 5 c j (by unfold fT3; omega)) (fun j => by rw [z8]; exact hgM 8 0 j (by unfold fT3; omega))
    have hi8 : CI S4 := hK9.ci hRS ⟨by rw [n3, show S4 4 16 = S 4 16 from funext n4]; exact hRS.set.zrow (by omega) (by omega) (by omega) n5z n5o, fun i j i0 i1 j0 j1 hh => by rw [n3] at hh; rcases Decidable.em (i = S 3 16 2 - 1) with e | e; exact (by rw [e]; exact (n5z j j0 j1).1); rcases Decidable.em (j = S 3 16 2 - 1) with e2 | e2; exact (by rw [e2]; exact (n5z i i0 i1).2); exact (by rw [n5o i j i0 i1 j0 j1 e e2]; exact hRS.zb i j i0 i1 j0 j1 (by omega))⟩ hfS4 hw1 h12 h16
    refine kw_aload_n hC dX7_less_35 rfl 0 rfl ?_
    refine kg_0_0 hC w7 f12 dX7_less_36 rfl (by decide) (by decide) ?_
    refine kg_3_2 hC w3 f83 dX7_less_39 rfl (by omega) (by omega) ?_
    refine kw_chi (z' := S 3 16 2 - 1) n3 ?_
    exact hR9.1 rfl _ _ _ _ dX7_less_42 ⟨_, rfl, hi8, hfS4, fun x hx => by have e := hx.1.1; unfold aLess rLess; rw [if_neg (by omega), if_neg (by omega)]; exact ⟨hK9.ac hRS hx (by rw [n3]; exact hx.1.less n4 (fun i j i0 i1 j0 j1 => n5o i j i0 (by omega) j0 (by omega) (by omega) (by omega))), by omega⟩⟩
  · refine kw_bipush hC dX7_less_10 rfl (by decide) ?_
    exact hR9.1 rfl _ _ _ _ dX7_less_12 ⟨_, rfl, hRS, Fr.rfl _ S, fun x hx => by have e := hx.1.1; have e4 := hx.2.1; unfold aLess rLess; rw [if_pos (by omega), if_pos (by omega)]; exact ⟨hx, rfl⟩⟩

theorem CI.kind {S S' : wSt} (h : CI S) {a b : Int} (hb : 0 ≤ b ∧ b ≤ 2) (hk : S' 4 16 a = b) (hko : ∀ p, p ≠ a → S' 4 16 p = S 4 16 p) (ho : ∀ k i j, ¬ (k = 4 ∧ i = 16) → S' k i j = S k i j) : CI S' := by
  obtain ⟨h1, h2, h3, h4, h5, h6, h7, h8⟩ := h
  have e (k : Nat) (i : Int) (hk : ¬ (k = 4 ∧ i = 16)) : S' k i = S k i := funext fun j => ho k i j hk
  refine ⟨⟨⟨by rw [e 3 16 (by omega)]; exact h1.1.1, fun i i0 i1 => ?_, by rw [e 5 16 (by omega)]; exact h1.1.2.2⟩, by rw [e 3 16 (by omega), e 5 16 (by omega)]; exact h1.2⟩, by rw [e 8 0 (by omega)]; exact h2, fun c c0 c1 => by rw [e 3 c (by omega), e 4 c (by omega), e 5 c (by omega)]; exact h3 c c0 c1, fun s s0 s1 => by rw [e 1 s (by omega), e 2 s (by omega), e 3 16 (by omega)]; exact h4 s s0 s1, fun l l0 l1 => by rw [e 6 l (by omega)]; exact h5 l l0 l1, fun l j l0 l1 j0 j1 => by rw [e 7 l (by omega)]; exact h6 l j l0 l1 j0 j1, by unfold RLI; rw [e 12 0 (by omega), e 13 0 (by omega), e 14 0 (by omega), e 15 0 (by omega), e 5 16 (by omega), e 3 16 (by omega)]; exact h7, by unfold FLI; rw [e 16 0 (by omega), e 17 0 (by omega), e 18 0 (by omega), e 3 16 (by omega)]; exact h8⟩
  by_cases e : i = a
  · rw [e, hk]; exact hb
  · rw [hko i e]; exact h1.1.2.1 i i0 i1
theorem AC.kind {S S' : wSt} {x : aS} (h : AC S x) {a b : Int} (hk : S' 4 16 a = b) (hko : ∀ p, p ≠ a → S' 4 16 p = S 4 16 p) (ho : ∀ k i j, ¬ (k = 4 ∧ i = 16) → S' k i j = S k i j) (ha : 0 ≤ S 8 0 1) : AC S' ((x.1.1, fun p => if p = a then b else x.1.2.1 p, x.1.2.2), x.2) := by
  obtain ⟨h1, h2, h3⟩ := h
  have e (k : Nat) (i : Int) (hk : ¬ (k = 4 ∧ i = 16)) : S' k i = S k i := funext fun j => ho k i j hk
  unfold AC
  rw [e 3 16 (by omega), e 8 0 (by omega)]
  refine ⟨h1.kind hk hko (fun j => ho 5 16 j (by omega)), h2, fun t t0 t1 => ?_⟩
  rw [e 3 _ (by omega), e 4 _ (by omega), e 5 _ (by omega)]
  exact h3 t t0 t1
theorem AC.undo {S S' : wSt} {x : aS} (h : AC S x) (hR : CI S) (hc : ¬ S 8 0 2 = 0) (g1 : S' 8 0 1 = (S 8 0 1 + 15) % 16) (g2 : S' 8 0 2 = S 8 0 2 - 1) (gn : S' 3 16 2 = S 3 ((S 8 0 1 + 15) % 16) 2) (g4 : ∀ j, 0 ≤ j → j < 6 → S' 4 16 j = S 4 ((S 8 0 1 + 15) % 16) j) (g5 : ∀ j, 0 ≤ j → j < 36 → S' 5 16 j = S 5 ((S 8 0 1 + 15) % 16) j) (go : ∀ k c j, k = 3 ∨ k = 4 ∨ k = 5 → c < 16 → S' k c j = S k c j) : AC S' (x.2.2 0, x.2.1 - 1, fun t => x.2.2 (t + 1)) := by
  obtain ⟨h1, h2, h3⟩ := h
  have hh := hR.hs
  have h0 := h3 0 (by omega) (by omega)
  rw [show (S 8 0 1 - 1 - 0) % 16 = (S 8 0 1 + 15) % 16 by omega] at h0
  refine ⟨h0.congr (hR.kp _ (by omega) (by omega)).1.1.2 gn g4 g5, by show S' 8 0 2 = x.2.1 - 1; omega, fun t t0 t1 => ?_⟩
  have t1 : t < x.2.1 - 1 := t1
  have h5 := h3 (t + 1) (by omega) (by omega)
  rw [g1, show ((S 8 0 1 + 15) % 16 - 1 - t) % 16 = (S 8 0 1 - 1 - (t + 1)) % 16 by omega]
  have e (k : Nat) (hk : k = 3 ∨ k = 4 ∨ k = 5) : S' k ((S 8 0 1 - 1 - (t + 1)) % 16) = S k ((S 8 0 1 - 1 - (t + 1)) % 16) := funext fun j => go k _ j hk (by omega)
  rw [e 3 (by omega), e 4 (by omega), e 5 (by omega)]
  exact h5

set_option maxHeartbeats 4000000 in
set_option maxRecDepth 100000 in
theorem d_X7_kind {g : wG} (hD : wD g) {S : wSt} {a b : Int} (ha : -2147483648 ≤ a ∧ a ≤ 2147483647) (hb : -2147483648 ≤ b ∧ b ≤ 2147483647) (hRS : CI S) (l : Launch) : Kt l yX7_kind wsX7_kind ({ frames := 1, cells := 0, slots := 0, locals := 21 } : Room) g S [vr g 0 0, vi a, vi b] (pI (fun r S' => CI S' ∧ Fr tY S S' ∧ ∀ x, AC S x → AC S' (aKind a b x) ∧ r = rKind a b x)) := by
  refine Kt.of (cc := cX7_kind) (nL := 4) (ret := (some .int)) (own := RX7) rfl hD (by decide) rfl (Nat.le_of_ble_eq_true rfl) ⟨rfl, rfl⟩ ?_
  intro E hC hR9
  have f12 : Cond.fieldLink RX7 12 "MirrorBench" "set" "LMirrorBench$Mirrors;" ∈ wsX7_kind := by decide +kernel
  have f115 : Cond.fieldLink RX7 115 "MirrorBench$Mirrors" "kinds" "[I" ∈ wsX7_kind := by decide +kernel
  have w3 : ∀ w ∈ wsX30, w ∈ wsX7_kind := by decide +kernel
  have w7 : ∀ w ∈ wsX70, w ∈ wsX7_kind := by decide +kernel
  show Wk E g 4 S 0 [(0, vr g 0 0), (1, vi a), (2, vi b)] []
  have hfS : Fr tY S S := Fr.rfl _ S
  have hn := hRS.n
  refine kw_aload_n hC dX7_kind_0 rfl 0 rfl ?_
  refine kg_0_0 hC w7 f12 dX7_kind_1 rfl (by decide) (by decide) ?_
  refine kw_iload_n hC dX7_kind_4 rfl 1 rfl ?_
  refine kw_callV hC (d_X3_has hD (by omega) (by omega) (by omega) (by omega) (by omega)) gX7_kind_X3_has ⟨_, rfl⟩ rfl (by omega) (show (16 : Int) < 17 by omega) rfl ⟨rfl, rfl⟩ 1 (by decide +kernel) ⟨by decide, by decide⟩ rfl rfl (Nat.le_of_ble_eq_true rfl) dX7_kind_5 rfl (kd_ie ?_)
  refine kw_ifeq_b (tgt := 18) hC dX7_kind_8 rfl (by decide) ⟨fun c8 => ?_, fun c8 => ?_⟩
  · refine kw_iconst hC dX7_kind_18 rfl ?_
    exact hR9.1 rfl _ _ _ _ dX7_kind_19 ⟨_, rfl, hRS, Fr.rfl _ S, fun x hx => by have e := hx.1.1; unfold aKind rKind; rw [if_neg (by omega), if_neg (by omega)]; exact ⟨hx, rfl⟩⟩
  · refine kw_iload_n hC dX7_kind_11 rfl 2 rfl ?_
    refine kw_callS hC (d_X7_isKind hD (by omega)) gX7_kind_X7_isKind rfl ⟨rfl, rfl⟩ 1 (by decide +kernel) ⟨by decide, by decide⟩ rfl rfl (Nat.le_of_ble_eq_true rfl) dX7_kind_12 rfl (kd_ie ?_)
    refine kw_ifne_b (tgt := 20) hC dX7_kind_15 rfl (by decide) ⟨fun c15 => ?_, fun c15 => ?_⟩
    · refine kw_aload_n hC dX7_kind_20 rfl 0 rfl ?_
      refine kg_0_0 hC w7 f12 dX7_kind_21 rfl (by decide) (by decide) ?_
      refine kg_3_0 hC w3 f115 dX7_kind_24 rfl (by omega) (by omega) ?_
      refine kw_iload_n hC dX7_kind_27 rfl 1 rfl ?_
      refine ka_4 hC dX7_kind_28 rfl (by omega) (by omega) (by omega) (by omega) ?_
      refine kw_istore_n (lv' := [(3, _), (0, _), (1, _), (2, _)]) hC dX7_kind_29 rfl (by decide) rfl ?_
      refine kw_aload_n hC dX7_kind_30 rfl 1 rfl ?_
      refine kg_0_0 hC w7 f12 dX7_kind_31 rfl (by decide) (by decide) ?_
      refine kg_3_0 hC w3 f115 dX7_kind_34 rfl (by omega) (by omega) ?_
      refine kw_iload_n hC dX7_kind_37 rfl 2 rfl ?_
      refine kw_iload_n hC dX7_kind_38 rfl 3 rfl ?_
      refine ks_4 hC dX7_kind_39 rfl (by omega) (by omega) (by omega) (by omega) ?_
      refine kw_hv hfS (by unfold tY; omega) (fun S3 hfS3 hv3 ho3 => ?_)
      have hk8 := hv3
      have hko8 : ∀ p, p ≠ a → S3 4 16 p = S 4 16 p := fun p hp => ho3 4 16 p (by omega)
      have hoo : ∀ k i j, ¬ (k = 4 ∧ i = 16) → S3 k i j = S k i j := fun k i j hk => ho3 k i j (by omega)
      have hi8 := hRS.kind (by omega) hk8 hko8 hoo
      refine kw_iload_n hC dX7_kind_40 rfl 0 rfl ?_
      exact hR9.1 rfl _ _ _ _ dX7_kind_41 ⟨_, rfl, hi8, hfS3, fun x hx => by have e := hx.1.1; unfold aKind rKind; rw [if_pos (by omega), if_pos (by omega)]; exact ⟨hx.kind hk8 hko8 hoo hRS.hs.1.1, hx.1.2.1 a (by omega) (by omega)⟩⟩
    · refine kw_iconst hC dX7_kind_18 rfl ?_
      exact hR9.1 rfl _ _ _ _ dX7_kind_19 ⟨_, rfl, hRS, Fr.rfl _ S, fun x hx => by have e := hx.1.1; unfold aKind rKind; rw [if_neg (by omega), if_neg (by omega)]; exact ⟨hx, rfl⟩⟩

set_option maxHeartbeats 4000000 in
set_option maxRecDepth 100000 in
theorem d_X1_takeBack {g : wG} (hD : wD g) {S : wSt} (hRS : CI S) (l : Launch) : Kt l yX1_takeBack wsX1_takeBack ({ frames := 2, cells := 0, slots := 0, locals := 47 } : Room) g S [vr g 8 0, vr g 3 16] (pV (fun S' => Fr fU S S' ∧ (S' 8 0 1 = (S 8 0 1 + 15) % 16 ∧ S' 8 0 2 = S 8 0 2 - 1 ∧ S' 3 16 2 = S 3 ((S 8 0 1 + 15) % 16) 2 ∧ (∀ j, 0 ≤ j → j < 6 → S' 4 16 j = S 4 ((S 8 0 1 + 15) % 16) j) ∧ (∀ j, 0 ≤ j → j < 36 → S' 5 16 j = S 5 ((S 8 0 1 + 15) % 16) j) ∧ ∀ k c j, k = 3 ∨ k = 4 ∨ k = 5 → c < 16 → S' k c j = S k c j))) := by
  refine Kt.of (cc := cX1_takeBack) (nL := 2) (ret := none) (own := RX1) rfl hD (by decide) rfl (Nat.le_of_ble_eq_true rfl) ⟨rfl, rfl⟩ ?_
  intro E hC hR9
  have f11 : Cond.fieldLink RX1 11 "MirrorBench$History" "kept" "[LMirrorBench$Mirrors;" ∈ wsX1_takeBack := by decide +kernel
  have f18 : Cond.fieldLink RX1 18 "MirrorBench$History" "after" "I" ∈ wsX1_takeBack := by decide +kernel
  have f26 : Cond.fieldLink RX1 26 "MirrorBench$History" "steps" "I" ∈ wsX1_takeBack := by decide +kernel
  have w1 : ∀ w ∈ wsX10, w ∈ wsX1_takeBack := by decide +kernel
  show Wk E g 2 S 0 [(0, vr g 8 0), (1, vr g 3 16)] []
  have hfS : Fr fU S S := Fr.rfl _ S
  have hh := hRS.hs
  refine kw_aload_n hC dX1_takeBack_0 rfl 0 rfl ?_
  refine kw_aload_n hC dX1_takeBack_1 rfl 0 rfl ?_
  refine kg_8_1 hC w1 f18 dX1_takeBack_2 rfl (by decide) (by decide) ?_
  refine kw_bipush hC dX1_takeBack_5 rfl (by decide) ?_
  refine kw_iadd hC dX1_takeBack_7 rfl ?_
  refine kw_iconst hC dX1_takeBack_8 rfl ?_
  refine kw_isub hC dX1_takeBack_9 rfl ?_
  refine kw_bipush hC dX1_takeBack_10 rfl (by decide) ?_
  refine kw_irem hC dX1_takeBack_12 rfl (by omega) (by omega) ?_
  rw [show S 8 0 1 + 16 - 1 = S 8 0 1 + 15 by omega]
  refine kp_8_1 hC w1 f18 dX1_takeBack_13 rfl (by decide) (by decide) ?_
  refine kw_hv hfS (by unfold fU; omega) (fun S1 hfS1 hv1 ho1 => ?_)
  have hvA := hv1
  have hoA := ho1
  refine kw_aload_n hC dX1_takeBack_16 rfl 0 rfl ?_
  refine kw_dup hC dX1_takeBack_17 rfl rfl ?_
  refine kg_8_2 hC w1 f26 dX1_takeBack_18 rfl (by decide) (by decide) ?_
  refine kw_chi (z' := S 8 0 2) (hoA 8 0 2 (by omega)) ?_
  refine kw_iconst hC dX1_takeBack_21 rfl ?_
  refine kw_isub hC dX1_takeBack_22 rfl ?_
  refine kp_8_2 hC w1 f26 dX1_takeBack_23 rfl (by decide) (by decide) ?_
  refine kw_hv hfS1 (by unfold fU; omega) (fun S2 hfS2 hv2 ho2 => ?_)
  have hvB := hv2
  have hoB := ho2
  refine kw_aload_n hC dX1_takeBack_26 rfl 1 rfl ?_
  refine kw_aload_n hC dX1_takeBack_27 rfl 0 rfl ?_
  refine kg_8_0 hC w1 f11 dX1_takeBack_28 rfl (by decide) (by decide) ?_
  refine kw_aload_n hC dX1_takeBack_31 rfl 0 rfl ?_
  refine kg_8_1 hC w1 f18 dX1_takeBack_32 rfl (by decide) (by decide) ?_
  refine kw_chi (z' := (S 8 0 1 + 15) % 16) ((hoB 8 0 1 (by omega)).trans hvA) ?_
  refine ka_9 hC dX1_takeBack_35 rfl (by decide) (by decide) (by omega) (by omega) ?_
  refine kw_callV hC (d_X3_take hD (by omega) (by omega) (by omega) (by omega) (by omega)) gX1_takeBack_X3_take ⟨_, rfl⟩ rfl (by omega) (show (16 : Int) < 17 by omega) rfl ⟨rfl, rfl⟩ 1 (by decide +kernel) ⟨by decide, by decide⟩ rfl rfl (Nat.le_of_ble_eq_true rfl) dX1_takeBack_36 rfl (kd_v (fun S3 hp3 => ?_))
  obtain ⟨hg3, hp3⟩ := hp3
  have hfS3 : Fr fU S S3 := hfS2.trans (hg3.mono (fun k i j h => by unfold fT3 at h; unfold fU; omega))
  obtain ⟨y1, y2, y3⟩ := hp3
  have q : ∀ k c j, k = 3 ∨ k = 4 ∨ k = 5 → S2 k c j = S k c j := fun k c j hk => (hoB k c j (by omega)).trans (hoA k c j (by omega))
  exact hR9.2.2.2 rfl _ _ _ dX1_takeBack_39 ⟨rfl, hfS3, by rw [hg3 8 0 1 (by unfold fT3; omega), hoB 8 0 1 (by omega)]; exact hvA, by rw [hg3 8 0 2 (by unfold fT3; omega)]; exact hvB, by rw [y1, q 3 _ 2 (by omega)], fun j a b => by rw [y2 j a b, q 4 _ j (by omega)], fun j a b => by rw [y3 j a b, q 5 _ j (by omega)], fun k c j hk hc => by rw [hg3 k c j (by unfold fT3; omega), q k c j hk]⟩

set_option maxHeartbeats 4000000 in
set_option maxRecDepth 100000 in
theorem d_X7_undo {g : wG} (hD : wD g) {S : wSt}  (hRS : CI S) (l : Launch) : Kt l yX7_undo wsX7_undo ({ frames := 3, cells := 0, slots := 0, locals := 68 } : Room) g S [vr g 0 0] (pI (fun r S' => CI S' ∧ Fr tY S S' ∧ ∀ x, AC S x → AC S' (aUndo x) ∧ r = rUndo x)) := by
  refine Kt.of (cc := cX7_undo) (nL := 1) (ret := (some .int)) (own := RX7) rfl hD (by decide) rfl (Nat.le_of_ble_eq_true rfl) ⟨rfl, rfl⟩ ?_
  intro E hC hR9
  have f12 : Cond.fieldLink RX7 12 "MirrorBench" "set" "LMirrorBench$Mirrors;" ∈ wsX7_undo := by decide +kernel
  have f19 : Cond.fieldLink RX7 19 "MirrorBench" "history" "LMirrorBench$History;" ∈ wsX7_undo := by decide +kernel
  have f119 : Cond.fieldLink RX7 119 "MirrorBench$History" "steps" "I" ∈ wsX7_undo := by decide +kernel
  have w1 : ∀ w ∈ wsX10, w ∈ wsX7_undo := by decide +kernel
  have w7 : ∀ w ∈ wsX70, w ∈ wsX7_undo := by decide +kernel
  show Wk E g 1 S 0 [(0, vr g 0 0)] []
  have hfS : Fr tY S S := Fr.rfl _ S
  have hn := hRS.n
  refine kw_aload_n hC dX7_undo_0 rfl 0 rfl ?_
  refine kg_0_1 hC w7 f19 dX7_undo_1 rfl (by decide) (by decide) ?_
  refine kg_8_2 hC w1 f119 dX7_undo_4 rfl (by decide) (by decide) ?_
  refine kw_if_ne (tgt := 13) hC dX7_undo_7 rfl (by decide) (by have := hRS.hs; omega) ⟨fun c7 => ?_, fun c7 => ?_⟩
  · refine kw_aload_n hC dX7_undo_13 rfl 0 rfl ?_
    refine kg_0_1 hC w7 f19 dX7_undo_14 rfl (by decide) (by decide) ?_
    refine kw_aload_n hC dX7_undo_17 rfl 0 rfl ?_
    refine kg_0_0 hC w7 f12 dX7_undo_18 rfl (by decide) (by decide) ?_
    refine kw_callV hC (d_X1_takeBack hD hRS) gX7_undo_X1_takeBack ⟨_, rfl⟩ rfl (by decide) (by decide) rfl ⟨rfl, rfl⟩ 1 (by decide +kernel) ⟨by decide, by decide⟩ rfl rfl (Nat.le_of_ble_eq_true rfl) dX7_undo_21 rfl (kd_v (fun S2 hp2 => ?_))
    obtain ⟨hg2, hp2⟩ := hp2
    have hfS2 : Fr tY S S2 := hfS.trans (hg2.mono (fun k i j h => by unfold fU at h; unfold tY; omega))
    obtain ⟨y1, y2, y3, y4, y5, y6⟩ := hp2
    have hh := hRS.hs
    refine kw_aload_n hC dX7_undo_24 rfl 0 rfl ?_
    refine kw_callV hC (d_X7_startAnew hD ) gX7_undo_X7_startAnew ⟨_, rfl⟩ rfl (by decide) (by decide) rfl ⟨rfl, rfl⟩ 0 (by decide +kernel) ⟨by decide, by decide⟩ rfl rfl (Nat.le_of_ble_eq_true rfl) dX7_undo_25 rfl (kd_v (fun S3 hp3 => ?_))
    obtain ⟨hg3, hp3⟩ := hp3
    have hfS3 : Fr tY S S3 := hfS2.trans (hg3.mono (fun k i j h => by unfold fN at h; unfold tY; omega))
    obtain ⟨hw1, h12, h16⟩ := hp3
    have z3 : ∀ c j, S3 3 c j = S2 3 c j := fun c j => hg3 3 c j (by unfold fN; omega)
    have z4 : ∀ c j, S3 4 c j = S2 4 c j := fun c j => hg3 4 c j (by unfold fN; omega)
    have z5 : ∀ c j, S3 5 c j = S2 5 c j := fun c j => hg3 5 c j (by unfold fN; omega)
    have z8 : ∀ j, S3 8 0 j = S2 8 0 j := fun j => hg3 8 0 j (by unfold fN; omega)
    have g1 : S3 8 0 1 = (S 8 0 1 + 15) % 16 := by rw [z8, y1]
    have g2 : S3 8 0 2 = S 8 0 2 - 1 := by rw [z8, y2]
    have gn : S3 3 16 2 = S 3 ((S 8 0 1 + 15) % 16) 2 := by rw [z3, y3]
    have g4 : ∀ j, 0 ≤ j → j < 6 → S3 4 16 j = S 4 ((S 8 0 1 + 15) % 16) j := fun j a b => by rw [z4]; exact y4 j a b
    have g5 : ∀ j, 0 ≤ j → j < 36 → S3 5 16 j = S 5 ((S 8 0 1 + 15) % 16) j := fun j a b => by rw [z5]; exact y5 j a b
    have go : ∀ k c j, k = 3 ∨ k = 4 ∨ k = 5 → c < 16 → S3 k c j = S k c j := fun k c j hk hc => by rcases hk with rfl | rfl | rfl; exact (by rw [z3]; exact y6 3 c j (by omega) hc); exact (by rw [z4]; exact y6 4 c j (by omega) hc); exact (by rw [z5]; exact y6 5 c j (by omega) hc)
    have hi8 : CI S3 := hRS.anew ((hRS.kp _ (by omega) (by omega)).congr gn g4 g5) (by omega) (fun c c0 c1 => (hRS.kp c c0 c1).congr (go 3 c 2 (by omega) c1) (fun i _ _ => go 4 c i (by omega) c1) (fun i _ _ => go 5 c i (by omega) c1)) hfS3 hw1 h12 h16
    refine kw_aload_n hC dX7_undo_28 rfl 0 rfl ?_
    refine kg_0_1 hC w7 f19 dX7_undo_29 rfl (by decide) (by decide) ?_
    refine kg_8_2 hC w1 f119 dX7_undo_32 rfl (by decide) (by decide) ?_
    refine kw_chi (z' := S 8 0 2 - 1) g2 ?_
    exact hR9.1 rfl _ _ _ _ dX7_undo_35 ⟨_, rfl, hi8, hfS3, fun x hx => by have e := hx.2.1; unfold aUndo rUndo; rw [if_neg (by omega), if_neg (by omega)]; exact ⟨hx.undo hRS c7 g1 g2 gn g4 g5 go, by omega⟩⟩
  · refine kw_bipush hC dX7_undo_10 rfl (by decide) ?_
    exact hR9.1 rfl _ _ _ _ dX7_undo_12 ⟨_, rfl, hRS, Fr.rfl _ S, fun x hx => by have e := hx.2.1; have e4 := hx.2.1; unfold aUndo rUndo; rw [if_pos (by omega), if_pos (by omega)]; exact ⟨hx, rfl⟩⟩

set_option maxHeartbeats 4000000 in
set_option maxRecDepth 100000 in
theorem d_X7_told {g : wG} (hD : wD g) {S : wSt} {a b c : Int} (ha : -2147483648 ≤ a ∧ a ≤ 2147483647) (hb : -2147483648 ≤ b ∧ b ≤ 2147483647) (hc : -2147483648 ≤ c ∧ c ≤ 2147483647) (hRS : CI S) (l : Launch) : Kt l yX7_told wsX7_told ({ frames := 2, cells := 0, slots := 0, locals := 44 } : Room) g S [vr g 0 0, vi a, vi b, vi c] (pI (fun r S' => S' = S ∧ ∀ x, AC S x → r = rTold a b c x)) := by
  refine Kt.of (cc := cX7_told) (nL := 4) (ret := (some .int)) (own := RX7) rfl hD (by decide) rfl (Nat.le_of_ble_eq_true rfl) ⟨rfl, rfl⟩ ?_
  intro E hC hR9
  have f12 : Cond.fieldLink RX7 12 "MirrorBench" "set" "LMirrorBench$Mirrors;" ∈ wsX7_told := by decide +kernel
  have f83 : Cond.fieldLink RX7 83 "MirrorBench$Mirrors" "size" "I" ∈ wsX7_told := by decide +kernel
  have f115 : Cond.fieldLink RX7 115 "MirrorBench$Mirrors" "kinds" "[I" ∈ wsX7_told := by decide +kernel
  have w3 : ∀ w ∈ wsX30, w ∈ wsX7_told := by decide +kernel
  have w7 : ∀ w ∈ wsX70, w ∈ wsX7_told := by decide +kernel
  show Wk E g 4 S 0 [(0, vr g 0 0), (1, vi a), (2, vi b), (3, vi c)] []
  have hn := hRS.n
  refine kw_iload_n hC dX7_told_0 rfl 1 rfl ?_
  refine kw_iconst hC dX7_told_1 rfl ?_
  refine kw_icmp_ne (tgt := 13) hC dX7_told_2 rfl (by decide) (by omega) (by omega) ⟨fun c2 => ?_, fun c2 => ?_⟩
  · refine kw_aload_n hC dX7_told_13 rfl 0 rfl ?_
    refine kg_0_0 hC w7 f12 dX7_told_14 rfl (by decide) (by decide) ?_
    refine kw_iload_n hC dX7_told_17 rfl 2 rfl ?_
    refine kw_callV hC (d_X3_has hD (by omega) (by omega) (by omega) (by omega) (by omega)) gX7_told_X3_has ⟨_, rfl⟩ rfl (by omega) (show (16 : Int) < 17 by omega) rfl ⟨rfl, rfl⟩ 1 (by decide +kernel) ⟨by decide, by decide⟩ rfl rfl (Nat.le_of_ble_eq_true rfl) dX7_told_18 rfl (kd_ie ?_)
    refine kw_ifne_b (tgt := 26) hC dX7_told_21 rfl (by decide) ⟨fun c21 => ?_, fun c21 => ?_⟩
    · refine kw_iload_n hC dX7_told_26 rfl 1 rfl ?_
      refine kw_if_ne (tgt := 40) hC dX7_told_27 rfl (by decide) (by omega) ⟨fun c27 => ?_, fun c27 => ?_⟩
      · refine kw_aload_n hC dX7_told_40 rfl 0 rfl ?_
        refine kg_0_0 hC w7 f12 dX7_told_41 rfl (by decide) (by decide) ?_
        refine kw_iload_n hC dX7_told_44 rfl 3 rfl ?_
        refine kw_callV hC (d_X3_has hD (by omega) (by omega) (by omega) (by omega) (by omega)) gX7_told_X3_has ⟨_, rfl⟩ rfl (by omega) (show (16 : Int) < 17 by omega) rfl ⟨rfl, rfl⟩ 1 (by decide +kernel) ⟨by decide, by decide⟩ rfl rfl (Nat.le_of_ble_eq_true rfl) dX7_told_45 rfl (kd_ie ?_)
        refine kw_ifne_b (tgt := 53) hC dX7_told_48 rfl (by decide) ⟨fun c48 => ?_, fun c48 => ?_⟩
        · refine kw_iload_n hC dX7_told_53 rfl 1 rfl ?_
          refine kw_iconst hC dX7_told_54 rfl ?_
          refine kw_icmp_ne (tgt := 68) hC dX7_told_55 rfl (by decide) (by omega) (by omega) ⟨fun c55 => ?_, fun c55 => ?_⟩
          · refine kw_iload_n hC dX7_told_68 rfl 1 rfl ?_
            refine kw_iconst hC dX7_told_69 rfl ?_
            refine kw_icmp_ne (tgt := 85) hC dX7_told_70 rfl (by decide) (by omega) (by omega) ⟨fun c70 => ?_, fun c70 => ?_⟩
            · refine kw_iconst hC dX7_told_85 rfl ?_
              exact hR9.1 rfl _ _ _ _ dX7_told_86 ⟨_, rfl, rfl, fun x hx => by have e := hx.1.1; have hk := hx.1.2.1; have hm := hx.1.2.2; unfold rTold; (repeat' split) <;> first | omega | exact e | exact hk b (by omega) (by omega) | exact hm b c (by omega) (by omega) (by omega) (by omega) | rw [hm b c (by omega) (by omega) (by omega) (by omega), hm c b (by omega) (by omega) (by omega) (by omega)] | (rename_i e9; subst e9; have := hRS.set.2.2.2.1 b (by omega) (by omega); omega)⟩
            · refine kw_aload_n hC dX7_told_73 rfl 0 rfl ?_
              refine kg_0_0 hC w7 f12 dX7_told_74 rfl (by decide) (by decide) ?_
              refine kw_iload_n hC dX7_told_77 rfl 2 rfl ?_
              refine kw_iload_n hC dX7_told_78 rfl 3 rfl ?_
              refine kw_callV hC (d_X3_meetsAt hD (by omega) (by omega) (by omega) (by omega) hRS) gX7_told_X3_meetsAt ⟨_, rfl⟩ rfl (by omega) (show (16 : Int) < 17 by omega) rfl ⟨rfl, rfl⟩ 2 (by decide +kernel) ⟨by decide, by decide⟩ rfl rfl (Nat.le_of_ble_eq_true rfl) dX7_told_79 rfl (kd_ie ?_)
              refine kw_goto (tgt := 86) hC dX7_told_82 rfl (by decide) ?_
              exact hR9.1 rfl _ _ _ _ dX7_told_86 ⟨_, rfl, rfl, fun x hx => by have e := hx.1.1; have hk := hx.1.2.1; have hm := hx.1.2.2; unfold rTold; (repeat' split) <;> first | omega | exact e | exact hk b (by omega) (by omega) | exact hm b c (by omega) (by omega) (by omega) (by omega) | rw [hm b c (by omega) (by omega) (by omega) (by omega), hm c b (by omega) (by omega) (by omega) (by omega)] | (rename_i e9; subst e9; have := hRS.set.2.2.2.1 b (by omega) (by omega); omega)⟩
          · refine kw_aload_n hC dX7_told_58 rfl 0 rfl ?_
            refine kg_0_0 hC w7 f12 dX7_told_59 rfl (by decide) (by decide) ?_
            refine kw_iload_n hC dX7_told_62 rfl 2 rfl ?_
            refine kw_iload_n hC dX7_told_63 rfl 3 rfl ?_
            refine kw_callV hC (d_X3_number hD (by omega) (by omega) (by omega) (by omega) (by omega) (by omega)) gX7_told_X3_number ⟨_, rfl⟩ rfl (by omega) (show (16 : Int) < 17 by omega) rfl ⟨rfl, rfl⟩ 2 (by decide +kernel) ⟨by decide, by decide⟩ rfl rfl (Nat.le_of_ble_eq_true rfl) dX7_told_64 rfl (kd_ie ?_)
            exact hR9.1 rfl _ _ _ _ dX7_told_67 ⟨_, rfl, rfl, fun x hx => by have e := hx.1.1; have hk := hx.1.2.1; have hm := hx.1.2.2; unfold rTold; (repeat' split) <;> first | omega | exact e | exact hk b (by omega) (by omega) | exact hm b c (by omega) (by omega) (by omega) (by omega) | rw [hm b c (by omega) (by omega) (by omega) (by omega), hm c b (by omega) (by omega) (by omega) (by omega)] | (rename_i e9; subst e9; have := hRS.set.2.2.2.1 b (by omega) (by omega); omega)⟩
        · refine kw_iconst hC dX7_told_51 rfl ?_
          exact hR9.1 rfl _ _ _ _ dX7_told_52 ⟨_, rfl, rfl, fun x hx => by have e := hx.1.1; have hk := hx.1.2.1; have hm := hx.1.2.2; unfold rTold; (repeat' split) <;> first | omega | exact e | exact hk b (by omega) (by omega) | exact hm b c (by omega) (by omega) (by omega) (by omega) | rw [hm b c (by omega) (by omega) (by omega) (by omega), hm c b (by omega) (by omega) (by omega) (by omega)] | (rename_i e9; subst e9; have := hRS.set.2.2.2.1 b (by omega) (by omega); omega)⟩
      · refine kw_aload_n hC dX7_told_30 rfl 0 rfl ?_
        refine kg_0_0 hC w7 f12 dX7_told_31 rfl (by decide) (by decide) ?_
        refine kg_3_0 hC w3 f115 dX7_told_34 rfl (by omega) (by omega) ?_
        refine kw_iload_n hC dX7_told_37 rfl 2 rfl ?_
        refine ka_4 hC dX7_told_38 rfl (by omega) (by omega) (by omega) (by omega) ?_
        exact hR9.1 rfl _ _ _ _ dX7_told_39 ⟨_, rfl, rfl, fun x hx => by have e := hx.1.1; have hk := hx.1.2.1; have hm := hx.1.2.2; unfold rTold; (repeat' split) <;> first | omega | exact e | exact hk b (by omega) (by omega) | exact hm b c (by omega) (by omega) (by omega) (by omega) | rw [hm b c (by omega) (by omega) (by omega) (by omega), hm c b (by omega) (by omega) (by omega) (by omega)] | (rename_i e9; subst e9; have := hRS.set.2.2.2.1 b (by omega) (by omega); omega)⟩
    · refine kw_iconst hC dX7_told_24 rfl ?_
      exact hR9.1 rfl _ _ _ _ dX7_told_25 ⟨_, rfl, rfl, fun x hx => by have e := hx.1.1; have hk := hx.1.2.1; have hm := hx.1.2.2; unfold rTold; (repeat' split) <;> first | omega | exact e | exact hk b (by omega) (by omega) | exact hm b c (by omega) (by omega) (by omega) (by omega) | rw [hm b c (by omega) (by omega) (by omega) (by omega), hm c b (by omega) (by omega) (by omega) (by omega)] | (rename_i e9; subst e9; have := hRS.set.2.2.2.1 b (by omega) (by omega); omega)⟩
  · refine kw_aload_n hC dX7_told_5 rfl 0 rfl ?_
    refine kg_0_0 hC w7 f12 dX7_told_6 rfl (by decide) (by decide) ?_
    refine kg_3_2 hC w3 f83 dX7_told_9 rfl (by omega) (by omega) ?_
    exact hR9.1 rfl _ _ _ _ dX7_told_12 ⟨_, rfl, rfl, fun x hx => by have e := hx.1.1; have hk := hx.1.2.1; have hm := hx.1.2.2; unfold rTold; (repeat' split) <;> first | omega | exact e | exact hk b (by omega) (by omega) | exact hm b c (by omega) (by omega) (by omega) (by omega) | rw [hm b c (by omega) (by omega) (by omega) (by omega), hm c b (by omega) (by omega) (by omega) (by omega)] | (rename_i e9; subst e9; have := hRS.set.2.2.2.1 b (by omega) (by omega); omega)⟩

def tK (k : Nat) (i j : Int) : Prop := k = 6 ∨ k = 7

def fLe (w : Int) (k : Nat) (i j : Int) : Prop := (k = 6 ∨ k = 7) ∧ i = w

theorem CI.lfs {S S' : wSt} (h : CI S) (f : Fr tK S S') (h5' : ∀ l, 0 ≤ l → l < 4 → (S' 6 l 1 = 0 ∨ S' 6 l 1 = 1) ∧ (0 ≤ S' 6 l 2 ∧ S' 6 l 2 ≤ 2) ∧ 0 ≤ S' 6 l 3 ∧ S' 6 l 3 ≤ 40) (h6' : ∀ l j, 0 ≤ l → l < 4 → 0 ≤ j → j < 40 → -9223372036854775808 ≤ S' 7 l j ∧ S' 7 l j ≤ 9223372036854775807) : CI S' := by
  have e (k : Nat) (i : Int) (hk : k ≠ 6 ∧ k ≠ 7) : S' k i = S k i := funext fun j => f k i j (by unfold tK; omega)
  obtain ⟨h1, h2, h3, h4, -, -, h7, h8⟩ := h
  exact ⟨by rw [e 3 16 (by omega), e 4 16 (by omega), e 5 16 (by omega)]; exact h1, by rw [e 8 0 (by omega)]; exact h2, fun c c0 c1 => by rw [e 3 c (by omega), e 4 c (by omega), e 5 c (by omega)]; exact h3 c c0 c1, fun s s0 s1 => by rw [e 1 s (by omega), e 2 s (by omega), e 3 16 (by omega)]; exact h4 s s0 s1, h5', h6', by unfold RLI; rw [e 12 0 (by omega), e 13 0 (by omega), e 14 0 (by omega), e 15 0 (by omega), e 5 16 (by omega), e 3 16 (by omega)]; exact h7, by unfold FLI; rw [e 16 0 (by omega), e 17 0 (by omega), e 18 0 (by omega), e 3 16 (by omega)]; exact h8⟩

set_option maxHeartbeats 4000000 in
set_option maxRecDepth 100000 in
theorem d_X2_hold {g : wG} (hD : wD g) {S : wSt} {p a b : Int} (p0 : 0 ≤ p) (p1 : p < 4) (l : Launch) : Kt l yX2_hold wsX2_hold ({ frames := 1, cells := 0, slots := 0, locals := 24 } : Room) g S [vr g 6 p, vi a, vi b] (pV (fun S' => Fr (fLe p) S S' ∧ (S' 6 p 1 = 1 ∧ S' 6 p 2 = a ∧ S' 6 p 3 = b ∧ ∀ j, 0 ≤ j → j < 40 → S' 7 p j = 0))) := by
  refine Kt.of (cc := cX2_hold) (nL := 3) (ret := none) (own := RX2) rfl hD (by decide) rfl (Nat.le_of_ble_eq_true rfl) ⟨rfl, rfl⟩ ?_
  intro E hC hR9
  have f9 : Cond.fieldLink RX2 9 "MirrorBench$Leaf" "items" "[J" ∈ wsX2_hold := by decide +kernel
  have f21 : Cond.fieldLink RX2 21 "MirrorBench$Leaf" "held" "Z" ∈ wsX2_hold := by decide +kernel
  have f25 : Cond.fieldLink RX2 25 "MirrorBench$Leaf" "lane" "I" ∈ wsX2_hold := by decide +kernel
  have f29 : Cond.fieldLink RX2 29 "MirrorBench$Leaf" "length" "I" ∈ wsX2_hold := by decide +kernel
  have w2 : ∀ w ∈ wsX20, w ∈ wsX2_hold := by decide +kernel
  show Wk E g 3 S 0 [(0, vr g 6 p), (1, vi a), (2, vi b)] []
  have hfS : Fr (fLe p) S S := Fr.rfl _ S
  refine kw_aload_n hC dX2_hold_0 rfl 0 rfl ?_
  refine kg_6_0 hC w2 f9 dX2_hold_1 rfl (by omega) (by omega) ?_
  refine kw_lconst (z := 0) hC dX2_hold_4 rfl rfl ?_
  refine kw_callS hC (d_J7_fill hD (c := 7) (n := 40) (w := p) (fun _ => rfl) (by decide) (by omega) (show p < 4 by omega)) gX2_hold_J7_fill_d0a16 rfl ⟨rfl, rfl⟩ 2 (by decide +kernel) ⟨by decide, by decide⟩ rfl rfl (Nat.le_of_ble_eq_true rfl) dX2_hold_5 rfl (kd_v (fun S1 hp1 => ?_))
  obtain ⟨hg1, hp1⟩ := hp1
  have hfS1 : Fr (fLe p) S S1 := hfS.trans (hg1.mono (fun k i j h => by unfold fCl at h; unfold fLe; omega))
  have hz := hp1
  refine kw_aload_n hC dX2_hold_8 rfl 0 rfl ?_
  refine kw_iconst hC dX2_hold_9 rfl ?_
  refine kp_6_1 hC w2 f21 dX2_hold_10 rfl (by omega) (by omega) (by omega) ?_
  refine kw_hv hfS1 (by unfold fLe; omega) (fun S2 hfS2 hv2 ho2 => ?_)
  have hv1 := hv2
  have ho1 := ho2
  refine kw_aload_n hC dX2_hold_13 rfl 0 rfl ?_
  refine kw_iload_n hC dX2_hold_14 rfl 1 rfl ?_
  refine kp_6_2 hC w2 f25 dX2_hold_15 rfl (by omega) (by omega) ?_
  refine kw_hv hfS2 (by unfold fLe; omega) (fun S3 hfS3 hv3 ho3 => ?_)
  have hv2 := hv3
  have ho2 := ho3
  refine kw_aload_n hC dX2_hold_18 rfl 0 rfl ?_
  refine kw_iload_n hC dX2_hold_19 rfl 2 rfl ?_
  refine kp_6_3 hC w2 f29 dX2_hold_20 rfl (by omega) (by omega) ?_
  refine kw_hv hfS3 (by unfold fLe; omega) (fun S4 hfS4 hv4 ho4 => ?_)
  exact hR9.2.2.2 rfl _ _ _ dX2_hold_23 ⟨rfl, hfS4, by rw [ho4 6 p 1 (by omega), ho2 6 p 1 (by omega)]; exact hv1, by rw [ho4 6 p 2 (by omega)]; exact hv2, hv4, fun j j0 j1 => by rw [ho4 7 p j (by omega), ho2 7 p j (by omega), ho1 7 p j (by omega)]; exact hz j j0 j1⟩

set_option maxHeartbeats 4000000 in
set_option maxRecDepth 100000 in
theorem d_X7_leaf {g : wG} (hD : wD g) {S : wSt} {a b c : Int} (ha : -2147483648 ≤ a ∧ a ≤ 2147483647) (hb : -2147483648 ≤ b ∧ b ≤ 2147483647) (hc : -2147483648 ≤ c ∧ c ≤ 2147483647) (hRS : CI S) (l : Launch) : Kt l yX7_leaf wsX7_leaf ({ frames := 2, cells := 0, slots := 0, locals := 46 } : Room) g S [vr g 0 0, vi a, vi b, vi c] (pI (fun r S' => CI S' ∧ Fr tK S S' ∧ ∀ y, LC S y → LC S' (aLeaf a b c y) ∧ r = rLeaf a b c y)) := by
  refine Kt.of (cc := cX7_leaf) (nL := 4) (ret := (some .int)) (own := RX7) rfl hD (by decide) rfl (Nat.le_of_ble_eq_true rfl) ⟨rfl, rfl⟩ ?_
  intro E hC hR9
  have f31 : Cond.fieldLink RX7 31 "MirrorBench" "leaves" "[LMirrorBench$Leaf;" ∈ wsX7_leaf := by decide +kernel
  have w7 : ∀ w ∈ wsX70, w ∈ wsX7_leaf := by decide +kernel
  show Wk E g 4 S 0 [(0, vr g 0 0), (1, vi a), (2, vi b), (3, vi c)] []
  have hfS : Fr tK S S := Fr.rfl _ S
  have hn := hRS.n
  refine kw_iload_n hC dX7_leaf_0 rfl 1 rfl ?_
  refine kw_callS hC (d_X7_isLeaf hD (by omega)) gX7_leaf_X7_isLeaf rfl ⟨rfl, rfl⟩ 1 (by decide +kernel) ⟨by decide, by decide⟩ rfl rfl (Nat.le_of_ble_eq_true rfl) dX7_leaf_1 rfl (kd_ie ?_)
  refine kw_ifeq_b (tgt := 20) hC dX7_leaf_4 rfl (by decide) ⟨fun c4 => ?_, fun c4 => ?_⟩
  · refine kw_iconst hC dX7_leaf_20 rfl ?_
    exact hR9.1 rfl _ _ _ _ dX7_leaf_21 ⟨_, rfl, hRS, Fr.rfl _ S, fun y hy => by skip; unfold aLeaf rLeaf; (repeat' split) <;> first | omega | exact ⟨hy, by omega⟩ | exact ⟨hy, rfl⟩⟩
  · refine kw_iload_n hC dX7_leaf_7 rfl 2 rfl ?_
    refine kw_callS hC (d_X7_isLane hD (by omega)) gX7_leaf_X7_isLane rfl ⟨rfl, rfl⟩ 1 (by decide +kernel) ⟨by decide, by decide⟩ rfl rfl (Nat.le_of_ble_eq_true rfl) dX7_leaf_8 rfl (kd_ie ?_)
    refine kw_ifeq_b (tgt := 20) hC dX7_leaf_11 rfl (by decide) ⟨fun c11 => ?_, fun c11 => ?_⟩
    · refine kw_iconst hC dX7_leaf_20 rfl ?_
      exact hR9.1 rfl _ _ _ _ dX7_leaf_21 ⟨_, rfl, hRS, Fr.rfl _ S, fun y hy => by skip; unfold aLeaf rLeaf; (repeat' split) <;> first | omega | exact ⟨hy, by omega⟩ | exact ⟨hy, rfl⟩⟩
    · refine kw_iload_n hC dX7_leaf_14 rfl 3 rfl ?_
      refine kw_bipush hC dX7_leaf_15 rfl (by decide) ?_
      refine kw_icmp_le (tgt := 22) hC dX7_leaf_17 rfl (by decide) (by omega) (by omega) ⟨fun c17 => ?_, fun c17 => ?_⟩
      · refine kw_iload_n hC dX7_leaf_22 rfl 3 rfl ?_
        refine kw_if_ge (tgt := 29) hC dX7_leaf_23 rfl (by decide) (by omega) ⟨fun c23 => ?_, fun c23 => ?_⟩
        · refine kw_aload_n hC dX7_leaf_29 rfl 0 rfl ?_
          refine kg_0_3 hC w7 f31 dX7_leaf_30 rfl (by decide) (by decide) ?_
          refine kw_iload_n hC dX7_leaf_33 rfl 1 rfl ?_
          refine ka_21 hC dX7_leaf_34 rfl (by decide) (by decide) (by omega) (by omega) ?_
          refine kw_iload_n hC dX7_leaf_35 rfl 2 rfl ?_
          refine kw_iload_n hC dX7_leaf_36 rfl 3 rfl ?_
          refine kw_callV hC (d_X2_hold hD (by omega) (by omega)) gX7_leaf_X2_hold ⟨_, rfl⟩ rfl (by omega) (show (_ : Int) < 4 by omega) rfl ⟨rfl, rfl⟩ 2 (by decide +kernel) ⟨by decide, by decide⟩ rfl rfl (Nat.le_of_ble_eq_true rfl) dX7_leaf_37 rfl (kd_v (fun S5 hp5 => ?_))
          obtain ⟨hg5, hp5⟩ := hp5
          have hfS5 : Fr tK S S5 := hfS.trans (hg5.mono (fun k i j h => by unfold fLe at h; unfold tK; omega))
          obtain ⟨y1, y2, y3, y4⟩ := hp5
          have go : ∀ k l j, l ≠ a → S5 k l j = S k l j := fun k l j hl => hg5 k l j (by unfold fLe; omega)
          have hi8 := hRS.lfs hfS5 (fun l l0 l1 => by rcases Decidable.em (l = a) with e | e; exact (by rw [e, y1, y2, y3]; omega); exact (by rw [go 6 l 1 e, go 6 l 2 e, go 6 l 3 e]; exact hRS.lf l l0 l1)) (fun l j l0 l1 j0 j1 => by rcases Decidable.em (l = a) with e | e; exact (by rw [e, y4 j j0 j1]; omega); exact (by rw [go 7 l j e]; exact hRS.it l j l0 l1 j0 j1))
          refine kw_iload_n hC dX7_leaf_40 rfl 3 rfl ?_
          exact hR9.1 rfl _ _ _ _ dX7_leaf_41 ⟨_, rfl, hi8, hfS5, fun y hy => by skip; unfold aLeaf rLeaf; (repeat' split) <;> first | omega | exact ⟨fun l l0 l1 => by obtain ⟨u1, u2, u3⟩ := hy l l0 l1; rcases Decidable.em (l = a) with e | e; exact (by subst e; exact ⟨by show (if l = l then b else _) = _; rw [if_pos rfl, y1, y2]; rfl, by show _ = (if l = l then c else _); rw [if_pos rfl]; exact y3, fun j j0 j1 => by show _ = (if l = l then (0 : Int) else _); rw [if_pos rfl]; exact y4 j j0 j1⟩); exact ⟨by show (if l = a then b else _) = _; rw [if_neg e, go 6 l 1 e, go 6 l 2 e]; exact u1, by show _ = (if l = a then c else _); rw [if_neg e, go 6 l 3 e]; exact u2, fun j j0 j1 => by show _ = (if l = a then (0 : Int) else _); rw [if_neg e, go 7 l j e]; exact u3 j j0 j1⟩, by omega⟩⟩
        · refine kw_bipush hC dX7_leaf_26 rfl (by decide) ?_
          exact hR9.1 rfl _ _ _ _ dX7_leaf_28 ⟨_, rfl, hRS, Fr.rfl _ S, fun y hy => by skip; unfold aLeaf rLeaf; (repeat' split) <;> first | omega | exact ⟨hy, by omega⟩ | exact ⟨hy, rfl⟩⟩
      · refine kw_iconst hC dX7_leaf_20 rfl ?_
        exact hR9.1 rfl _ _ _ _ dX7_leaf_21 ⟨_, rfl, hRS, Fr.rfl _ S, fun y hy => by skip; unfold aLeaf rLeaf; (repeat' split) <;> first | omega | exact ⟨hy, by omega⟩ | exact ⟨hy, rfl⟩⟩

set_option maxHeartbeats 4000000 in
set_option maxRecDepth 100000 in
theorem d_X7_drop {g : wG} (hD : wD g) {S : wSt} {a : Int} (ha : -2147483648 ≤ a ∧ a ≤ 2147483647) (hRS : CI S) (l : Launch) : Kt l yX7_drop wsX7_drop ({ frames := 1, cells := 0, slots := 0, locals := 20 } : Room) g S [vr g 0 0, vi a] (pI (fun r S' => CI S' ∧ Fr tK S S' ∧ ∀ y, LC S y → LC S' (aDrop a y) ∧ r = rDrop a y)) := by
  refine Kt.of (cc := cX7_drop) (nL := 2) (ret := (some .int)) (own := RX7) rfl hD (by decide) rfl (Nat.le_of_ble_eq_true rfl) ⟨rfl, rfl⟩ ?_
  intro E hC hR9
  have f31 : Cond.fieldLink RX7 31 "MirrorBench" "leaves" "[LMirrorBench$Leaf;" ∈ wsX7_drop := by decide +kernel
  have f264 : Cond.fieldLink RX7 264 "MirrorBench$Leaf" "held" "Z" ∈ wsX7_drop := by decide +kernel
  have f268 : Cond.fieldLink RX7 268 "MirrorBench$Leaf" "length" "I" ∈ wsX7_drop := by decide +kernel
  have w2 : ∀ w ∈ wsX20, w ∈ wsX7_drop := by decide +kernel
  have w7 : ∀ w ∈ wsX70, w ∈ wsX7_drop := by decide +kernel
  show Wk E g 2 S 0 [(0, vr g 0 0), (1, vi a)] []
  have hfS : Fr tK S S := Fr.rfl _ S
  have hn := hRS.n
  refine kw_iload_n hC dX7_drop_0 rfl 1 rfl ?_
  refine kw_callS hC (d_X7_isLeaf hD (by omega)) gX7_drop_X7_isLeaf rfl ⟨rfl, rfl⟩ 1 (by decide +kernel) ⟨by decide, by decide⟩ rfl rfl (Nat.le_of_ble_eq_true rfl) dX7_drop_1 rfl (kd_ie ?_)
  refine kw_ifne_b (tgt := 9) hC dX7_drop_4 rfl (by decide) ⟨fun c4 => ?_, fun c4 => ?_⟩
  · have hla := hRS.lf a (by omega) (by omega)
    refine kw_aload_n hC dX7_drop_9 rfl 0 rfl ?_
    refine kg_0_3 hC w7 f31 dX7_drop_10 rfl (by decide) (by decide) ?_
    refine kw_iload_n hC dX7_drop_13 rfl 1 rfl ?_
    refine ka_21 hC dX7_drop_14 rfl (by decide) (by decide) (by omega) (by omega) ?_
    refine kg_6_1 hC w2 f264 dX7_drop_15 rfl (by omega) (by omega) ?_
    refine kw_if_ne (tgt := 24) hC dX7_drop_18 rfl (by decide) (by omega) ⟨fun c18 => ?_, fun c18 => ?_⟩
    · refine kw_aload_n hC dX7_drop_24 rfl 0 rfl ?_
      refine kg_0_3 hC w7 f31 dX7_drop_25 rfl (by decide) (by decide) ?_
      refine kw_iload_n hC dX7_drop_28 rfl 1 rfl ?_
      refine ka_21 hC dX7_drop_29 rfl (by decide) (by decide) (by omega) (by omega) ?_
      refine kw_iconst hC dX7_drop_30 rfl ?_
      refine kp_6_1 hC w2 f264 dX7_drop_31 rfl (by omega) (by omega) (by omega) ?_
      refine kw_hv hfS (by unfold tK; omega) (fun S3 hfS3 hv3 ho3 => ?_)
      have hv9 := hv3
      have ho9 := ho3
      have hi8 := hRS.lfs hfS3 (fun l l0 l1 => by rcases Decidable.em (l = a) with e | e; exact (by have := hRS.lf l l0 l1; rw [ho9 6 l 2 (by omega), ho9 6 l 3 (by omega), e, hv9]; rw [e] at this; omega); exact (by rw [ho9 6 l 1 (by omega), ho9 6 l 2 (by omega), ho9 6 l 3 (by omega)]; exact hRS.lf l l0 l1)) (fun l j l0 l1 j0 j1 => by rw [ho9 7 l j (by omega)]; exact hRS.it l j l0 l1 j0 j1)
      refine kw_aload_n hC dX7_drop_34 rfl 0 rfl ?_
      refine kg_0_3 hC w7 f31 dX7_drop_35 rfl (by decide) (by decide) ?_
      refine kw_iload_n hC dX7_drop_38 rfl 1 rfl ?_
      refine ka_21 hC dX7_drop_39 rfl (by decide) (by decide) (by omega) (by omega) ?_
      refine kg_6_3 hC w2 f268 dX7_drop_40 rfl (by omega) (by omega) ?_
      refine kw_chi (z' := S 6 a 3) (ho9 6 a 3 (by omega)) ?_
      exact hR9.1 rfl _ _ _ _ dX7_drop_43 ⟨_, rfl, hi8, hfS3, fun y hy => by obtain ⟨u1, u2, u3⟩ := hy a (by omega) (by omega); split at u1 <;> (unfold aDrop rDrop; (repeat' split) <;> first | omega | exact ⟨fun l l0 l1 => by obtain ⟨u4, u5, u6⟩ := hy l l0 l1; exact ⟨by show (if l = a then (-1 : Int) else _) = _; rcases Decidable.em (l = a) with e | e; exact (by rw [if_pos e, e, if_pos hv9]); exact (by rw [if_neg e, ho9 6 l 1 (by omega), ho9 6 l 2 (by omega)]; exact u4), by rw [ho9 6 l 3 (by omega)]; exact u5, fun j j0 j1 => by rw [ho9 7 l j (by omega)]; exact u6 j j0 j1⟩, by omega⟩)⟩
    · refine kw_bipush hC dX7_drop_21 rfl (by decide) ?_
      exact hR9.1 rfl _ _ _ _ dX7_drop_23 ⟨_, rfl, hRS, Fr.rfl _ S, fun y hy => by obtain ⟨u1, u2, u3⟩ := hy a (by omega) (by omega); split at u1 <;> (unfold aDrop rDrop; (repeat' split) <;> first | omega | exact ⟨hy, by omega⟩ | exact ⟨hy, rfl⟩)⟩
  · refine kw_iconst hC dX7_drop_7 rfl ?_
    exact hR9.1 rfl _ _ _ _ dX7_drop_8 ⟨_, rfl, hRS, Fr.rfl _ S, fun y hy => by skip; unfold aDrop rDrop; (repeat' split) <;> first | omega | exact ⟨hy, by omega⟩ | exact ⟨hy, rfl⟩⟩

set_option maxHeartbeats 4000000 in
set_option maxRecDepth 100000 in
theorem d_X7_lowestBits {g : wG} (hD : wD g) {S : wSt} {a v : Int} (ha : -2147483648 ≤ a ∧ a ≤ 2147483647) (l : Launch) : Kt l yX7_lowestBits wsX7_lowestBits ({ frames := 0, cells := 0, slots := 0, locals := 0 } : Room) g S [vi a, vl v] (pL (fun r S' => r = vItem a v ∧ S' = S)) := by
  refine Kt.of (cc := cX7_lowestBits) (nL := 3) (ret := (some .long)) (own := RX7) rfl hD (by decide) rfl (Nat.le_of_ble_eq_true rfl) ⟨rfl, rfl⟩ ?_
  intro E hC hR9
  show Wk E g 3 S 0 [(0, vi a), (1, vl v)] []
  refine kw_iload_n hC dX7_lowestBits_0 rfl 0 rfl ?_
  refine kw_if_ne (tgt := 9) hC dX7_lowestBits_1 rfl (by decide) (by omega) ⟨fun c1 => ?_, fun c1 => ?_⟩
  · refine kw_iload_n hC dX7_lowestBits_9 rfl 0 rfl ?_
    refine kw_iconst hC dX7_lowestBits_10 rfl ?_
    refine kw_icmp_ne (tgt := 20) hC dX7_lowestBits_11 rfl (by decide) (by omega) (by omega) ⟨fun c11 => ?_, fun c11 => ?_⟩
    · refine kw_lload_n hC dX7_lowestBits_20 rfl 1 rfl ?_
      exact hR9.2.2.1 rfl _ _ _ _ dX7_lowestBits_21 ⟨_, rfl, by unfold vItem; (repeat' split) <;> first | rfl | omega, rfl⟩
    · refine kw_lload_n hC dX7_lowestBits_14 rfl 1 rfl ?_
      refine kw_l2i hC dX7_lowestBits_15 rfl ?_
      refine kw_nri ?_
      refine kw_i2l hC dX7_lowestBits_16 rfl (ni_r _) ?_
      refine kw_goto (tgt := 21) hC dX7_lowestBits_17 rfl (by decide) ?_
      exact hR9.2.2.1 rfl _ _ _ _ dX7_lowestBits_21 ⟨_, rfl, by unfold vItem; (repeat' split) <;> first | rfl | omega, rfl⟩
  · refine kw_lload_n hC dX7_lowestBits_4 rfl 1 rfl ?_
    refine kw_l2i hC dX7_lowestBits_5 rfl ?_
    refine kw_i2bX hC dX7_lowestBits_6 rfl ?_
    refine kw_i2l hC dX7_lowestBits_7 rfl (xi_r _) ?_
    exact hR9.2.2.1 rfl _ _ _ _ dX7_lowestBits_8 ⟨_, rfl, by unfold vItem; (repeat' split) <;> first | rfl | omega, rfl⟩

set_option maxHeartbeats 4000000 in
set_option maxRecDepth 100000 in
theorem d_X7_item {g : wG} (hD : wD g) {S : wSt} {a b c d : Int} (ha : -2147483648 ≤ a ∧ a ≤ 2147483647) (hb : -2147483648 ≤ b ∧ b ≤ 2147483647) (hc : -2147483648 ≤ c ∧ c ≤ 2147483647) (hd : -9223372036854775808 ≤ d ∧ d ≤ 9223372036854775807) (hRS : CI S) (l : Launch) : Kt l yX7_item wsX7_item ({ frames := 1, cells := 0, slots := 0, locals := 22 } : Room) g S [vr g 0 0, vi a, vi b, vi c, vl d] (pI (fun r S' => CI S' ∧ Fr tK S S' ∧ ∀ y, LC S y → LC S' (aItem a b c d y) ∧ r = rItem a b c y)) := by
  refine Kt.of (cc := cX7_item) (nL := 8) (ret := (some .int)) (own := RX7) rfl hD (by decide) rfl (Nat.le_of_ble_eq_true rfl) ⟨rfl, rfl⟩ ?_
  intro E hC hR9
  have f31 : Cond.fieldLink RX7 31 "MirrorBench" "leaves" "[LMirrorBench$Leaf;" ∈ wsX7_item := by decide +kernel
  have f150 : Cond.fieldLink RX7 150 "MirrorBench$Leaf" "items" "[J" ∈ wsX7_item := by decide +kernel
  have w2 : ∀ w ∈ wsX20, w ∈ wsX7_item := by decide +kernel
  have w7 : ∀ w ∈ wsX70, w ∈ wsX7_item := by decide +kernel
  show Wk E g 8 S 0 [(0, vr g 0 0), (1, vi a), (2, vi b), (3, vi c), (4, vl d)] []
  have hfS : Fr tK S S := Fr.rfl _ S
  have hn := hRS.n
  refine kw_iload_n hC dX7_item_0 rfl 1 rfl ?_
  refine kw_callS hC (d_X7_isLeaf hD (by omega)) gX7_item_X7_isLeaf rfl ⟨rfl, rfl⟩ 1 (by decide +kernel) ⟨by decide, by decide⟩ rfl rfl (Nat.le_of_ble_eq_true rfl) dX7_item_1 rfl (kd_ie ?_)
  refine kw_ifeq_b (tgt := 14) hC dX7_item_4 rfl (by decide) ⟨fun c4 => ?_, fun c4 => ?_⟩
  · refine kw_iconst hC dX7_item_14 rfl ?_
    exact hR9.1 rfl _ _ _ _ dX7_item_15 ⟨_, rfl, hRS, Fr.rfl _ S, fun y hy => by skip; unfold aItem rItem; (repeat' split) <;> first | omega | exact ⟨hy, by omega⟩ | exact ⟨hy, rfl⟩⟩
  · refine kw_iload_n hC dX7_item_7 rfl 2 rfl ?_
    refine kw_callS hC (d_X7_isLane hD (by omega)) gX7_item_X7_isLane rfl ⟨rfl, rfl⟩ 1 (by decide +kernel) ⟨by decide, by decide⟩ rfl rfl (Nat.le_of_ble_eq_true rfl) dX7_item_8 rfl (kd_ie ?_)
    refine kw_ifne_b (tgt := 16) hC dX7_item_11 rfl (by decide) ⟨fun c11 => ?_, fun c11 => ?_⟩
    · have hla := hRS.lf a (by omega) (by omega)
      refine kw_aload_n hC dX7_item_16 rfl 0 rfl ?_
      refine kg_0_3 hC w7 f31 dX7_item_17 rfl (by decide) (by decide) ?_
      refine kw_iload_n hC dX7_item_20 rfl 1 rfl ?_
      refine ka_21 hC dX7_item_21 rfl (by decide) (by decide) (by omega) (by omega) ?_
      refine kw_astore (lv' := [(6, _), (0, _), (1, _), (2, _), (3, _), (4, _)]) hC dX7_item_22 rfl (by decide) rfl ?_
      refine kw_aload hC dX7_item_24 rfl 0 rfl ?_
      refine kw_iload_n hC dX7_item_26 rfl 3 rfl ?_
      refine kw_callV hC (d_X2_find hD (by omega) (by omega) (by omega) (by omega) (by omega) (by omega)) gX7_item_X2_find ⟨_, rfl⟩ rfl (by omega) (show (_ : Int) < 4 by omega) rfl ⟨rfl, rfl⟩ 1 (by decide +kernel) ⟨by decide, by decide⟩ rfl rfl (Nat.le_of_ble_eq_true rfl) dX7_item_27 rfl (kd_ie ?_)
      obtain ⟨FN, hFN⟩ : ∃ z, z = (if S 6 a 1 = 0 then -11 else if S 6 a 2 = b then 0 else -12 : Int) := ⟨_, rfl⟩
      rw [← hFN]
      have hFr : FN = 0 ∨ FN = -11 ∨ FN = -12 := by rw [hFN]; (repeat' split) <;> omega
      refine kw_istore (lv' := [(7, _), (6, _), (0, _), (1, _), (2, _), (3, _), (4, _)]) hC dX7_item_30 rfl (by decide) rfl ?_
      refine kw_iload hC dX7_item_32 rfl 0 rfl ?_
      refine kw_if_eq (tgt := 40) hC dX7_item_34 rfl (by decide) (by omega) ⟨fun c34 => ?_, fun c34 => ?_⟩
      · refine kw_aload hC dX7_item_40 rfl 1 rfl ?_
        refine kw_iload_n hC dX7_item_42 rfl 5 rfl ?_
        refine kw_iconst hC dX7_item_43 rfl ?_
        refine kw_callV hC (d_X2_hasItems hD (by omega) (by omega) (by omega) (by omega) (by omega) (by omega)) gX7_item_X2_hasItems ⟨_, rfl⟩ rfl (by omega) (show (_ : Int) < 4 by omega) rfl ⟨rfl, rfl⟩ 2 (by decide +kernel) ⟨by decide, by decide⟩ rfl rfl (Nat.le_of_ble_eq_true rfl) dX7_item_44 rfl (kd_ie ?_)
        refine kw_ifne_b (tgt := 53) hC dX7_item_47 rfl (by decide) ⟨fun c47 => ?_, fun c47 => ?_⟩
        · refine kw_aload hC dX7_item_53 rfl 1 rfl ?_
          refine kg_6_0 hC w2 f150 dX7_item_55 rfl (by omega) (by omega) ?_
          refine kw_iload_n hC dX7_item_58 rfl 5 rfl ?_
          refine kw_iload_n hC dX7_item_59 rfl 4 rfl ?_
          refine kw_lload hC dX7_item_60 rfl 6 rfl ?_
          refine kw_callS hC (d_X7_lowestBits hD (by omega)) gX7_item_X7_lowestBits rfl ⟨rfl, rfl⟩ 2 (by decide +kernel) ⟨by decide, by decide⟩ rfl rfl (Nat.le_of_ble_eq_true rfl) dX7_item_62 rfl (kd_le ?_)
          refine ks_7 hC dX7_item_65 rfl (by omega) (by omega) (by omega) (by omega) ?_
          refine kw_hv hfS (by unfold tK; omega) (fun S5 hfS5 hv5 ho5 => ?_)
          have hv9 := hv5
          have ho9 := ho5
          have hi8 := hRS.lfs hfS5 (fun l l0 l1 => by rw [ho9 6 l 1 (by omega), ho9 6 l 2 (by omega), ho9 6 l 3 (by omega)]; exact hRS.lf l l0 l1) (fun l j l0 l1 j0 j1 => by rcases Decidable.em (l = a ∧ j = c) with e | e; exact (by rw [e.1, e.2, hv9]; exact vItem_r hd); exact (by rw [ho9 7 l j (by omega)]; exact hRS.it l j l0 l1 j0 j1))
          refine kw_iconst hC dX7_item_66 rfl ?_
          exact hR9.1 rfl _ _ _ _ dX7_item_67 ⟨_, rfl, hi8, hfS5, fun y hy => by obtain ⟨u1, u2, u3⟩ := hy a (by omega) (by omega); split at u1 <;> split at hFN <;> (try split at hFN) <;> (unfold aItem rItem; (repeat' split) <;> first | omega | exact ⟨fun l l0 l1 => by obtain ⟨u4, u5, u6⟩ := hy l l0 l1; exact ⟨by rw [ho9 6 l 1 (by omega), ho9 6 l 2 (by omega)]; exact u4, by rw [ho9 6 l 3 (by omega)]; exact u5, fun j j0 j1 => by show _ = (if l = a ∧ j = c then vItem b d else _); rcases Decidable.em (l = a ∧ j = c) with e | e; exact (by rw [if_pos e, e.1, e.2]; exact hv9); exact (by rw [if_neg e, ho9 7 l j (by omega)]; exact u6 j j0 j1)⟩, by omega⟩)⟩
        · refine kw_bipush hC dX7_item_50 rfl (by decide) ?_
          exact hR9.1 rfl _ _ _ _ dX7_item_52 ⟨_, rfl, hRS, Fr.rfl _ S, fun y hy => by obtain ⟨u1, u2, u3⟩ := hy a (by omega) (by omega); split at u1 <;> split at hFN <;> (try split at hFN) <;> (unfold aItem rItem; (repeat' split) <;> first | omega | exact ⟨hy, by omega⟩ | exact ⟨hy, rfl⟩)⟩
      · refine kw_iload hC dX7_item_37 rfl 0 rfl ?_
        exact hR9.1 rfl _ _ _ _ dX7_item_39 ⟨_, rfl, hRS, Fr.rfl _ S, fun y hy => by obtain ⟨u1, u2, u3⟩ := hy a (by omega) (by omega); split at u1 <;> split at hFN <;> (try split at hFN) <;> (unfold aItem rItem; (repeat' split) <;> first | omega | exact ⟨hy, by omega⟩ | exact ⟨hy, rfl⟩)⟩
    · refine kw_iconst hC dX7_item_14 rfl ?_
      exact hR9.1 rfl _ _ _ _ dX7_item_15 ⟨_, rfl, hRS, Fr.rfl _ S, fun y hy => by skip; unfold aItem rItem; (repeat' split) <;> first | omega | exact ⟨hy, by omega⟩ | exact ⟨hy, rfl⟩⟩

set_option maxHeartbeats 4000000 in
set_option maxRecDepth 100000 in
theorem d_X7_copy {g : wG} (hD : wD g) {S : wSt} {a b c d e : Int} (ha : -2147483648 ≤ a ∧ a ≤ 2147483647) (hb : -2147483648 ≤ b ∧ b ≤ 2147483647) (hc : -2147483648 ≤ c ∧ c ≤ 2147483647) (hd : -2147483648 ≤ d ∧ d ≤ 2147483647) (he : -2147483648 ≤ e ∧ e ≤ 2147483647) (hRS : CI S) (l : Launch) : Kt l yX7_copy wsX7_copy ({ frames := 1, cells := 0, slots := 0, locals := 26 } : Room) g S [vr g 0 0, vi a, vi b, vi c, vi d, vi e] (pI (fun r S' => CI S' ∧ Fr tK S S' ∧ ∀ y, LC S y → LC S' (aCopy a b c d e y) ∧ r = rCopy a b c d e y)) := by
  refine Kt.of (cc := cX7_copy) (nL := 8) (ret := (some .int)) (own := RX7) rfl hD (by decide) rfl (Nat.le_of_ble_eq_true rfl) ⟨rfl, rfl⟩ ?_
  intro E hC hR9
  have f31 : Cond.fieldLink RX7 31 "MirrorBench" "leaves" "[LMirrorBench$Leaf;" ∈ wsX7_copy := by decide +kernel
  have f150 : Cond.fieldLink RX7 150 "MirrorBench$Leaf" "items" "[J" ∈ wsX7_copy := by decide +kernel
  have f264 : Cond.fieldLink RX7 264 "MirrorBench$Leaf" "held" "Z" ∈ wsX7_copy := by decide +kernel
  have f273 : Cond.fieldLink RX7 273 "MirrorBench$Leaf" "lane" "I" ∈ wsX7_copy := by decide +kernel
  have w2 : ∀ w ∈ wsX20, w ∈ wsX7_copy := by decide +kernel
  have w7 : ∀ w ∈ wsX70, w ∈ wsX7_copy := by decide +kernel
  show Wk E g 8 S 0 [(0, vr g 0 0), (1, vi a), (2, vi b), (3, vi c), (4, vi d), (5, vi e)] []
  have hfS : Fr tK S S := Fr.rfl _ S
  have hn := hRS.n
  refine kw_iload_n hC dX7_copy_0 rfl 1 rfl ?_
  refine kw_callS hC (d_X7_isLeaf hD (by omega)) gX7_copy_X7_isLeaf rfl ⟨rfl, rfl⟩ 1 (by decide +kernel) ⟨by decide, by decide⟩ rfl rfl (Nat.le_of_ble_eq_true rfl) dX7_copy_1 rfl (kd_ie ?_)
  refine kw_ifeq_b (tgt := 14) hC dX7_copy_4 rfl (by decide) ⟨fun c4 => ?_, fun c4 => ?_⟩
  · refine kw_iconst hC dX7_copy_14 rfl ?_
    exact hR9.1 rfl _ _ _ _ dX7_copy_15 ⟨_, rfl, hRS, Fr.rfl _ S, fun y hy => by skip; unfold aCopy rCopy; (repeat' split) <;> first | omega | exact ⟨hy, by omega⟩ | exact ⟨hy, rfl⟩⟩
  · refine kw_iload_n hC dX7_copy_7 rfl 3 rfl ?_
    refine kw_callS hC (d_X7_isLeaf hD (by omega)) gX7_copy_X7_isLeaf rfl ⟨rfl, rfl⟩ 1 (by decide +kernel) ⟨by decide, by decide⟩ rfl rfl (Nat.le_of_ble_eq_true rfl) dX7_copy_8 rfl (kd_ie ?_)
    refine kw_ifne_b (tgt := 16) hC dX7_copy_11 rfl (by decide) ⟨fun c11 => ?_, fun c11 => ?_⟩
    · have hla := hRS.lf a (by omega) (by omega)
      have hlc := hRS.lf c (by omega) (by omega)
      refine kw_aload_n hC dX7_copy_16 rfl 0 rfl ?_
      refine kg_0_3 hC w7 f31 dX7_copy_17 rfl (by decide) (by decide) ?_
      refine kw_iload_n hC dX7_copy_20 rfl 1 rfl ?_
      refine ka_21 hC dX7_copy_21 rfl (by decide) (by decide) (by omega) (by omega) ?_
      refine kw_astore (lv' := [(6, _), (0, _), (1, _), (2, _), (3, _), (4, _), (5, _)]) hC dX7_copy_22 rfl (by decide) rfl ?_
      refine kw_aload_n hC dX7_copy_24 rfl 1 rfl ?_
      refine kg_0_3 hC w7 f31 dX7_copy_25 rfl (by decide) (by decide) ?_
      refine kw_iload_n hC dX7_copy_28 rfl 4 rfl ?_
      refine ka_21 hC dX7_copy_29 rfl (by decide) (by decide) (by omega) (by omega) ?_
      refine kw_astore (lv' := [(7, _), (6, _), (0, _), (1, _), (2, _), (3, _), (4, _), (5, _)]) hC dX7_copy_30 rfl (by decide) rfl ?_
      refine kw_aload hC dX7_copy_32 rfl 1 rfl ?_
      refine kg_6_1 hC w2 f264 dX7_copy_34 rfl (by omega) (by omega) ?_
      refine kw_if_eq (tgt := 48) hC dX7_copy_37 rfl (by decide) (by omega) ⟨fun c37 => ?_, fun c37 => ?_⟩
      · refine kw_bipush hC dX7_copy_48 rfl (by decide) ?_
        exact hR9.1 rfl _ _ _ _ dX7_copy_50 ⟨_, rfl, hRS, Fr.rfl _ S, fun y hy => by obtain ⟨u1, u2, u3⟩ := hy a (by omega) (by omega); obtain ⟨v1, v2, v3⟩ := hy c (by omega) (by omega); split at u1 <;> split at v1 <;> (unfold aCopy rCopy; (repeat' split) <;> first | omega | exact ⟨hy, by omega⟩ | exact ⟨hy, rfl⟩)⟩
      · refine kw_aload hC dX7_copy_40 rfl 0 rfl ?_
        refine kg_6_1 hC w2 f264 dX7_copy_42 rfl (by omega) (by omega) ?_
        refine kw_if_ne (tgt := 51) hC dX7_copy_45 rfl (by decide) (by omega) ⟨fun c45 => ?_, fun c45 => ?_⟩
        · refine kw_aload hC dX7_copy_51 rfl 1 rfl ?_
          refine kg_6_2 hC w2 f273 dX7_copy_53 rfl (by omega) (by omega) ?_
          refine kw_aload hC dX7_copy_56 rfl 0 rfl ?_
          refine kg_6_2 hC w2 f273 dX7_copy_58 rfl (by omega) (by omega) ?_
          refine kw_icmp_eq (tgt := 67) hC dX7_copy_61 rfl (by decide) (by omega) (by omega) ⟨fun c61 => ?_, fun c61 => ?_⟩
          · refine kw_aload hC dX7_copy_67 rfl 1 rfl ?_
            refine kw_iload_n hC dX7_copy_69 rfl 4 rfl ?_
            refine kw_iload hC dX7_copy_70 rfl 7 rfl ?_
            refine kw_callV hC (d_X2_hasItems hD (by omega) (by omega) (by omega) (by omega) (by omega) (by omega)) gX7_copy_X2_hasItems ⟨_, rfl⟩ rfl (by omega) (show (_ : Int) < 4 by omega) rfl ⟨rfl, rfl⟩ 2 (by decide +kernel) ⟨by decide, by decide⟩ rfl rfl (Nat.le_of_ble_eq_true rfl) dX7_copy_72 rfl (kd_ie ?_)
            refine kw_ifeq_b (tgt := 90) hC dX7_copy_75 rfl (by decide) ⟨fun c75 => ?_, fun c75 => ?_⟩
            · refine kw_bipush hC dX7_copy_90 rfl (by decide) ?_
              exact hR9.1 rfl _ _ _ _ dX7_copy_92 ⟨_, rfl, hRS, Fr.rfl _ S, fun y hy => by obtain ⟨u1, u2, u3⟩ := hy a (by omega) (by omega); obtain ⟨v1, v2, v3⟩ := hy c (by omega) (by omega); split at u1 <;> split at v1 <;> (unfold aCopy rCopy; (repeat' split) <;> first | omega | exact ⟨hy, by omega⟩ | exact ⟨hy, rfl⟩)⟩
            · refine kw_aload hC dX7_copy_78 rfl 0 rfl ?_
              refine kw_iload hC dX7_copy_80 rfl 6 rfl ?_
              refine kw_iload hC dX7_copy_82 rfl 7 rfl ?_
              refine kw_callV hC (d_X2_hasItems hD (by omega) (by omega) (by omega) (by omega) (by omega) (by omega)) gX7_copy_X2_hasItems ⟨_, rfl⟩ rfl (by omega) (show (_ : Int) < 4 by omega) rfl ⟨rfl, rfl⟩ 2 (by decide +kernel) ⟨by decide, by decide⟩ rfl rfl (Nat.le_of_ble_eq_true rfl) dX7_copy_84 rfl (kd_ie ?_)
              refine kw_ifne_b (tgt := 93) hC dX7_copy_87 rfl (by decide) ⟨fun c87 => ?_, fun c87 => ?_⟩
              · refine kw_aload hC dX7_copy_93 rfl 1 rfl ?_
                refine kg_6_0 hC w2 f150 dX7_copy_95 rfl (by omega) (by omega) ?_
                refine kw_iload_n hC dX7_copy_98 rfl 4 rfl ?_
                refine kw_aload hC dX7_copy_99 rfl 0 rfl ?_
                refine kg_6_0 hC w2 f150 dX7_copy_101 rfl (by omega) (by omega) ?_
                refine kw_iload hC dX7_copy_104 rfl 6 rfl ?_
                refine kw_iload hC dX7_copy_106 rfl 7 rfl ?_
                refine kw_copyl (k0 := 7) (k1 := 7) (n0 := 40) (n1 := 40) hC (by decide +kernel) (by decide +kernel) (by decide +kernel) (by decide +kernel) (by decide) (Nat.le_of_ble_eq_true rfl) (fun _ => rfl) (fun _ => rfl) (by decide) (by decide) (by omega) (show (_ : Int) < 4 by omega) (by omega) (show (_ : Int) < 4 by omega) (by omega) (by omega) (by omega) (by omega) (by omega) dX7_copy_108 rfl ?_
                refine kw_hc hfS (fun j => by unfold tK; omega) (fun S8 hfS8 hvC hoC => ?_)
                have hi8 := hRS.lfs hfS8 (fun l l0 l1 => by rw [hoC 6 l 1 (by omega), hoC 6 l 2 (by omega), hoC 6 l 3 (by omega)]; exact hRS.lf l l0 l1) (fun l j l0 l1 j0 j1 => by rcases Decidable.em (l = c ∧ d ≤ j ∧ j < d + e) with g9 | g9; exact (by rw [g9.1, hvC j g9.2.1 g9.2.2]; exact hRS.it a _ (by omega) (by omega) (by omega) (by omega)); exact (by rw [hoC 7 l j (by omega)]; exact hRS.it l j l0 l1 j0 j1))
                refine kw_iload hC dX7_copy_111 rfl 7 rfl ?_
                exact hR9.1 rfl _ _ _ _ dX7_copy_113 ⟨_, rfl, hi8, hfS8, fun y hy => by obtain ⟨u1, u2, u3⟩ := hy a (by omega) (by omega); obtain ⟨v1, v2, v3⟩ := hy c (by omega) (by omega); split at u1 <;> split at v1 <;> (unfold aCopy rCopy; (repeat' split) <;> first | omega | exact ⟨fun l l0 l1 => by obtain ⟨u4, u5, u6⟩ := hy l l0 l1; exact ⟨by rw [hoC 6 l 1 (by omega), hoC 6 l 2 (by omega)]; exact u4, by rw [hoC 6 l 3 (by omega)]; exact u5, fun j j0 j1 => by show _ = (if l = c ∧ d ≤ j ∧ j < d + e then y.2.2 a (b + (j - d)) else _); rcases Decidable.em (l = c ∧ d ≤ j ∧ j < d + e) with g9 | g9; exact (by rw [if_pos g9, g9.1, hvC j g9.2.1 g9.2.2]; exact u3 (b + (j - d)) (by omega) (by omega)); exact (by rw [if_neg g9, hoC 7 l j (by omega)]; exact u6 j j0 j1)⟩, by omega⟩)⟩
              · refine kw_bipush hC dX7_copy_90 rfl (by decide) ?_
                exact hR9.1 rfl _ _ _ _ dX7_copy_92 ⟨_, rfl, hRS, Fr.rfl _ S, fun y hy => by obtain ⟨u1, u2, u3⟩ := hy a (by omega) (by omega); obtain ⟨v1, v2, v3⟩ := hy c (by omega) (by omega); split at u1 <;> split at v1 <;> (unfold aCopy rCopy; (repeat' split) <;> first | omega | exact ⟨hy, by omega⟩ | exact ⟨hy, rfl⟩)⟩
          · refine kw_bipush hC dX7_copy_64 rfl (by decide) ?_
            exact hR9.1 rfl _ _ _ _ dX7_copy_66 ⟨_, rfl, hRS, Fr.rfl _ S, fun y hy => by obtain ⟨u1, u2, u3⟩ := hy a (by omega) (by omega); obtain ⟨v1, v2, v3⟩ := hy c (by omega) (by omega); split at u1 <;> split at v1 <;> (unfold aCopy rCopy; (repeat' split) <;> first | omega | exact ⟨hy, by omega⟩ | exact ⟨hy, rfl⟩)⟩
        · refine kw_bipush hC dX7_copy_48 rfl (by decide) ?_
          exact hR9.1 rfl _ _ _ _ dX7_copy_50 ⟨_, rfl, hRS, Fr.rfl _ S, fun y hy => by obtain ⟨u1, u2, u3⟩ := hy a (by omega) (by omega); obtain ⟨v1, v2, v3⟩ := hy c (by omega) (by omega); split at u1 <;> split at v1 <;> (unfold aCopy rCopy; (repeat' split) <;> first | omega | exact ⟨hy, by omega⟩ | exact ⟨hy, rfl⟩)⟩
    · refine kw_iconst hC dX7_copy_14 rfl ?_
      exact hR9.1 rfl _ _ _ _ dX7_copy_15 ⟨_, rfl, hRS, Fr.rfl _ S, fun y hy => by skip; unfold aCopy rCopy; (repeat' split) <;> first | omega | exact ⟨hy, by omega⟩ | exact ⟨hy, rfl⟩⟩

set_option maxHeartbeats 4000000 in
set_option maxRecDepth 100000 in
theorem d_X7_word {g : wG} (hD : wD g) {S : wSt} {a b c d e : Int} (ha : -2147483648 ≤ a ∧ a ≤ 2147483647) (hb : -2147483648 ≤ b ∧ b ≤ 2147483647) (hc : -2147483648 ≤ c ∧ c ≤ 2147483647) (hd : -2147483648 ≤ d ∧ d ≤ 2147483647) (he : -2147483648 ≤ e ∧ e ≤ 2147483647) (hRS : CI S) (l : Launch) : Kt l yX7_word wsX7_word ({ frames := 3, cells := 0, slots := 0, locals := 69 } : Room) g S [vr g 0 0, vi a, vi b, vi c, vi d, vi e] (pI (fun r S' => CI S' ∧ Fr tX S S' ∧ ∀ x y, AC S x → LC S y → r = rWord a b c d e x.1.1 y)) := by
  refine Kt.of (cc := cX7_word) (nL := 11) (ret := (some .int)) (own := RX7) rfl hD (by decide) rfl (Nat.le_of_ble_eq_true rfl) ⟨rfl, rfl⟩ ?_
  intro E hC hR9
  have f12 : Cond.fieldLink RX7 12 "MirrorBench" "set" "LMirrorBench$Mirrors;" ∈ wsX7_word := by decide +kernel
  have f31 : Cond.fieldLink RX7 31 "MirrorBench" "leaves" "[LMirrorBench$Leaf;" ∈ wsX7_word := by decide +kernel
  have f59 : Cond.fieldLink RX7 59 "MirrorBench" "made" "LMirrorBench$Word;" ∈ wsX7_word := by decide +kernel
  have f83 : Cond.fieldLink RX7 83 "MirrorBench$Mirrors" "size" "I" ∈ wsX7_word := by decide +kernel
  have f131 : Cond.fieldLink RX7 131 "MirrorBench$Word" "length" "I" ∈ wsX7_word := by decide +kernel
  have f150 : Cond.fieldLink RX7 150 "MirrorBench$Leaf" "items" "[J" ∈ wsX7_word := by decide +kernel
  have w2 : ∀ w ∈ wsX20, w ∈ wsX7_word := by decide +kernel
  have w3 : ∀ w ∈ wsX30, w ∈ wsX7_word := by decide +kernel
  have w6 : ∀ w ∈ wsX60, w ∈ wsX7_word := by decide +kernel
  have w7 : ∀ w ∈ wsX70, w ∈ wsX7_word := by decide +kernel
  show Wk E g 11 S 0 [(0, vr g 0 0), (1, vi a), (2, vi b), (3, vi c), (4, vi d), (5, vi e)] []
  have hfS : Fr tC S S := Fr.rfl _ S
  have hRS := hRS.fr hfS
  have hnS := hRS.n
  have enS : S 3 16 2 = S 3 16 2 := hfS 3 16 2 (by unfold tC; omega)
  refine kw_iload_n hC dX7_word_0 rfl 1 rfl ?_
  refine kw_callS hC (d_X7_isSlot hD (by omega)) gX7_word_X7_isSlot rfl ⟨rfl, rfl⟩ 1 (by decide +kernel) ⟨by decide, by decide⟩ rfl rfl (Nat.le_of_ble_eq_true rfl) dX7_word_1 rfl (kd_ie ?_)
  refine kw_ifeq_b (tgt := 21) hC dX7_word_4 rfl (by decide) ⟨fun c4 => ?_, fun c4 => ?_⟩
  · refine kw_iconst hC dX7_word_21 rfl ?_
    exact hR9.1 rfl _ _ _ _ dX7_word_22 ⟨_, rfl, hRS, tC_tX hfS, (fun x y hx hy => by have e0 := hx.1.1; skip <;> (unfold rWord; (repeat' split) <;> first | omega | rfl))⟩
  · refine kw_iload_n hC dX7_word_7 rfl 2 rfl ?_
    refine kw_callS hC (d_X7_isLeaf hD (by omega)) gX7_word_X7_isLeaf rfl ⟨rfl, rfl⟩ 1 (by decide +kernel) ⟨by decide, by decide⟩ rfl rfl (Nat.le_of_ble_eq_true rfl) dX7_word_8 rfl (kd_ie ?_)
    refine kw_ifeq_b (tgt := 21) hC dX7_word_11 rfl (by decide) ⟨fun c11 => ?_, fun c11 => ?_⟩
    · refine kw_iconst hC dX7_word_21 rfl ?_
      exact hR9.1 rfl _ _ _ _ dX7_word_22 ⟨_, rfl, hRS, tC_tX hfS, (fun x y hx hy => by have e0 := hx.1.1; skip <;> (unfold rWord; (repeat' split) <;> first | omega | rfl))⟩
    · refine kw_iload_n hC dX7_word_14 rfl 3 rfl ?_
      refine kw_callS hC (d_X7_isLane hD (by omega)) gX7_word_X7_isLane rfl ⟨rfl, rfl⟩ 1 (by decide +kernel) ⟨by decide, by decide⟩ rfl rfl (Nat.le_of_ble_eq_true rfl) dX7_word_15 rfl (kd_ie ?_)
      refine kw_ifne_b (tgt := 23) hC dX7_word_18 rfl (by decide) ⟨fun c18 => ?_, fun c18 => ?_⟩
      · have hlb := hRS.lf b (by omega) (by omega)
        refine kw_aload_n hC dX7_word_23 rfl 0 rfl ?_
        refine kg_0_3 hC w7 f31 dX7_word_24 rfl (by decide) (by decide) ?_
        refine kw_iload_n hC dX7_word_27 rfl 2 rfl ?_
        refine ka_21 hC dX7_word_28 rfl (by decide) (by decide) (by omega) (by omega) ?_
        refine kw_astore (lv' := [(6, _), (0, _), (1, _), (2, _), (3, _), (4, _), (5, _)]) hC dX7_word_29 rfl (by decide) rfl ?_
        refine kw_aload hC dX7_word_31 rfl 0 rfl ?_
        refine kw_iload_n hC dX7_word_33 rfl 4 rfl ?_
        refine kw_callV hC (d_X2_find hD (by omega) (by omega) (by omega) (by omega) (by omega) (by omega)) gX7_word_X2_find ⟨_, rfl⟩ rfl (by omega) (show (_ : Int) < 4 by omega) rfl ⟨rfl, rfl⟩ 1 (by decide +kernel) ⟨by decide, by decide⟩ rfl rfl (Nat.le_of_ble_eq_true rfl) dX7_word_34 rfl (kd_ie ?_)
        obtain ⟨FN, hFN⟩ : ∃ z, z = (if S 6 b 1 = 0 then -11 else if S 6 b 2 = c then 0 else -12 : Int) := ⟨_, rfl⟩
        rw [← hFN]
        have hFr : FN = 0 ∨ FN = -11 ∨ FN = -12 := by rw [hFN]; (repeat' split) <;> omega
        refine kw_istore (lv' := [(7, _), (6, _), (0, _), (1, _), (2, _), (3, _), (4, _), (5, _)]) hC dX7_word_37 rfl (by decide) rfl ?_
        refine kw_iload hC dX7_word_39 rfl 0 rfl ?_
        refine kw_if_eq (tgt := 47) hC dX7_word_41 rfl (by decide) (by omega) ⟨fun c41 => ?_, fun c41 => ?_⟩
        · refine kw_iload hC dX7_word_47 rfl 7 rfl ?_
          refine kw_if_ge (tgt := 55) hC dX7_word_49 rfl (by decide) (by omega) ⟨fun c49 => ?_, fun c49 => ?_⟩
          · refine kw_aload hC dX7_word_55 rfl 1 rfl ?_
            refine kw_iload hC dX7_word_57 rfl 6 rfl ?_
            refine kw_iload hC dX7_word_59 rfl 7 rfl ?_
            refine kw_callV hC (d_X2_hasItems hD (by omega) (by omega) (by omega) (by omega) (by omega) (by omega)) gX7_word_X2_hasItems ⟨_, rfl⟩ rfl (by omega) (show (_ : Int) < 4 by omega) rfl ⟨rfl, rfl⟩ 2 (by decide +kernel) ⟨by decide, by decide⟩ rfl rfl (Nat.le_of_ble_eq_true rfl) dX7_word_61 rfl (kd_ie ?_)
            refine kw_ifne_b (tgt := 70) hC dX7_word_64 rfl (by decide) ⟨fun c64 => ?_, fun c64 => ?_⟩
            · refine kw_aload_n hC dX7_word_70 rfl 2 rfl ?_
              refine kg_0_7 hC w7 f59 dX7_word_71 rfl (by decide) (by decide) ?_
              refine kw_iconst hC dX7_word_74 rfl ?_
              refine kp_1_1 hC w6 f131 dX7_word_75 rfl (by omega) (by omega) ?_
              refine kw_hv hfS (by unfold tC; omega) (fun S7 hfS7 hv7 ho7 => ?_)
              have hRS7 := hRS.fr hfS7
              have hnS7 := hRS7.n
              have enS7 : S7 3 16 2 = S 3 16 2 := hfS7 3 16 2 (by unfold tC; omega)
              have l8 := hv7
              refine kw_iconst hC dX7_word_78 rfl ?_
              refine kw_istore (lv' := [(8, _), (7, _), (6, _), (0, _), (1, _), (2, _), (3, _), (4, _), (5, _)]) hC dX7_word_79 rfl (by decide) rfl ?_
              have hL81 : ∀ (n81 : Nat) (k : Int) (W81 : wSt), Fr tC S W81 → (0 ≤ k) → (k ≤ e) → (W81 1 8 1 = k) → (WV (W81 2 8) (W81 1 8 1) (W81 3 16 2)) → (∀ j, 0 ≤ j → j < k → 0 ≤ S 7 b (d + j) ∧ S 7 b (d + j) < S 3 16 2) → e - k < (n81 : Int) → Wk E g 11 W81 81 [(0, vr g 0 0), (1, vi a), (2, vi b), (3, vi c), (4, vi d), (5, vi e), (6, vr g 6 b), (7, vi FN), (8, vi k)] [] := by
                intro n81
                induction n81 with
                | zero => intro k W81 hfW81 k0 k1 l8 hwv hall hm81; exact absurd hm81 (by omega)
                | succ n81 ih81 =>
                  intro k W81 hfW81 k0 k1 l8 hwv hall hm81
                  have hRW81 := hRS.fr hfW81
                  have hnW81 := hRW81.n
                  have enW81 : W81 3 16 2 = S 3 16 2 := hfW81 3 16 2 (by unfold tC; omega)
                  refine kw_iload hC dX7_word_81 rfl 8 rfl ?_
                  refine kw_iload hC dX7_word_83 rfl 5 rfl ?_
                  refine kw_icmp_ge (tgt := 140) hC dX7_word_85 rfl (by decide) (by omega) (by omega) ⟨fun c85 => ?_, fun c85 => ?_⟩
                  · refine kw_aload_n hC dX7_word_140 rfl 0 rfl ?_
                    refine kw_aload_n hC dX7_word_141 rfl 0 rfl ?_
                    refine kg_0_7 hC w7 f59 dX7_word_142 rfl (by decide) (by decide) ?_
                    refine kw_iload_n hC dX7_word_145 rfl 1 rfl ?_
                    refine kw_callV hC (d_X7_store hD (by omega) (by omega) (by omega) (by omega) hRW81 hwv (by omega) (by omega)) gX7_word_X7_store ⟨_, rfl⟩ rfl (by decide) (by decide) rfl ⟨rfl, rfl⟩ 2 (by decide +kernel) ⟨by decide, by decide⟩ rfl rfl (Nat.le_of_ble_eq_true rfl) dX7_word_146 rfl (kd_i (fun r9 Sz hp9 => ?_))
                    exact hR9.1 rfl _ _ _ _ dX7_word_149 ⟨_, rfl, hp9.2.1, (tC_tX hfW81).trans (fWd_tX hp9.2.2.1), (fun x y hx hy => by have e0 := hx.1.1; obtain ⟨u1, u2, u3⟩ := hy b (by omega) (by omega); split at u1 <;> split at hFN <;> (try split at hFN) <;> (have hbz : bz (∀ j, 0 ≤ j → j < e → 0 ≤ y.2.2 b (d + j) ∧ y.2.2 b (d + j) < x.1.1) = 1 := bz_t (fun j j0 j1 => by have q1 := hall j j0 (by omega); have q2 := u3 (d + j) (by omega) (by omega); omega)) <;> (unfold rWord; (repeat' split) <;> first | omega | (rw [hbz]; have := hp9.1; omega)))⟩
                  · refine kw_aload hC dX7_word_88 rfl 6 rfl ?_
                    refine kg_6_0 hC w2 f150 dX7_word_90 rfl (by omega) (by omega) ?_
                    refine kw_iload hC dX7_word_93 rfl 4 rfl ?_
                    refine kw_iload hC dX7_word_95 rfl 8 rfl ?_
                    refine kw_iadd hC dX7_word_97 rfl ?_
                    refine ka_7 hC dX7_word_98 rfl (by omega) (by omega) (by omega) (by omega) ?_
                    refine kw_chl (z' := S 7 b (d + k)) (hfW81 7 b _ (by unfold tC; omega)) ?_
                    have hit := hRS.it b (d + k) (by omega) (by omega) (by omega) (by omega)
                    refine kw_lstore (lv' := [(9, _), (0, _), (1, _), (2, _), (3, _), (4, _), (5, _), (6, _), (7, _), (8, _)]) hC dX7_word_99 rfl (by decide) rfl ?_
                    refine kw_lload hC dX7_word_101 rfl 0 rfl ?_
                    refine kw_lconst (z := 0) hC dX7_word_103 rfl rfl ?_
                    refine kw_lcmp hC dX7_word_104 rfl (by omega) (by omega) ?_
                    refine kw_if_lt (tgt := 122) hC dX7_word_105 rfl (by decide) (cz_r _ _) ⟨fun c105 => ?_, fun c105 => ?_⟩
                    · replace c105 := (cz_lt _ _).mp c105
                      refine kw_iconst hC dX7_word_122 rfl ?_
                      exact hR9.1 rfl _ _ _ _ dX7_word_123 ⟨_, rfl, hRW81, tC_tX hfW81, (fun x y hx hy => by have e0 := hx.1.1; obtain ⟨u1, u2, u3⟩ := hy b (by omega) (by omega); split at u1 <;> split at hFN <;> (try split at hFN) <;> (have hbz : bz (∀ j, 0 ≤ j → j < e → 0 ≤ y.2.2 b (d + j) ∧ y.2.2 b (d + j) < x.1.1) = 0 := bz_f (fun q => by have q1 := q k (by omega) (by omega); have q2 := u3 (d + k) (by omega) (by omega); omega)) <;> (unfold rWord; (repeat' split) <;> first | omega | (rw [hbz]; omega)))⟩
                    · replace c105 := (not_congr (cz_lt _ _)).mp c105
                      refine kw_lload hC dX7_word_108 rfl 0 rfl ?_
                      refine kw_aload_n hC dX7_word_110 rfl 1 rfl ?_
                      refine kg_0_0 hC w7 f12 dX7_word_111 rfl (by decide) (by decide) ?_
                      refine kg_3_2 hC w3 f83 dX7_word_114 rfl (by omega) (by omega) ?_
                      refine kw_i2l hC dX7_word_117 rfl (by omega) ?_
                      refine kw_lcmp hC dX7_word_118 rfl (by omega) (by omega) ?_
                      refine kw_if_lt (tgt := 124) hC dX7_word_119 rfl (by decide) (cz_r _ _) ⟨fun c119 => ?_, fun c119 => ?_⟩
                      · replace c119 := (cz_lt _ _).mp c119
                        refine kw_aload_n hC dX7_word_124 rfl 1 rfl ?_
                        refine kg_0_7 hC w7 f59 dX7_word_125 rfl (by decide) (by decide) ?_
                        refine kw_lload hC dX7_word_128 rfl 0 rfl ?_
                        refine kw_l2i hC dX7_word_130 rfl ?_
                        refine kw_callV hC (d_X6_add hD (by omega) (by omega) (by omega) (by omega)) gX7_word_X6_add ⟨_, rfl⟩ rfl (by omega) (show (_ : Int) < 12 by omega) rfl ⟨rfl, rfl⟩ 1 (by decide +kernel) ⟨by decide, by decide⟩ rfl rfl (Nat.le_of_ble_eq_true rfl) dX7_word_131 rfl (kd_v (fun S11 hp11 => ?_))
                        obtain ⟨hg11, hp11⟩ := hp11
                        have hfS11 : Fr tC S S11 := hfW81.trans (hg11.mono (fun k i j h => by unfold fWd at h; unfold tC; omega))
                        have hRS11 := hRS.fr hfS11
                        have hnS11 := hRS11.n
                        have enS11 : S11 3 16 2 = S 3 16 2 := hfS11 3 16 2 (by unfold tC; omega)
                        obtain ⟨y1, y2, y3⟩ := hp11
                        have hall9 : ∀ j, 0 ≤ j → j < k + 1 → 0 ≤ S 7 b (d + j) ∧ S 7 b (d + j) < S 3 16 2 := fun j j0 j1 => by rcases Decidable.em (j = k) with e9 | e9; exact (by rw [e9]; omega); exact hall j j0 (by omega)
                        replace hwv : WV (S11 2 8) (S11 1 8 1) (S11 3 16 2) := (y1 ▸ hwv.add (fun j hj => y3 j hj) (by rw [y2]; omega)).eq (fun _ _ _ => rfl) rfl (by omega)
                        refine kw_iinc (lv' := [(8, _), (9, _), (0, _), (1, _), (2, _), (3, _), (4, _), (5, _), (6, _), (7, _)]) hC dX7_word_134 rfl 9 rfl (by decide) rfl ?_
                        refine kw_goto (tgt := 81) hC dX7_word_137 rfl (by decide) ?_
                        refine kw_lv [2, 3, 4, 5, 6, 7, 8, 9, 0] rfl ?_
                        exact ih81 (k + 1) S11 hfS11 (by omega) (by omega) (by omega) hwv hall9 (by omega)
                      · replace c119 := (not_congr (cz_lt _ _)).mp c119
                        refine kw_iconst hC dX7_word_122 rfl ?_
                        exact hR9.1 rfl _ _ _ _ dX7_word_123 ⟨_, rfl, hRW81, tC_tX hfW81, (fun x y hx hy => by have e0 := hx.1.1; obtain ⟨u1, u2, u3⟩ := hy b (by omega) (by omega); split at u1 <;> split at hFN <;> (try split at hFN) <;> (have hbz : bz (∀ j, 0 ≤ j → j < e → 0 ≤ y.2.2 b (d + j) ∧ y.2.2 b (d + j) < x.1.1) = 0 := bz_f (fun q => by have q1 := q k (by omega) (by omega); have q2 := u3 (d + k) (by omega) (by omega); omega)) <;> (unfold rWord; (repeat' split) <;> first | omega | (rw [hbz]; omega)))⟩
              refine kw_lv [3, 4, 5, 6, 7, 8, 2, 1, 0] rfl ?_
              exact hL81 41 0 S7 hfS7 (by omega) (by omega) l8 (fun j _ _ => by omega) (fun j _ _ => by omega) (by omega)
            · refine kw_bipush hC dX7_word_67 rfl (by decide) ?_
              exact hR9.1 rfl _ _ _ _ dX7_word_69 ⟨_, rfl, hRS, tC_tX hfS, (fun x y hx hy => by have e0 := hx.1.1; obtain ⟨u1, u2, u3⟩ := hy b (by omega) (by omega); split at u1 <;> split at hFN <;> (try split at hFN) <;> (unfold rWord; (repeat' split) <;> first | omega | rfl))⟩
          · refine kw_bipush hC dX7_word_52 rfl (by decide) ?_
            exact hR9.1 rfl _ _ _ _ dX7_word_54 ⟨_, rfl, hRS, tC_tX hfS, (fun x y hx hy => by have e0 := hx.1.1; obtain ⟨u1, u2, u3⟩ := hy b (by omega) (by omega); split at u1 <;> split at hFN <;> (try split at hFN) <;> (unfold rWord; (repeat' split) <;> first | omega | rfl))⟩
        · refine kw_iload hC dX7_word_44 rfl 0 rfl ?_
          exact hR9.1 rfl _ _ _ _ dX7_word_46 ⟨_, rfl, hRS, tC_tX hfS, (fun x y hx hy => by have e0 := hx.1.1; obtain ⟨u1, u2, u3⟩ := hy b (by omega) (by omega); split at u1 <;> split at hFN <;> (try split at hFN) <;> (unfold rWord; (repeat' split) <;> first | omega | rfl))⟩
      · refine kw_iconst hC dX7_word_21 rfl ?_
        exact hR9.1 rfl _ _ _ _ dX7_word_22 ⟨_, rfl, hRS, tC_tX hfS, (fun x y hx hy => by have e0 := hx.1.1; skip <;> (unfold rWord; (repeat' split) <;> first | omega | rfl))⟩
