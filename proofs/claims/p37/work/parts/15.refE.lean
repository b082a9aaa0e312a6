def fE (k : Nat) (i j : Int) : Prop := k = 46

def fK (k : Nat) (i j : Int) : Prop := k = 43 ∨ k = 46 ∨ (k = 30 ∧ j = 4)

def fM (k : Nat) (i j : Int) : Prop := k = 41 ∨ k = 42 ∨ k = 43 ∨ k = 46 ∨ (k = 30 ∧ (j = 0 ∨ j = 4))

set_option maxHeartbeats 4000000 in
set_option maxRecDepth 100000 in
theorem d_X8_emptyWords {g : wG} (hD : wD g) {S : wSt}  (l : Launch) : Kt l yX8_emptyWords wsX8_emptyWords ({ frames := 0, cells := 0, slots := 0, locals := 0 } : Room) g S [vr g 30 0] (pV (fun S' => Fr fE S S' ∧ ∀ s, 0 ≤ s → s < 8 → S' 46 0 s = 0)) := by
  refine Kt.of (cc := cX8_emptyWords) (nL := 2) (ret := none) (own := RX8) rfl hD (by decide) rfl (Nat.le_of_ble_eq_true rfl) ⟨rfl, rfl⟩ ?_
  intro E hC hR9
  have f43 : Cond.fieldLink RX8 43 "MirrorBenchModel" "lengths" "[I" ∈ wsX8_emptyWords := by decide +kernel
  have w8 : ∀ w ∈ wsX80, w ∈ wsX8_emptyWords := by decide +kernel
  show Wk E g 2 S 0 [(0, vr g 30 0)] []
  have hfS : Fr fE S S := Fr.rfl _ S
  refine kw_iconst hC dX8_emptyWords_0 rfl ?_
  refine kw_istore_n (lv' := [(1, _), (0, _)]) hC dX8_emptyWords_1 rfl (by decide) rfl ?_
  have hL2 : ∀ (n2 : Nat) (x : Int) (W2 : wSt), Fr fE S W2 → (0 ≤ x) → (x ≤ 8) → (∀ s, 0 ≤ s → s < x → W2 46 0 s = 0) → 8 - x < (n2 : Int) → Wk E g 2 W2 2 [(0, vr g 30 0), (1, vi x)] [] := by
    intro n2
    induction n2 with
    | zero => intro x W2 hfW2 x0 x1 h hm2; exact absurd hm2 (by omega)
    | succ n2 ih2 =>
      intro x W2 hfW2 x0 x1 h hm2
      refine kw_iload_n hC dX8_emptyWords_2 rfl 1 rfl ?_
      refine kw_bipush hC dX8_emptyWords_3 rfl (by decide) ?_
      refine kw_icmp_ge (tgt := 21) hC dX8_emptyWords_5 rfl (by decide) (by omega) (by omega) ⟨fun c5 => ?_, fun c5 => ?_⟩
      · exact hR9.2.2.2 rfl _ _ _ dX8_emptyWords_21 ⟨rfl, hfW2, fun s s0 s1 => h s s0 (by omega)⟩
      · refine kw_aload_n hC dX8_emptyWords_8 rfl 0 rfl ?_
        refine kg_30_6 hC w8 f43 dX8_emptyWords_9 rfl (by decide) (by decide) ?_
        refine kw_iload_n hC dX8_emptyWords_12 rfl 1 rfl ?_
        refine kw_iconst hC dX8_emptyWords_13 rfl ?_
        refine ks_46 hC dX8_emptyWords_14 rfl (by decide) (by decide) (by omega) (by omega) ?_
        refine kw_hv hfW2 (by unfold fE; omega) (fun S2 hfS2 hv2 ho2 => ?_)
        refine kw_iinc (lv' := [(1, _), (0, _)]) hC dX8_emptyWords_15 rfl 1 rfl (by decide) rfl ?_
        refine kw_goto (tgt := 2) hC dX8_emptyWords_18 rfl (by decide) ?_
        refine kw_lv [1, 0] rfl ?_
        exact ih2 (x + 1) S2 hfS2 (by omega) (by omega) (ext_p (fun _ z => z = 0) h (fun j hj => ho2 46 0 j (by omega)) hv2) (by omega)
  refine kw_lv [1, 0] rfl ?_
  exact hL2 9 0 S hfS (by omega) (by omega) (fun j _ _ => by omega) (by omega)

set_option maxHeartbeats 4000000 in
set_option maxRecDepth 100000 in
theorem d_X8_keep {g : wG} (hD : wD g) {S : wSt} (c0 : 0 ≤ S 30 0 4) (c1 : S 30 0 4 ≤ 16) (n0 : 0 ≤ S 30 0 0) (n1 : S 30 0 0 ≤ 6) (l : Launch) : Kt l yX8_keep wsX8_keep ({ frames := 1, cells := 0, slots := 0, locals := 21 } : Room) g S [vr g 30 0] (pV (fun S' => Fr fK S S' ∧ KpR S S')) := by
  refine Kt.of (cc := cX8_keep) (nL := 3) (ret := none) (own := RX8) rfl hD (by decide) rfl (Nat.le_of_ble_eq_true rfl) ⟨rfl, rfl⟩ ?_
  intro E hC hR9
  have f1 : Cond.fieldLink RX8 1 "MirrorBenchModel" "changes" "I" ∈ wsX8_keep := by decide +kernel
  have f7 : Cond.fieldLink RX8 7 "MirrorBenchModel" "kept" "[I" ∈ wsX8_keep := by decide +kernel
  have f11 : Cond.fieldLink RX8 11 "MirrorBenchModel" "mirrors" "I" ∈ wsX8_keep := by decide +kernel
  have f14 : Cond.fieldLink RX8 14 "MirrorBenchModel" "kinds" "[I" ∈ wsX8_keep := by decide +kernel
  have f17 : Cond.fieldLink RX8 17 "MirrorBenchModel" "meets" "[I" ∈ wsX8_keep := by decide +kernel
  have w8 : ∀ w ∈ wsX80, w ∈ wsX8_keep := by decide +kernel
  show Wk E g 3 S 0 [(0, vr g 30 0)] []
  have hfS : Fr fK S S := Fr.rfl _ S
  refine kw_aload_n hC dX8_keep_0 rfl 0 rfl ?_
  refine kg_30_4 hC w8 f1 dX8_keep_1 rfl (by decide) (by decide) ?_
  refine kw_bipush hC dX8_keep_4 rfl (by decide) ?_
  refine kw_icmp_ne (tgt := 49) hC dX8_keep_6 rfl (by decide) (by omega) (by omega) ⟨fun c6 => ?_, fun c6 => ?_⟩
  · obtain ⟨C, D, h4, hDD, hCD, hold⟩ : ∃ C D : Int, S 30 0 4 = C ∧ D = (if S 30 0 4 = 16 then 1 else 0) ∧ (C = S 30 0 4 - D ∧ 0 ≤ C ∧ C ≤ 15) ∧ ∀ j, 0 ≤ j → j < 43 * C → S 43 0 j = S 43 0 (j + 43 * D) := by first | exact ⟨S 30 0 4, 0, rfl, by rw [if_neg (by omega)], by omega, fun j _ _ => by rw [Int.mul_zero, Int.add_zero]⟩ | exact ⟨15, 1, by rw [hv0]; omega, by rw [if_pos (by omega)], by omega, fun j j0 j1 => by rw [ho0 43 0 j (by omega)]; exact h1 j j0 (by omega)⟩
    refine kw_bipush hC dX8_keep_49 rfl (by decide) ?_
    refine kw_aload_n hC dX8_keep_51 rfl 0 rfl ?_
    refine kg_30_4 hC w8 f1 dX8_keep_52 rfl (by decide) (by decide) ?_
    refine kw_chi (z' := C) h4 ?_
    refine kw_imul hC dX8_keep_55 rfl ?_
    refine kw_istore_n (lv' := [(1, _), (0, _)]) hC dX8_keep_56 rfl (by decide) rfl ?_
    refine kw_aload_n hC dX8_keep_57 rfl 1 rfl ?_
    refine kg_30_3 hC w8 f7 dX8_keep_58 rfl (by decide) (by decide) ?_
    refine kw_iload_n hC dX8_keep_61 rfl 0 rfl ?_
    refine kw_aload_n hC dX8_keep_62 rfl 1 rfl ?_
    refine kg_30_0 hC w8 f11 dX8_keep_63 rfl (by decide) (by decide) ?_
    refine ks_43 hC dX8_keep_66 rfl (by decide) (by decide) (by omega) (by omega) ?_
    refine kw_hv hfS (by unfold fK; omega) (fun S2 hfS2 hv2 ho2 => ?_)
    refine kw_iconst hC dX8_keep_67 rfl ?_
    refine kw_istore_n (lv' := [(2, _), (1, _), (0, _)]) hC dX8_keep_68 rfl (by decide) rfl ?_
    have hL69 : ∀ (n69 : Nat) (x : Int) (W69 : wSt), Fr fK S W69 → (0 ≤ x) → (x ≤ 6) → (∀ j, 0 ≤ j → j < 43 * C → W69 43 0 j = S 43 0 (j + 43 * D)) → (W69 30 0 4 = C) → (W69 43 0 (43 * C) = S 30 0 0) → (∀ j, 0 ≤ j → j < x → W69 43 0 (43 * C + 1 + j) = S 41 0 j) → 6 - x < (n69 : Int) → Wk E g 3 W69 69 [(0, vr g 30 0), (1, vi (43 * C)), (2, vi x)] [] := by
      intro n69
      induction n69 with
      | zero => intro x W69 hfW69 x0 x1 hold h4 ht hk hm69; exact absurd hm69 (by omega)
      | succ n69 ih69 =>
        intro x W69 hfW69 x0 x1 hold h4 ht hk hm69
        have e41 : ∀ j, W69 41 0 j = S 41 0 j := fun j => hfW69 41 0 j (by unfold fK; omega)
        refine kw_iload_n hC dX8_keep_69 rfl 2 rfl ?_
        refine kw_bipush hC dX8_keep_70 rfl (by decide) ?_
        refine kw_icmp_ge (tgt := 97) hC dX8_keep_72 rfl (by decide) (by omega) (by omega) ⟨fun c72 => ?_, fun c72 => ?_⟩
        · refine kw_iconst hC dX8_keep_97 rfl ?_
          refine kw_istore_n (lv' := [(2, _), (0, _), (1, _)]) hC dX8_keep_98 rfl (by decide) rfl ?_
          have hL99 : ∀ (n99 : Nat) (x : Int) (W99 : wSt), Fr fK S W99 → (0 ≤ x) → (x ≤ 36) → (∀ j, 0 ≤ j → j < 43 * C → W99 43 0 j = S 43 0 (j + 43 * D)) → (W99 30 0 4 = C) → (W99 43 0 (43 * C) = S 30 0 0) → (∀ j, 0 ≤ j → j < 6 → W99 43 0 (43 * C + 1 + j) = S 41 0 j) → (∀ j, 0 ≤ j → j < x → W99 43 0 (43 * C + 7 + j) = S 42 0 j) → 36 - x < (n99 : Int) → Wk E g 3 W99 99 [(0, vr g 30 0), (1, vi (43 * C)), (2, vi x)] [] := by
            intro n99
            induction n99 with
            | zero => intro x W99 hfW99 x0 x1 hold h4 ht hk hm hm99; exact absurd hm99 (by omega)
            | succ n99 ih99 =>
              intro x W99 hfW99 x0 x1 hold h4 ht hk hm hm99
              have e42 : ∀ j, W99 42 0 j = S 42 0 j := fun j => hfW99 42 0 j (by unfold fK; omega)
              refine kw_iload_n hC dX8_keep_99 rfl 2 rfl ?_
              refine kw_bipush hC dX8_keep_100 rfl (by decide) ?_
              refine kw_icmp_ge (tgt := 128) hC dX8_keep_102 rfl (by decide) (by omega) (by omega) ⟨fun c102 => ?_, fun c102 => ?_⟩
              · refine kw_aload_n hC dX8_keep_128 rfl 0 rfl ?_
                refine kw_dup hC dX8_keep_129 rfl rfl ?_
                refine kg_30_4 hC w8 f1 dX8_keep_130 rfl (by decide) (by decide) ?_
                refine kw_chi (z' := C) h4 ?_
                refine kw_iconst hC dX8_keep_133 rfl ?_
                refine kw_iadd hC dX8_keep_134 rfl ?_
                refine kp_30_4 hC w8 f1 dX8_keep_135 rfl (by decide) (by decide) ?_
                refine kw_hv hfW99 (by unfold fK; omega) (fun S5 hfS5 hv5 ho5 => ?_)
                have hz4 := hv5
                have hoz := ho5
                refine kw_aload_n hC dX8_keep_138 rfl 0 rfl ?_
                refine kw_callV hC (d_X8_emptyWords hD ) gX8_keep_X8_emptyWords ⟨_, rfl⟩ rfl (by decide) (by decide) rfl ⟨rfl, rfl⟩ 0 (by decide +kernel) ⟨by decide, by decide⟩ rfl rfl (Nat.le_of_ble_eq_true rfl) dX8_keep_139 rfl (kd_v (fun S6 hp6 => ?_))
                obtain ⟨hg6, hp6⟩ := hp6
                have hfS6 : Fr fK S S6 := hfS5.trans (hg6.mono (fun k i j h => by unfold fE at h; unfold fK; omega))
                have g43 : ∀ j, S6 43 0 j = W99 43 0 j := fun j => (hg6 43 0 j (by unfold fE; omega)).trans (hoz 43 0 j (by omega))
                have g4 : S6 30 0 4 = C + 1 := (hg6 30 0 4 (by unfold fE; omega)).trans hz4
                have g4b : S6 30 0 4 - 1 = C := by omega
                exact hR9.2.2.2 rfl _ _ _ dX8_keep_142 ⟨rfl, hfS6, by rw [g4]; split at hDD <;> split <;> omega, hp6, fun q j q0 q1 j0 j1 => by rw [g43, ← hDD, hold (43 * q + j) (by omega) (by omega), show 43 * q + j + 43 * D = 43 * (q + D) + j by omega], by rw [g43, g4b]; exact ht, fun j j0 j1 => by rw [g43, g4b]; exact hk j j0 j1, fun j j0 j1 => by rw [g43, g4b]; exact hm j j0 (by omega)⟩
              · refine kw_aload_n hC dX8_keep_105 rfl 0 rfl ?_
                refine kg_30_3 hC w8 f7 dX8_keep_106 rfl (by decide) (by decide) ?_
                refine kw_iload_n hC dX8_keep_109 rfl 1 rfl ?_
                refine kw_bipush hC dX8_keep_110 rfl (by decide) ?_
                refine kw_iadd hC dX8_keep_112 rfl ?_
                refine kw_iload_n hC dX8_keep_113 rfl 2 rfl ?_
                refine kw_iadd hC dX8_keep_114 rfl ?_
                refine kw_aload_n hC dX8_keep_115 rfl 0 rfl ?_
                refine kg_30_2 hC w8 f17 dX8_keep_116 rfl (by decide) (by decide) ?_
                refine kw_iload_n hC dX8_keep_119 rfl 2 rfl ?_
                refine ka_42 hC dX8_keep_120 rfl (by decide) (by decide) (by omega) (by omega) ?_
                refine ks_43 hC dX8_keep_121 rfl (by decide) (by decide) (by omega) (by omega) ?_
                refine kw_hv hfW99 (by unfold fK; omega) (fun S7 hfS7 hv7 ho7 => ?_)
                refine kw_iinc (lv' := [(2, _), (0, _), (1, _)]) hC dX8_keep_122 rfl 2 rfl (by decide) rfl ?_
                refine kw_goto (tgt := 99) hC dX8_keep_125 rfl (by decide) ?_
                refine kw_lv [1, 2, 0] rfl ?_
                exact ih99 (x + 1) S7 hfS7 (by omega) (by omega) (fun j j0 j1 => by rw [ho7 43 0 j (by omega)]; exact hold j j0 j1) (by rw [ho7 30 0 4 (by omega)]; exact h4) (by rw [ho7 43 0 (43 * C) (by omega)]; exact ht) (fun j j0 j1 => by rw [ho7 43 0 _ (by omega)]; exact hk j j0 j1) (fun j j0 j1 => by rcases Decidable.em (j = x) with e | e; exact (by rw [e, hv7]; exact e42 x); exact (by rw [ho7 43 0 _ (by omega)]; exact hm j j0 (by omega))) (by omega)
          refine kw_lv [1, 2, 0] rfl ?_
          exact hL99 37 0 W69 hfW69 (by omega) (by omega) hold h4 ht (fun j j0 j1 => hk j j0 (by omega)) (fun j _ _ => by omega) (by omega)
        · refine kw_aload_n hC dX8_keep_75 rfl 0 rfl ?_
          refine kg_30_3 hC w8 f7 dX8_keep_76 rfl (by decide) (by decide) ?_
          refine kw_iload_n hC dX8_keep_79 rfl 1 rfl ?_
          refine kw_iconst hC dX8_keep_80 rfl ?_
          refine kw_iadd hC dX8_keep_81 rfl ?_
          refine kw_iload_n hC dX8_keep_82 rfl 2 rfl ?_
          refine kw_iadd hC dX8_keep_83 rfl ?_
          refine kw_aload_n hC dX8_keep_84 rfl 0 rfl ?_
          refine kg_30_1 hC w8 f14 dX8_keep_85 rfl (by decide) (by decide) ?_
          refine kw_iload_n hC dX8_keep_88 rfl 2 rfl ?_
          refine ka_41 hC dX8_keep_89 rfl (by decide) (by decide) (by omega) (by omega) ?_
          refine ks_43 hC dX8_keep_90 rfl (by decide) (by decide) (by omega) (by omega) ?_
          refine kw_hv hfW69 (by unfold fK; omega) (fun S8 hfS8 hv8 ho8 => ?_)
          refine kw_iinc (lv' := [(2, _), (0, _), (1, _)]) hC dX8_keep_91 rfl 2 rfl (by decide) rfl ?_
          refine kw_goto (tgt := 69) hC dX8_keep_94 rfl (by decide) ?_
          refine kw_lv [1, 2, 0] rfl ?_
          exact ih69 (x + 1) S8 hfS8 (by omega) (by omega) (fun j j0 j1 => by rw [ho8 43 0 j (by omega)]; exact hold j j0 j1) (by rw [ho8 30 0 4 (by omega)]; exact h4) (by rw [ho8 43 0 (43 * C) (by omega)]; exact ht) (fun j j0 j1 => by rcases Decidable.em (j = x) with e | e; exact (by rw [e, hv8]; exact e41 x); exact (by rw [ho8 43 0 _ (by omega)]; exact hk j j0 (by omega))) (by omega)
    refine kw_lv [2, 1, 0] rfl ?_
    exact hL69 7 0 S2 hfS2 (by omega) (by omega) (fun j j0 j1 => by rw [ho2 43 0 j (by omega)]; exact hold j j0 j1) (by rw [ho2 30 0 4 (by omega)]; exact h4) (hv2.trans (hfS 30 0 0 (by unfold fK; omega))) (fun j _ _ => by omega) (by omega)
  · refine kw_iconst hC dX8_keep_9 rfl ?_
    refine kw_istore_n (lv' := [(1, _), (0, _)]) hC dX8_keep_10 rfl (by decide) rfl ?_
    have hL11 : ∀ (n11 : Nat) (x : Int) (W11 : wSt), Fr fK S W11 → (0 ≤ x) → (x ≤ 645) → (W11 30 0 4 = 16) → (∀ j, 0 ≤ j → j < x → W11 43 0 j = S 43 0 (j + 43)) → (∀ j, x ≤ j → W11 43 0 j = S 43 0 j) → 645 - x < (n11 : Int) → Wk E g 3 W11 11 [(0, vr g 30 0), (1, vi x)] [] := by
      intro n11
      induction n11 with
      | zero => intro x W11 hfW11 x0 x1 h4 h1 h2 hm11; exact absurd hm11 (by omega)
      | succ n11 ih11 =>
        intro x W11 hfW11 x0 x1 h4 h1 h2 hm11
        refine kw_iload_n hC dX8_keep_11 rfl 1 rfl ?_
        refine kw_sipush hC dX8_keep_12 rfl (by decide) ?_
        refine kw_icmp_ge (tgt := 39) hC dX8_keep_15 rfl (by decide) (by omega) (by omega) ⟨fun c15 => ?_, fun c15 => ?_⟩
        · refine kw_aload_n hC dX8_keep_39 rfl 0 rfl ?_
          refine kw_dup hC dX8_keep_40 rfl rfl ?_
          refine kg_30_4 hC w8 f1 dX8_keep_41 rfl (by decide) (by decide) ?_
          refine kw_iconst hC dX8_keep_44 rfl ?_
          refine kw_isub hC dX8_keep_45 rfl ?_
          refine kp_30_4 hC w8 f1 dX8_keep_46 rfl (by decide) (by decide) ?_
          refine kw_hv hfW11 (by unfold fK; omega) (fun S10 hfS10 hv10 ho10 => ?_)
          obtain ⟨C, D, h4, hDD, hCD, hold⟩ : ∃ C D : Int, S10 30 0 4 = C ∧ D = (if S 30 0 4 = 16 then 1 else 0) ∧ (C = S 30 0 4 - D ∧ 0 ≤ C ∧ C ≤ 15) ∧ ∀ j, 0 ≤ j → j < 43 * C → S10 43 0 j = S 43 0 (j + 43 * D) := by first | exact ⟨S 30 0 4, 0, rfl, by rw [if_neg (by omega)], by omega, fun j _ _ => by rw [Int.mul_zero, Int.add_zero]⟩ | exact ⟨15, 1, by rw [hv10]; omega, by rw [if_pos (by omega)], by omega, fun j j0 j1 => by rw [ho10 43 0 j (by omega)]; exact h1 j j0 (by omega)⟩
          refine kw_bipush hC dX8_keep_49 rfl (by decide) ?_
          refine kw_aload_n hC dX8_keep_51 rfl 0 rfl ?_
          refine kg_30_4 hC w8 f1 dX8_keep_52 rfl (by decide) (by decide) ?_
          refine kw_chi (z' := C) h4 ?_
          refine kw_imul hC dX8_keep_55 rfl ?_
          refine kw_istore_n (lv' := [(1, _), (0, _)]) hC dX8_keep_56 rfl (by decide) rfl ?_
          refine kw_aload_n hC dX8_keep_57 rfl 1 rfl ?_
          refine kg_30_3 hC w8 f7 dX8_keep_58 rfl (by decide) (by decide) ?_
          refine kw_iload_n hC dX8_keep_61 rfl 0 rfl ?_
          refine kw_aload_n hC dX8_keep_62 rfl 1 rfl ?_
          refine kg_30_0 hC w8 f11 dX8_keep_63 rfl (by decide) (by decide) ?_
          refine ks_43 hC dX8_keep_66 rfl (by decide) (by decide) (by omega) (by omega) ?_
          refine kw_hv hfS10 (by unfold fK; omega) (fun S11 hfS11 hv11 ho11 => ?_)
          refine kw_iconst hC dX8_keep_67 rfl ?_
          refine kw_istore_n (lv' := [(2, _), (1, _), (0, _)]) hC dX8_keep_68 rfl (by decide) rfl ?_
          have hL69 : ∀ (n69 : Nat) (x : Int) (W69 : wSt), Fr fK S W69 → (0 ≤ x) → (x ≤ 6) → (∀ j, 0 ≤ j → j < 43 * C → W69 43 0 j = S 43 0 (j + 43 * D)) → (W69 30 0 4 = C) → (W69 43 0 (43 * C) = S 30 0 0) → (∀ j, 0 ≤ j → j < x → W69 43 0 (43 * C + 1 + j) = S 41 0 j) → 6 - x < (n69 : Int) → Wk E g 3 W69 69 [(0, vr g 30 0), (1, vi (43 * C)), (2, vi x)] [] := by
            intro n69
            induction n69 with
            | zero => intro x W69 hfW69 x0 x1 hold h4 ht hk hm69; exact absurd hm69 (by omega)
            | succ n69 ih69 =>
              intro x W69 hfW69 x0 x1 hold h4 ht hk hm69
              have e41 : ∀ j, W69 41 0 j = S 41 0 j := fun j => hfW69 41 0 j (by unfold fK; omega)
              refine kw_iload_n hC dX8_keep_69 rfl 2 rfl ?_
              refine kw_bipush hC dX8_keep_70 rfl (by decide) ?_
              refine kw_icmp_ge (tgt := 97) hC dX8_keep_72 rfl (by decide) (by omega) (by omega) ⟨fun c72 => ?_, fun c72 => ?_⟩
              · refine kw_iconst hC dX8_keep_97 rfl ?_
                refine kw_istore_n (lv' := [(2, _), (0, _), (1, _)]) hC dX8_keep_98 rfl (by decide) rfl ?_
                have hL99 : ∀ (n99 : Nat) (x : Int) (W99 : wSt), Fr fK S W99 → (0 ≤ x) → (x ≤ 36) → (∀ j, 0 ≤ j → j < 43 * C → W99 43 0 j = S 43 0 (j + 43 * D)) → (W99 30 0 4 = C) → (W99 43 0 (43 * C) = S 30 0 0) → (∀ j, 0 ≤ j → j < 6 → W99 43 0 (43 * C + 1 + j) = S 41 0 j) → (∀ j, 0 ≤ j → j < x → W99 43 0 (43 * C + 7 + j) = S 42 0 j) → 36 - x < (n99 : Int) → Wk E g 3 W99 99 [(0, vr g 30 0), (1, vi (43 * C)), (2, vi x)] [] := by
                  intro n99
                  induction n99 with
                  | zero => intro x W99 hfW99 x0 x1 hold h4 ht hk hm hm99; exact absurd hm99 (by omega)
                  | succ n99 ih99 =>
                    intro x W99 hfW99 x0 x1 hold h4 ht hk hm hm99
                    have e42 : ∀ j, W99 42 0 j = S 42 0 j := fun j => hfW99 42 0 j (by unfold fK; omega)
                    refine kw_iload_n hC dX8_keep_99 rfl 2 rfl ?_
                    refine kw_bipush hC dX8_keep_100 rfl (by decide) ?_
                    refine kw_icmp_ge (tgt := 128) hC dX8_keep_102 rfl (by decide) (by omega) (by omega) ⟨fun c102 => ?_, fun c102 => ?_⟩
                    · refine kw_aload_n hC dX8_keep_128 rfl 0 rfl ?_
                      refine kw_dup hC dX8_keep_129 rfl rfl ?_
                      refine kg_30_4 hC w8 f1 dX8_keep_130 rfl (by decide) (by decide) ?_
                      refine kw_chi (z' := C) h4 ?_
                      refine kw_iconst hC dX8_keep_133 rfl ?_
                      refine kw_iadd hC dX8_keep_134 rfl ?_
                      refine kp_30_4 hC w8 f1 dX8_keep_135 rfl (by decide) (by decide) ?_
                      refine kw_hv hfW99 (by unfold fK; omega) (fun S14 hfS14 hv14 ho14 => ?_)
                      have hz4 := hv14
                      have hoz := ho14
                      refine kw_aload_n hC dX8_keep_138 rfl 0 rfl ?_
                      refine kw_callV hC (d_X8_emptyWords hD ) gX8_keep_X8_emptyWords ⟨_, rfl⟩ rfl (by decide) (by decide) rfl ⟨rfl, rfl⟩ 0 (by decide +kernel) ⟨by decide, by decide⟩ rfl rfl (Nat.le_of_ble_eq_true rfl) dX8_keep_139 rfl (kd_v (fun S15 hp15 => ?_))
                      obtain ⟨hg15, hp15⟩ := hp15
                      have hfS15 : Fr fK S S15 := hfS14.trans (hg15.mono (fun k i j h => by unfold fE at h; unfold fK; omega))
                      have g43 : ∀ j, S15 43 0 j = W99 43 0 j := fun j => (hg15 43 0 j (by unfold fE; omega)).trans (hoz 43 0 j (by omega))
                      have g4 : S15 30 0 4 = C + 1 := (hg15 30 0 4 (by unfold fE; omega)).trans hz4
                      have g4b : S15 30 0 4 - 1 = C := by omega
                      exact hR9.2.2.2 rfl _ _ _ dX8_keep_142 ⟨rfl, hfS15, by rw [g4]; split at hDD <;> split <;> omega, hp15, fun q j q0 q1 j0 j1 => by rw [g43, ← hDD, hold (43 * q + j) (by omega) (by omega), show 43 * q + j + 43 * D = 43 * (q + D) + j by omega], by rw [g43, g4b]; exact ht, fun j j0 j1 => by rw [g43, g4b]; exact hk j j0 j1, fun j j0 j1 => by rw [g43, g4b]; exact hm j j0 (by omega)⟩
                    · refine kw_aload_n hC dX8_keep_105 rfl 0 rfl ?_
                      refine kg_30_3 hC w8 f7 dX8_keep_106 rfl (by decide) (by decide) ?_
                      refine kw_iload_n hC dX8_keep_109 rfl 1 rfl ?_
                      refine kw_bipush hC dX8_keep_110 rfl (by decide) ?_
                      refine kw_iadd hC dX8_keep_112 rfl ?_
                      refine kw_iload_n hC dX8_keep_113 rfl 2 rfl ?_
                      refine kw_iadd hC dX8_keep_114 rfl ?_
                      refine kw_aload_n hC dX8_keep_115 rfl 0 rfl ?_
                      refine kg_30_2 hC w8 f17 dX8_keep_116 rfl (by decide) (by decide) ?_
                      refine kw_iload_n hC dX8_keep_119 rfl 2 rfl ?_
                      refine ka_42 hC dX8_keep_120 rfl (by decide) (by decide) (by omega) (by omega) ?_
                      refine ks_43 hC dX8_keep_121 rfl (by decide) (by decide) (by omega) (by omega) ?_
                      refine kw_hv hfW99 (by unfold fK; omega) (fun S16 hfS16 hv16 ho16 => ?_)
                      refine kw_iinc (lv' := [(2, _), (0, _), (1, _)]) hC dX8_keep_122 rfl 2 rfl (by decide) rfl ?_
                      refine kw_goto (tgt := 99) hC dX8_keep_125 rfl (by decide) ?_
                      refine kw_lv [1, 2, 0] rfl ?_
                      exact ih99 (x + 1) S16 hfS16 (by omega) (by omega) (fun j j0 j1 => by rw [ho16 43 0 j (by omega)]; exact hold j j0 j1) (by rw [ho16 30 0 4 (by omega)]; exact h4) (by rw [ho16 43 0 (43 * C) (by omega)]; exact ht) (fun j j0 j1 => by rw [ho16 43 0 _ (by omega)]; exact hk j j0 j1) (fun j j0 j1 => by rcases Decidable.em (j = x) with e | e; exact (by rw [e, hv16]; exact e42 x); exact (by rw [ho16 43 0 _ (by omega)]; exact hm j j0 (by omega))) (by omega)
                refine kw_lv [1, 2, 0] rfl ?_
                exact hL99 37 0 W69 hfW69 (by omega) (by omega) hold h4 ht (fun j j0 j1 => hk j j0 (by omega)) (fun j _ _ => by omega) (by omega)
              · refine kw_aload_n hC dX8_keep_75 rfl 0 rfl ?_
                refine kg_30_3 hC w8 f7 dX8_keep_76 rfl (by decide) (by decide) ?_
                refine kw_iload_n hC dX8_keep_79 rfl 1 rfl ?_
                refine kw_iconst hC dX8_keep_80 rfl ?_
                refine kw_iadd hC dX8_keep_81 rfl ?_
                refine kw_iload_n hC dX8_keep_82 rfl 2 rfl ?_
                refine kw_iadd hC dX8_keep_83 rfl ?_
                refine kw_aload_n hC dX8_keep_84 rfl 0 rfl ?_
                refine kg_30_1 hC w8 f14 dX8_keep_85 rfl (by decide) (by decide) ?_
                refine kw_iload_n hC dX8_keep_88 rfl 2 rfl ?_
                refine ka_41 hC dX8_keep_89 rfl (by decide) (by decide) (by omega) (by omega) ?_
                refine ks_43 hC dX8_keep_90 rfl (by decide) (by decide) (by omega) (by omega) ?_
                refine kw_hv hfW69 (by unfold fK; omega) (fun S17 hfS17 hv17 ho17 => ?_)
                refine kw_iinc (lv' := [(2, _), (0, _), (1, _)]) hC dX8_keep_91 rfl 2 rfl (by decide) rfl ?_
                refine kw_goto (tgt := 69) hC dX8_keep_94 rfl (by decide) ?_
                refine kw_lv [1, 2, 0] rfl ?_
                exact ih69 (x + 1) S17 hfS17 (by omega) (by omega) (fun j j0 j1 => by rw [ho17 43 0 j (by omega)]; exact hold j j0 j1) (by rw [ho17 30 0 4 (by omega)]; exact h4) (by rw [ho17 43 0 (43 * C) (by omega)]; exact ht) (fun j j0 j1 => by rcases Decidable.em (j = x) with e | e; exact (by rw [e, hv17]; exact e41 x); exact (by rw [ho17 43 0 _ (by omega)]; exact hk j j0 (by omega))) (by omega)
          refine kw_lv [2, 1, 0] rfl ?_
          exact hL69 7 0 S11 hfS11 (by omega) (by omega) (fun j j0 j1 => by rw [ho11 43 0 j (by omega)]; exact hold j j0 j1) (by rw [ho11 30 0 4 (by omega)]; exact h4) (hv11.trans (hfS10 30 0 0 (by unfold fK; omega))) (fun j _ _ => by omega) (by omega)
        · refine kw_aload_n hC dX8_keep_18 rfl 0 rfl ?_
          refine kg_30_3 hC w8 f7 dX8_keep_19 rfl (by decide) (by decide) ?_
          refine kw_iload_n hC dX8_keep_22 rfl 1 rfl ?_
          refine kw_aload_n hC dX8_keep_23 rfl 0 rfl ?_
          refine kg_30_3 hC w8 f7 dX8_keep_24 rfl (by decide) (by decide) ?_
          refine kw_iload_n hC dX8_keep_27 rfl 1 rfl ?_
          refine kw_bipush hC dX8_keep_28 rfl (by decide) ?_
          refine kw_iadd hC dX8_keep_30 rfl ?_
          refine ka_43 hC dX8_keep_31 rfl (by decide) (by decide) (by omega) (by omega) ?_
          refine ks_43 hC dX8_keep_32 rfl (by decide) (by decide) (by omega) (by omega) ?_
          refine kw_hv hfW11 (by unfold fK; omega) (fun S18 hfS18 hv18 ho18 => ?_)
          refine kw_iinc (lv' := [(1, _), (0, _)]) hC dX8_keep_33 rfl 1 rfl (by decide) rfl ?_
          refine kw_goto (tgt := 11) hC dX8_keep_36 rfl (by decide) ?_
          refine kw_lv [1, 0] rfl ?_
          exact ih11 (x + 1) S18 hfS18 (by omega) (by omega) (by rw [ho18 30 0 4 (by omega)]; exact h4) (ext_p (fun j z => z = S 43 0 (j + 43)) h1 (fun j hj => ho18 43 0 j (by omega)) (by rw [hv18]; exact h2 _ (by omega))) (fun j hj => by rw [ho18 43 0 j (by omega)]; exact h2 j (by omega)) (by omega)
    refine kw_lv [1, 0] rfl ?_
    exact hL11 646 0 S hfS (by omega) (by omega) (by omega) (fun j _ _ => by omega) (fun _ _ => rfl) (by omega)

set_option maxHeartbeats 4000000 in
set_option maxRecDepth 100000 in
theorem d_X8_mirror {g : wG} (hD : wD g) {S : wSt} {a : Int} (ha : -2147483648 ≤ a ∧ a ≤ 2147483647) (hRS : RI S) (l : Launch) : Kt l yX8_mirror wsX8_mirror ({ frames := 2, cells := 0, slots := 0, locals := 43 } : Room) g S [vr g 30 0, vi a] (pI (fun r S' => RI S' ∧ Fr tS S S' ∧ ∀ x, AR S x → AR S' (aMirror a x) ∧ r = rMirror a x)) := by
  refine Kt.of (cc := cX8_mirror) (nL := 3) (ret := (some .int)) (own := RX8) rfl hD (by decide) rfl (Nat.le_of_ble_eq_true rfl) ⟨rfl, rfl⟩ ?_
  intro E hC hR9
  have f11 : Cond.fieldLink RX8 11 "MirrorBenchModel" "mirrors" "I" ∈ wsX8_mirror := by decide +kernel
  have f14 : Cond.fieldLink RX8 14 "MirrorBenchModel" "kinds" "[I" ∈ wsX8_mirror := by decide +kernel
  have f17 : Cond.fieldLink RX8 17 "MirrorBenchModel" "meets" "[I" ∈ wsX8_mirror := by decide +kernel
  have l28 : Cond.constantLong RX8 28 (Int64.ofInt (2)) ∈ wsX8_mirror := by decide +kernel
  have w8 : ∀ w ∈ wsX80, w ∈ wsX8_mirror := by decide +kernel
  show Wk E g 3 S 0 [(0, vr g 30 0), (1, vi a)] []
  have hfS : Fr fM S S := Fr.rfl _ S
  have hn := hRS.n
  refine kw_iload_n hC dX8_mirror_0 rfl 1 rfl ?_
  refine kw_i2l hC dX8_mirror_1 rfl (by omega) ?_
  refine kw_lconst (z := 0) hC dX8_mirror_2 rfl rfl ?_
  refine kw_ldc2 (z := 2) hC dX8_mirror_3 rfl l28 ?_
  refine kw_callS hC (d_X8_in hD (by omega) (by omega) (by omega)) gX8_mirror_X8_in rfl ⟨rfl, rfl⟩ 3 (by decide +kernel) ⟨by decide, by decide⟩ rfl rfl (Nat.le_of_ble_eq_true rfl) dX8_mirror_6 rfl (kd_ie ?_)
  refine kw_ifne_b (tgt := 14) hC dX8_mirror_9 rfl (by decide) ⟨fun c9 => ?_, fun c9 => ?_⟩
  · refine kw_aload_n hC dX8_mirror_14 rfl 0 rfl ?_
    refine kg_30_0 hC w8 f11 dX8_mirror_15 rfl (by decide) (by decide) ?_
    refine kw_bipush hC dX8_mirror_18 rfl (by decide) ?_
    refine kw_icmp_ne (tgt := 26) hC dX8_mirror_20 rfl (by decide) (by omega) (by omega) ⟨fun c20 => ?_, fun c20 => ?_⟩
    · refine kw_aload_n hC dX8_mirror_26 rfl 0 rfl ?_
      refine kw_callV hC (d_X8_keep hD hRS.c.1 hRS.c.2 hRS.n.1 hRS.n.2) gX8_mirror_X8_keep ⟨_, rfl⟩ rfl (by decide) (by decide) rfl ⟨rfl, rfl⟩ 0 (by decide +kernel) ⟨by decide, by decide⟩ rfl rfl (Nat.le_of_ble_eq_true rfl) dX8_mirror_27 rfl (kd_v (fun S3 hp3 => ?_))
      obtain ⟨hg3, hp3⟩ := hp3
      have hfS3 : Fr fM S S3 := hfS.trans (hg3.mono (fun k i j h => by unfold fK at h; unfold fM; omega))
      have hp27 := hp3
      have k0 : S3 30 0 0 = S 30 0 0 := hg3 30 0 0 (by unfold fK; omega)
      have e41 : ∀ j, S3 41 0 j = S 41 0 j := fun j => hg3 41 0 j (by unfold fK; omega)
      have e42 : ∀ j, S3 42 0 j = S 42 0 j := fun j => hg3 42 0 j (by unfold fK; omega)
      refine kw_aload_n hC dX8_mirror_30 rfl 0 rfl ?_
      refine kg_30_1 hC w8 f14 dX8_mirror_31 rfl (by decide) (by decide) ?_
      refine kw_aload_n hC dX8_mirror_34 rfl 0 rfl ?_
      refine kg_30_0 hC w8 f11 dX8_mirror_35 rfl (by decide) (by decide) ?_
      refine kw_chi (z' := S 30 0 0) k0 ?_
      refine kw_iload_n hC dX8_mirror_38 rfl 1 rfl ?_
      refine ks_41 hC dX8_mirror_39 rfl (by decide) (by decide) (by omega) (by omega) ?_
      refine kw_hv hfS3 (by unfold fM; omega) (fun S4 hfS4 hv4 ho4 => ?_)
      refine kw_iconst hC dX8_mirror_40 rfl ?_
      refine kw_istore_n (lv' := [(2, _), (0, _), (1, _)]) hC dX8_mirror_41 rfl (by decide) rfl ?_
      have hL42 : ∀ (n42 : Nat) (x : Int) (W42 : wSt), Fr fM S W42 → (0 ≤ x) → (x ≤ 6) → (W42 30 0 0 = S 30 0 0) → (KpR S W42) → (W42 41 0 (S 30 0 0) = a) → (∀ i, i ≠ S 30 0 0 → W42 41 0 i = S 41 0 i) → (∀ j, 0 ≤ j → j < x → W42 42 0 (6 * S 30 0 0 + j) = 0 ∧ W42 42 0 (6 * j + S 30 0 0) = 0) → (∀ i j, 0 ≤ i → i < 6 → 0 ≤ j → j < 6 → i ≠ S 30 0 0 → j ≠ S 30 0 0 → W42 42 0 (6 * i + j) = S 42 0 (6 * i + j)) → 6 - x < (n42 : Int) → Wk E g 3 W42 42 [(0, vr g 30 0), (1, vi a), (2, vi x)] [] := by
        intro n42
        induction n42 with
        | zero => intro x W42 hfW42 x0 x1 k0 hK hk hko hz hmo hm42; exact absurd hm42 (by omega)
        | succ n42 ih42 =>
          intro x W42 hfW42 x0 x1 k0 hK hk hko hz hmo hm42
          refine kw_iload_n hC dX8_mirror_42 rfl 2 rfl ?_
          refine kw_bipush hC dX8_mirror_43 rfl (by decide) ?_
          refine kw_icmp_ge (tgt := 84) hC dX8_mirror_45 rfl (by decide) (by omega) (by omega) ⟨fun c45 => ?_, fun c45 => ?_⟩
          · refine kw_aload_n hC dX8_mirror_84 rfl 0 rfl ?_
            refine kw_dup hC dX8_mirror_85 rfl rfl ?_
            refine kg_30_0 hC w8 f11 dX8_mirror_86 rfl (by decide) (by decide) ?_
            refine kw_chi (z' := S 30 0 0) k0 ?_
            refine kw_iconst hC dX8_mirror_89 rfl ?_
            refine kw_iadd hC dX8_mirror_90 rfl ?_
            refine kp_30_0 hC w8 f11 dX8_mirror_91 rfl (by decide) (by decide) ?_
            refine kw_hv hfW42 (by unfold fM; omega) (fun S6 hfS6 hv6 ho6 => ?_)
            have h42 : ∀ p, S6 42 0 p = W42 42 0 p := fun p => ho6 42 0 p (by omega)
            have h41 : ∀ p, S6 41 0 p = W42 41 0 p := fun p => ho6 41 0 p (by omega)
            have hK8 := hK.tr (S' := S6) (fun j => ho6 43 0 j (by omega)) (fun j => ho6 46 0 j (by omega)) (ho6 30 0 4 (by omega))
            have hz8 : ∀ j, 0 ≤ j → j < 6 → S6 42 0 (6 * S 30 0 0 + j) = 0 ∧ S6 42 0 (6 * j + S 30 0 0) = 0 := fun j j0 j1 => by rw [h42, h42]; exact hz j j0 (by omega)
            have hm8 : ∀ i j, 0 ≤ i → i < 6 → 0 ≤ j → j < 6 → i ≠ S 30 0 0 → j ≠ S 30 0 0 → S6 42 0 (6 * i + j) = S 42 0 (6 * i + j) := fun i j i0 i1 j0 j1 hi hj => by rw [h42]; exact hmo i j i0 i1 j0 j1 hi hj
            have hk8 : S6 41 0 (S 30 0 0) = a := by rw [h41]; exact hk
            have hko8 : ∀ i, i ≠ S 30 0 0 → S6 41 0 i = S 41 0 i := fun i hi => by rw [h41]; exact hko i hi
            have hn8 := hv6
            have hi8 := hK8.ri hRS (by rw [hn8]; exact hRS.set.mirror (by omega) c9 hk8 hko8 hz8 hm8) (hfS6.mono (fun k i j h => by unfold fM at h; unfold tS; omega))
            refine kw_aload_n hC dX8_mirror_94 rfl 0 rfl ?_
            refine kg_30_0 hC w8 f11 dX8_mirror_95 rfl (by decide) (by decide) ?_
            refine kw_chi (z' := S 30 0 0 + 1) hn8 ?_
            refine kw_iconst hC dX8_mirror_98 rfl ?_
            refine kw_isub hC dX8_mirror_99 rfl ?_
            exact hR9.1 rfl _ _ _ _ dX8_mirror_100 ⟨_, rfl, hi8, (hfS6.mono (fun k i j h => by unfold fM at h; unfold tS; omega)), fun x hx => by have e := hx.1.1; unfold aMirror rMirror; rw [if_pos c9, if_pos c9, if_neg (by omega), if_neg (by omega)]; exact ⟨hK8.ar hRS hx (by rw [hn8]; exact hx.1.mirror (by omega) hk8 hko8 hz8 hm8), by omega⟩⟩
          · refine kw_aload_n hC dX8_mirror_48 rfl 0 rfl ?_
            refine kg_30_2 hC w8 f17 dX8_mirror_49 rfl (by decide) (by decide) ?_
            refine kw_bipush hC dX8_mirror_52 rfl (by decide) ?_
            refine kw_aload_n hC dX8_mirror_54 rfl 0 rfl ?_
            refine kg_30_0 hC w8 f11 dX8_mirror_55 rfl (by decide) (by decide) ?_
            refine kw_chi (z' := S 30 0 0) k0 ?_
            refine kw_imul hC dX8_mirror_58 rfl ?_
            refine kw_iload_n hC dX8_mirror_59 rfl 2 rfl ?_
            refine kw_iadd hC dX8_mirror_60 rfl ?_
            refine kw_iconst hC dX8_mirror_61 rfl ?_
            refine ks_42 hC dX8_mirror_62 rfl (by decide) (by decide) (by omega) (by omega) ?_
            refine kw_hv hfW42 (by unfold fM; omega) (fun S7 hfS7 hv7 ho7 => ?_)
            have hvA := hv7
            have hoA := ho7
            have k1 : S7 30 0 0 = S 30 0 0 := (ho7 30 0 0 (by omega)).trans k0
            refine kw_aload_n hC dX8_mirror_63 rfl 0 rfl ?_
            refine kg_30_2 hC w8 f17 dX8_mirror_64 rfl (by decide) (by decide) ?_
            refine kw_bipush hC dX8_mirror_67 rfl (by decide) ?_
            refine kw_iload_n hC dX8_mirror_69 rfl 2 rfl ?_
            refine kw_imul hC dX8_mirror_70 rfl ?_
            refine kw_aload_n hC dX8_mirror_71 rfl 0 rfl ?_
            refine kg_30_0 hC w8 f11 dX8_mirror_72 rfl (by decide) (by decide) ?_
            refine kw_chi (z' := S 30 0 0) k1 ?_
            refine kw_iadd hC dX8_mirror_75 rfl ?_
            refine kw_iconst hC dX8_mirror_76 rfl ?_
            refine ks_42 hC dX8_mirror_77 rfl (by decide) (by decide) (by omega) (by omega) ?_
            refine kw_hv hfS7 (by unfold fM; omega) (fun S8 hfS8 hv8 ho8 => ?_)
            have k9 : S8 30 0 0 = S 30 0 0 := (ho8 30 0 0 (by omega)).trans k1
            have hK9 := hK.tr (S' := S8) (fun j => (ho8 43 0 j (by omega)).trans (hoA 43 0 j (by omega))) (fun j => (ho8 46 0 j (by omega)).trans (hoA 46 0 j (by omega))) ((ho8 30 0 4 (by omega)).trans (hoA 30 0 4 (by omega)))
            have hzz : ∀ p, W42 42 0 p = 0 ∨ p = 6 * S 30 0 0 + x ∨ p = 6 * x + S 30 0 0 → S8 42 0 p = 0 := fun p hp => by rcases Decidable.em (p = 6 * x + S 30 0 0) with e | e; exact (by rw [e]; exact hv8); exact (by rw [ho8 42 0 p (by omega)]; rcases Decidable.em (p = 6 * S 30 0 0 + x) with e2 | e2; exact (by rw [e2]; exact hvA); exact (by rw [hoA 42 0 p (by omega)]; omega))
            refine kw_iinc (lv' := [(2, _), (0, _), (1, _)]) hC dX8_mirror_78 rfl 2 rfl (by decide) rfl ?_
            refine kw_goto (tgt := 42) hC dX8_mirror_81 rfl (by decide) ?_
            refine kw_lv [1, 2, 0] rfl ?_
            exact ih42 (x + 1) S8 hfS8 (by omega) (by omega) k9 hK9 (by rw [ho8 41 0 _ (by omega), hoA 41 0 _ (by omega)]; exact hk) (fun i hi => by rw [ho8 41 0 i (by omega), hoA 41 0 i (by omega)]; exact hko i hi) (fun j j0 j1 => by rcases Decidable.em (j = x) with e | e; exact (by rw [e]; exact ⟨hzz _ (by omega), hzz _ (by omega)⟩); exact ⟨hzz _ (Or.inl (hz j j0 (by omega)).1), hzz _ (Or.inl (hz j j0 (by omega)).2)⟩) (fun i j i0 i1 j0 j1 hi hj => by rw [ho8 42 0 _ (by omega), hoA 42 0 _ (by omega)]; exact hmo i j i0 i1 j0 j1 hi hj) (by omega)
      refine kw_lv [1, 2, 0] rfl ?_
      exact hL42 7 0 S4 hfS4 (by omega) (by omega) ((ho4 30 0 0 (by omega)).trans k0) (hp27.tr (fun j => ho4 43 0 j (by omega)) (fun j => ho4 46 0 j (by omega)) (ho4 30 0 4 (by omega))) hv4 (fun i hi => by rw [ho4 41 0 i (by omega)]; exact e41 i) (fun j _ _ => by omega) (fun i j _ _ _ _ _ _ => by rw [ho4 42 0 _ (by omega)]; exact e42 _) (by omega)
    · refine kw_bipush hC dX8_mirror_23 rfl (by decide) ?_
      exact hR9.1 rfl _ _ _ _ dX8_mirror_25 ⟨_, rfl, hRS, Fr.rfl _ S, fun x hx => by have e := hx.1.1; have e4 := hx.2.1; unfold aMirror rMirror; rw [if_pos (by omega), if_pos (by omega), if_pos (by omega), if_pos (by omega)]; exact ⟨hx, rfl⟩⟩
  · refine kw_iconst hC dX8_mirror_12 rfl ?_
    exact hR9.1 rfl _ _ _ _ dX8_mirror_13 ⟨_, rfl, hRS, Fr.rfl _ S, fun x hx => by have e := hx.1.1; have e4 := hx.2.1; unfold aMirror rMirror; rw [if_neg (by omega), if_neg (by omega)]; exact ⟨hx, rfl⟩⟩

set_option maxHeartbeats 4000000 in
set_option maxRecDepth 100000 in
theorem d_X8_meet {g : wG} (hD : wD g) {S : wSt} {a b c d : Int} (ha : -2147483648 ≤ a ∧ a ≤ 2147483647) (hb : -2147483648 ≤ b ∧ b ≤ 2147483647) (hc : -2147483648 ≤ c ∧ c ≤ 2147483647) (hd : -2147483648 ≤ d ∧ d ≤ 2147483647) (hRS : RI S) (l : Launch) : Kt l yX8_meet wsX8_meet ({ frames := 2, cells := 0, slots := 0, locals := 47 } : Room) g S [vr g 30 0, vi a, vi b, vi c, vi d] (pI (fun r S' => RI S' ∧ Fr tS S S' ∧ ∀ x, AR S x → AR S' (aMeet a b c d x) ∧ r = rMeet a b c d x)) := by
  refine Kt.of (cc := cX8_meet) (nL := 5) (ret := (some .int)) (own := RX8) rfl hD (by decide) rfl (Nat.le_of_ble_eq_true rfl) ⟨rfl, rfl⟩ ?_
  intro E hC hR9
  have f17 : Cond.fieldLink RX8 17 "MirrorBenchModel" "meets" "[I" ∈ wsX8_meet := by decide +kernel
  have l37 : Cond.constantLong RX8 37 (Int64.ofInt (4)) ∈ wsX8_meet := by decide +kernel
  have w8 : ∀ w ∈ wsX80, w ∈ wsX8_meet := by decide +kernel
  show Wk E g 5 S 0 [(0, vr g 30 0), (1, vi a), (2, vi b), (3, vi c), (4, vi d)] []
  have hfS : Fr fM S S := Fr.rfl _ S
  have hn := hRS.n
  refine kw_aload_n hC dX8_meet_0 rfl 0 rfl ?_
  refine kw_iload_n hC dX8_meet_1 rfl 1 rfl ?_
  refine kw_i2l hC dX8_meet_2 rfl (by omega) ?_
  refine kw_callV hC (d_X8_isMirror hD (by omega) (by omega) (by omega)) gX8_meet_X8_isMirror ⟨_, rfl⟩ rfl (by decide) (by decide) rfl ⟨rfl, rfl⟩ 1 (by decide +kernel) ⟨by decide, by decide⟩ rfl rfl (Nat.le_of_ble_eq_true rfl) dX8_meet_3 rfl (kd_ie ?_)
  refine kw_ifeq_b (tgt := 67) hC dX8_meet_6 rfl (by decide) ⟨fun c6 => ?_, fun c6 => ?_⟩
  · refine kw_iconst hC dX8_meet_67 rfl ?_
    exact hR9.1 rfl _ _ _ _ dX8_meet_68 ⟨_, rfl, hRS, Fr.rfl _ S, fun x hx => by have e := hx.1.1; have hno : ¬ oMeet a b c d x.1.1 := (fun q => by obtain ⟨⟨q1, q2⟩, q3, q4, q5, q6⟩ := q; omega); unfold aMeet rMeet; rw [if_neg hno, if_neg hno]; exact ⟨hx, rfl⟩⟩
  · refine kw_aload_n hC dX8_meet_9 rfl 0 rfl ?_
    refine kw_iload_n hC dX8_meet_10 rfl 2 rfl ?_
    refine kw_i2l hC dX8_meet_11 rfl (by omega) ?_
    refine kw_callV hC (d_X8_isMirror hD (by omega) (by omega) (by omega)) gX8_meet_X8_isMirror ⟨_, rfl⟩ rfl (by decide) (by decide) rfl ⟨rfl, rfl⟩ 1 (by decide +kernel) ⟨by decide, by decide⟩ rfl rfl (Nat.le_of_ble_eq_true rfl) dX8_meet_12 rfl (kd_ie ?_)
    refine kw_ifeq_b (tgt := 67) hC dX8_meet_15 rfl (by decide) ⟨fun c15 => ?_, fun c15 => ?_⟩
    · refine kw_iconst hC dX8_meet_67 rfl ?_
      exact hR9.1 rfl _ _ _ _ dX8_meet_68 ⟨_, rfl, hRS, Fr.rfl _ S, fun x hx => by have e := hx.1.1; have hno : ¬ oMeet a b c d x.1.1 := (fun q => by obtain ⟨⟨q1, q2⟩, q3, q4, q5, q6⟩ := q; omega); unfold aMeet rMeet; rw [if_neg hno, if_neg hno]; exact ⟨hx, rfl⟩⟩
    · refine kw_iload_n hC dX8_meet_18 rfl 1 rfl ?_
      refine kw_iload_n hC dX8_meet_19 rfl 2 rfl ?_
      refine kw_icmp_eq (tgt := 67) hC dX8_meet_20 rfl (by decide) (by omega) (by omega) ⟨fun c20 => ?_, fun c20 => ?_⟩
      · refine kw_iconst hC dX8_meet_67 rfl ?_
        exact hR9.1 rfl _ _ _ _ dX8_meet_68 ⟨_, rfl, hRS, Fr.rfl _ S, fun x hx => by have e := hx.1.1; have hno : ¬ oMeet a b c d x.1.1 := (fun q => by obtain ⟨⟨q1, q2⟩, q3, q4, q5, q6⟩ := q; omega); unfold aMeet rMeet; rw [if_neg hno, if_neg hno]; exact ⟨hx, rfl⟩⟩
      · refine kw_iload_n hC dX8_meet_23 rfl 3 rfl ?_
        refine kw_if_lt (tgt := 67) hC dX8_meet_24 rfl (by decide) (by omega) ⟨fun c24 => ?_, fun c24 => ?_⟩
        · refine kw_iconst hC dX8_meet_67 rfl ?_
          exact hR9.1 rfl _ _ _ _ dX8_meet_68 ⟨_, rfl, hRS, Fr.rfl _ S, fun x hx => by have e := hx.1.1; have hno : ¬ oMeet a b c d x.1.1 := (fun q => by obtain ⟨⟨q1, q2⟩, q3, q4, q5, q6⟩ := q; omega); unfold aMeet rMeet; rw [if_neg hno, if_neg hno]; exact ⟨hx, rfl⟩⟩
        · refine kw_iload hC dX8_meet_27 rfl 4 rfl ?_
          refine kw_if_lt (tgt := 67) hC dX8_meet_29 rfl (by decide) (by omega) ⟨fun c29 => ?_, fun c29 => ?_⟩
          · refine kw_iconst hC dX8_meet_67 rfl ?_
            exact hR9.1 rfl _ _ _ _ dX8_meet_68 ⟨_, rfl, hRS, Fr.rfl _ S, fun x hx => by have e := hx.1.1; have hno : ¬ oMeet a b c d x.1.1 := (fun q => by obtain ⟨⟨q1, q2⟩, q3, q4, q5, q6⟩ := q; omega); unfold aMeet rMeet; rw [if_neg hno, if_neg hno]; exact ⟨hx, rfl⟩⟩
          · refine kw_iload_n hC dX8_meet_32 rfl 3 rfl ?_
            have hJ54 : (c = 0 ↔ d = 0) → Wk E g 5 S 54 [(0, vr g 30 0), (1, vi a), (2, vi b), (3, vi c), (4, vi d)] [] := by
              intro  hcd
              have hmr := mul_rng (c := c) (d := d) (by omega) (by omega) (by omega) (by omega)
              refine kw_iload_n hC dX8_meet_54 rfl 3 rfl ?_
              refine kw_i2l hC dX8_meet_55 rfl (by omega) ?_
              refine kw_iload hC dX8_meet_56 rfl 4 rfl ?_
              refine kw_i2l hC dX8_meet_58 rfl (by omega) ?_
              refine kw_lmul hC dX8_meet_59 rfl ?_
              refine kw_ldc2 (z := 4) hC dX8_meet_60 rfl l37 ?_
              refine kw_lcmp hC dX8_meet_63 rfl (by omega) (by omega) ?_
              refine kw_if_le (tgt := 69) hC dX8_meet_64 rfl (by decide) (cz_r _ _) ⟨fun c64 => ?_, fun c64 => ?_⟩
              · replace c64 := (cz_le _ _).mp c64
                refine kw_aload_n hC dX8_meet_69 rfl 0 rfl ?_
                refine kw_callV hC (d_X8_keep hD hRS.c.1 hRS.c.2 hRS.n.1 hRS.n.2) gX8_meet_X8_keep ⟨_, rfl⟩ rfl (by decide) (by decide) rfl ⟨rfl, rfl⟩ 0 (by decide +kernel) ⟨by decide, by decide⟩ rfl rfl (Nat.le_of_ble_eq_true rfl) dX8_meet_70 rfl (kd_v (fun S7 hp7 => ?_))
                obtain ⟨hg7, hp7⟩ := hp7
                have hfS7 : Fr fM S S7 := hfS.trans (hg7.mono (fun k i j h => by unfold fK at h; unfold fM; omega))
                have hp27 := hp7
                have k0 : S7 30 0 0 = S 30 0 0 := hg7 30 0 0 (by unfold fK; omega)
                have e41 : ∀ j, S7 41 0 j = S 41 0 j := fun j => hg7 41 0 j (by unfold fK; omega)
                have e42 : ∀ j, S7 42 0 j = S 42 0 j := fun j => hg7 42 0 j (by unfold fK; omega)
                refine kw_aload_n hC dX8_meet_73 rfl 0 rfl ?_
                refine kg_30_2 hC w8 f17 dX8_meet_74 rfl (by decide) (by decide) ?_
                refine kw_bipush hC dX8_meet_77 rfl (by decide) ?_
                refine kw_iload_n hC dX8_meet_79 rfl 1 rfl ?_
                refine kw_imul hC dX8_meet_80 rfl ?_
                refine kw_iload_n hC dX8_meet_81 rfl 2 rfl ?_
                refine kw_iadd hC dX8_meet_82 rfl ?_
                refine kw_iload_n hC dX8_meet_83 rfl 3 rfl ?_
                refine ks_42 hC dX8_meet_84 rfl (by decide) (by decide) (by omega) (by omega) ?_
                refine kw_hv hfS7 (by unfold fM; omega) (fun S8 hfS8 hv8 ho8 => ?_)
                have hvA := hv8
                have hoA := ho8
                refine kw_aload_n hC dX8_meet_85 rfl 0 rfl ?_
                refine kg_30_2 hC w8 f17 dX8_meet_86 rfl (by decide) (by decide) ?_
                refine kw_bipush hC dX8_meet_89 rfl (by decide) ?_
                refine kw_iload_n hC dX8_meet_91 rfl 2 rfl ?_
                refine kw_imul hC dX8_meet_92 rfl ?_
                refine kw_iload_n hC dX8_meet_93 rfl 1 rfl ?_
                refine kw_iadd hC dX8_meet_94 rfl ?_
                refine kw_iload hC dX8_meet_95 rfl 4 rfl ?_
                refine ks_42 hC dX8_meet_97 rfl (by decide) (by decide) (by omega) (by omega) ?_
                refine kw_hv hfS8 (by unfold fM; omega) (fun S9 hfS9 hv9 ho9 => ?_)
                have hK8 := hp27.tr (S' := S9) (fun j => (ho9 43 0 j (by omega)).trans (hoA 43 0 j (by omega))) (fun j => (ho9 46 0 j (by omega)).trans (hoA 46 0 j (by omega))) ((ho9 30 0 4 (by omega)).trans (hoA 30 0 4 (by omega)))
                have hn8 : S9 30 0 0 = S 30 0 0 := ((ho9 30 0 0 (by omega)).trans (hoA 30 0 0 (by omega))).trans k0
                have hk8 : ∀ p, S9 41 0 p = S 41 0 p := fun p => ((ho9 41 0 p (by omega)).trans (hoA 41 0 p (by omega))).trans (e41 p)
                have m1 : S9 42 0 (6 * a + b) = c := (ho9 42 0 _ (by omega)).trans hvA
                have m2 : S9 42 0 (6 * b + a) = d := hv9
                have m3 : ∀ p, p ≠ 6 * a + b → p ≠ 6 * b + a → S9 42 0 p = S 42 0 p := fun p q1 q2 => ((ho9 42 0 p (by omega)).trans (hoA 42 0 p (by omega))).trans (e42 p)
                have hi8 := hK8.ri hRS (by rw [hn8]; exact hRS.set.meet (by omega) (by omega) (by omega) (by omega) hcd (by omega) hk8 m1 m2 m3) (hfS9.mono (fun k i j h => by unfold fM at h; unfold tS; omega))
                refine kw_aload_n hC dX8_meet_98 rfl 0 rfl ?_
                refine kw_iload_n hC dX8_meet_99 rfl 1 rfl ?_
                refine kw_iload_n hC dX8_meet_100 rfl 2 rfl ?_
                refine kw_callV hC (d_X8_meetsAt hD (by omega) (by omega) (by omega) (by omega) hi8) gX8_meet_X8_meetsAt ⟨_, rfl⟩ rfl (by decide) (by decide) rfl ⟨rfl, rfl⟩ 2 (by decide +kernel) ⟨by decide, by decide⟩ rfl rfl (Nat.le_of_ble_eq_true rfl) dX8_meet_101 rfl (kd_ie ?_)
                exact hR9.1 rfl _ _ _ _ dX8_meet_104 ⟨_, rfl, hi8, (hfS9.mono (fun k i j h => by unfold fM at h; unfold tS; omega)), fun x hx => by have e := hx.1.1; have hyes : oMeet a b c d x.1.1 := ⟨⟨by omega, by omega⟩, by omega, by omega, hcd, by omega⟩; unfold aMeet rMeet; rw [if_pos hyes, if_pos hyes, m1, m2]; exact ⟨hK8.ar hRS hx (by rw [hn8]; exact hx.1.meet hn.2 (by omega) (by omega) (by omega) hk8 m1 m2 m3), rfl⟩⟩
              · replace c64 := (not_congr (cz_le _ _)).mp c64
                refine kw_iconst hC dX8_meet_67 rfl ?_
                exact hR9.1 rfl _ _ _ _ dX8_meet_68 ⟨_, rfl, hRS, Fr.rfl _ S, fun x hx => by have e := hx.1.1; have hno : ¬ oMeet a b c d x.1.1 := (fun q => by obtain ⟨⟨q1, q2⟩, q3, q4, q5, q6⟩ := q; omega); unfold aMeet rMeet; rw [if_neg hno, if_neg hno]; exact ⟨hx, rfl⟩⟩
            refine kw_if_ne (tgt := 40) hC dX8_meet_33 rfl (by decide) (by omega) ⟨fun c33 => ?_, fun c33 => ?_⟩
            · refine kw_iconst hC dX8_meet_40 rfl ?_
              refine kw_iload hC dX8_meet_41 rfl 4 rfl ?_
              refine kw_if_ne (tgt := 50) hC dX8_meet_43 rfl (by decide) (by omega) ⟨fun c43 => ?_, fun c43 => ?_⟩
              · refine kw_iconst hC dX8_meet_50 rfl ?_
                refine kw_icmp_ne (tgt := 67) hC dX8_meet_51 rfl (by decide) (by omega) (by omega) ⟨fun c51 => ?_, fun c51 => ?_⟩
                · refine kw_iconst hC dX8_meet_67 rfl ?_
                  exact hR9.1 rfl _ _ _ _ dX8_meet_68 ⟨_, rfl, hRS, Fr.rfl _ S, fun x hx => by have e := hx.1.1; have hno : ¬ oMeet a b c d x.1.1 := (fun q => by obtain ⟨⟨q1, q2⟩, q3, q4, q5, q6⟩ := q; omega); unfold aMeet rMeet; rw [if_neg hno, if_neg hno]; exact ⟨hx, rfl⟩⟩
                · exact hJ54  (by omega)
              · refine kw_iconst hC dX8_meet_46 rfl ?_
                refine kw_goto (tgt := 51) hC dX8_meet_47 rfl (by decide) ?_
                refine kw_icmp_ne (tgt := 67) hC dX8_meet_51 rfl (by decide) (by omega) (by omega) ⟨fun c51 => ?_, fun c51 => ?_⟩
                · refine kw_iconst hC dX8_meet_67 rfl ?_
                  exact hR9.1 rfl _ _ _ _ dX8_meet_68 ⟨_, rfl, hRS, Fr.rfl _ S, fun x hx => by have e := hx.1.1; have hno : ¬ oMeet a b c d x.1.1 := (fun q => by obtain ⟨⟨q1, q2⟩, q3, q4, q5, q6⟩ := q; omega); unfold aMeet rMeet; rw [if_neg hno, if_neg hno]; exact ⟨hx, rfl⟩⟩
                · exact hJ54  (by omega)
            · refine kw_iconst hC dX8_meet_36 rfl ?_
              refine kw_goto (tgt := 41) hC dX8_meet_37 rfl (by decide) ?_
              refine kw_iload hC dX8_meet_41 rfl 4 rfl ?_
              refine kw_if_ne (tgt := 50) hC dX8_meet_43 rfl (by decide) (by omega) ⟨fun c43 => ?_, fun c43 => ?_⟩
              · refine kw_iconst hC dX8_meet_50 rfl ?_
                refine kw_icmp_ne (tgt := 67) hC dX8_meet_51 rfl (by decide) (by omega) (by omega) ⟨fun c51 => ?_, fun c51 => ?_⟩
                · refine kw_iconst hC dX8_meet_67 rfl ?_
                  exact hR9.1 rfl _ _ _ _ dX8_meet_68 ⟨_, rfl, hRS, Fr.rfl _ S, fun x hx => by have e := hx.1.1; have hno : ¬ oMeet a b c d x.1.1 := (fun q => by obtain ⟨⟨q1, q2⟩, q3, q4, q5, q6⟩ := q; omega); unfold aMeet rMeet; rw [if_neg hno, if_neg hno]; exact ⟨hx, rfl⟩⟩
                · exact hJ54  (by omega)
              · refine kw_iconst hC dX8_meet_46 rfl ?_
                refine kw_goto (tgt := 51) hC dX8_meet_47 rfl (by decide) ?_
                refine kw_icmp_ne (tgt := 67) hC dX8_meet_51 rfl (by decide) (by omega) (by omega) ⟨fun c51 => ?_, fun c51 => ?_⟩
                · refine kw_iconst hC dX8_meet_67 rfl ?_
                  exact hR9.1 rfl _ _ _ _ dX8_meet_68 ⟨_, rfl, hRS, Fr.rfl _ S, fun x hx => by have e := hx.1.1; have hno : ¬ oMeet a b c d x.1.1 := (fun q => by obtain ⟨⟨q1, q2⟩, q3, q4, q5, q6⟩ := q; omega); unfold aMeet rMeet; rw [if_neg hno, if_neg hno]; exact ⟨hx, rfl⟩⟩
                · exact hJ54  (by omega)

set_option maxHeartbeats 4000000 in
set_option maxRecDepth 100000 in
theorem d_X8_less {g : wG} (hD : wD g) {S : wSt}  (hRS : RI S) (l : Launch) : Kt l yX8_less wsX8_less ({ frames := 2, cells := 0, slots := 0, locals := 43 } : Room) g S [vr g 30 0] (pI (fun r S' => RI S' ∧ Fr tS S S' ∧ ∀ x, AR S x → AR S' (aLess x) ∧ r = rLess x)) := by
  refine Kt.of (cc := cX8_less) (nL := 1) (ret := (some .int)) (own := RX8) rfl hD (by decide) rfl (Nat.le_of_ble_eq_true rfl) ⟨rfl, rfl⟩ ?_
  intro E hC hR9
  have f11 : Cond.fieldLink RX8 11 "MirrorBenchModel" "mirrors" "I" ∈ wsX8_less := by decide +kernel
  have w8 : ∀ w ∈ wsX80, w ∈ wsX8_less := by decide +kernel
  show Wk E g 1 S 0 [(0, vr g 30 0)] []
  have hfS : Fr fM S S := Fr.rfl _ S
  have hn := hRS.n
  refine kw_aload_n hC dX8_less_0 rfl 0 rfl ?_
  refine kg_30_0 hC w8 f11 dX8_less_1 rfl (by decide) (by decide) ?_
  refine kw_if_ne (tgt := 10) hC dX8_less_4 rfl (by decide) (by omega) ⟨fun c4 => ?_, fun c4 => ?_⟩
  · refine kw_aload_n hC dX8_less_10 rfl 0 rfl ?_
    refine kw_callV hC (d_X8_keep hD hRS.c.1 hRS.c.2 hRS.n.1 hRS.n.2) gX8_less_X8_keep ⟨_, rfl⟩ rfl (by decide) (by decide) rfl ⟨rfl, rfl⟩ 0 (by decide +kernel) ⟨by decide, by decide⟩ rfl rfl (Nat.le_of_ble_eq_true rfl) dX8_less_11 rfl (kd_v (fun S2 hp2 => ?_))
    obtain ⟨hg2, hp2⟩ := hp2
    have hfS2 : Fr fM S S2 := hfS.trans (hg2.mono (fun k i j h => by unfold fK at h; unfold fM; omega))
    have hp27 := hp2
    have k0 : S2 30 0 0 = S 30 0 0 := hg2 30 0 0 (by unfold fK; omega)
    have e41 : ∀ j, S2 41 0 j = S 41 0 j := fun j => hg2 41 0 j (by unfold fK; omega)
    have e42 : ∀ j, S2 42 0 j = S 42 0 j := fun j => hg2 42 0 j (by unfold fK; omega)
    refine kw_aload_n hC dX8_less_14 rfl 0 rfl ?_
    refine kw_dup hC dX8_less_15 rfl rfl ?_
    refine kg_30_0 hC w8 f11 dX8_less_16 rfl (by decide) (by decide) ?_
    refine kw_chi (z' := S 30 0 0) k0 ?_
    refine kw_iconst hC dX8_less_19 rfl ?_
    refine kw_isub hC dX8_less_20 rfl ?_
    refine kp_30_0 hC w8 f11 dX8_less_21 rfl (by decide) (by decide) ?_
    refine kw_hv hfS2 (by unfold fM; omega) (fun S3 hfS3 hv3 ho3 => ?_)
    have hK8 := hp27.tr (S' := S3) (fun j => ho3 43 0 j (by omega)) (fun j => ho3 46 0 j (by omega)) (ho3 30 0 4 (by omega))
    have hn8 := hv3
    have h41 : ∀ p, S3 41 0 p = S 41 0 p := fun p => (ho3 41 0 p (by omega)).trans (e41 p)
    have h42 : ∀ p, S3 42 0 p = S 42 0 p := fun p => (ho3 42 0 p (by omega)).trans (e42 p)
    have hi8 := hK8.ri hRS (by rw [hn8]; exact (hRS.set.congr (n' := S 30 0 0) rfl (fun i _ _ => h41 i) (fun i _ _ => h42 i)).less (by omega)) (hfS3.mono (fun k i j h => by unfold fM at h; unfold tS; omega))
    refine kw_aload_n hC dX8_less_24 rfl 0 rfl ?_
    refine kg_30_0 hC w8 f11 dX8_less_25 rfl (by decide) (by decide) ?_
    refine kw_chi (z' := S 30 0 0 - 1) hn8 ?_
    exact hR9.1 rfl _ _ _ _ dX8_less_28 ⟨_, rfl, hi8, (hfS3.mono (fun k i j h => by unfold fM at h; unfold tS; omega)), fun x hx => by have e := hx.1.1; unfold aLess rLess; rw [if_neg (by omega), if_neg (by omega)]; exact ⟨hK8.ar hRS hx (by rw [hn8]; exact hx.1.less h41 (fun i j _ _ _ _ => h42 _)), by omega⟩⟩
  · refine kw_bipush hC dX8_less_7 rfl (by decide) ?_
    exact hR9.1 rfl _ _ _ _ dX8_less_9 ⟨_, rfl, hRS, Fr.rfl _ S, fun x hx => by have e := hx.1.1; have e4 := hx.2.1; unfold aLess rLess; rw [if_pos (by omega), if_pos (by omega)]; exact ⟨hx, rfl⟩⟩

set_option maxHeartbeats 4000000 in
set_option maxRecDepth 100000 in
theorem d_X8_kind {g : wG} (hD : wD g) {S : wSt} {a b : Int} (ha : -2147483648 ≤ a ∧ a ≤ 2147483647) (hb : -2147483648 ≤ b ∧ b ≤ 2147483647) (hRS : RI S) (l : Launch) : Kt l yX8_kind wsX8_kind ({ frames := 2, cells := 0, slots := 0, locals := 47 } : Room) g S [vr g 30 0, vi a, vi b] (pI (fun r S' => RI S' ∧ Fr tS S S' ∧ ∀ x, AR S x → AR S' (aKind a b x) ∧ r = rKind a b x)) := by
  refine Kt.of (cc := cX8_kind) (nL := 4) (ret := (some .int)) (own := RX8) rfl hD (by decide) rfl (Nat.le_of_ble_eq_true rfl) ⟨rfl, rfl⟩ ?_
  intro E hC hR9
  have f14 : Cond.fieldLink RX8 14 "MirrorBenchModel" "kinds" "[I" ∈ wsX8_kind := by decide +kernel
  have l28 : Cond.constantLong RX8 28 (Int64.ofInt (2)) ∈ wsX8_kind := by decide +kernel
  have w8 : ∀ w ∈ wsX80, w ∈ wsX8_kind := by decide +kernel
  show Wk E g 4 S 0 [(0, vr g 30 0), (1, vi a), (2, vi b)] []
  have hfS : Fr fM S S := Fr.rfl _ S
  have hn := hRS.n
  refine kw_aload_n hC dX8_kind_0 rfl 0 rfl ?_
  refine kw_iload_n hC dX8_kind_1 rfl 1 rfl ?_
  refine kw_i2l hC dX8_kind_2 rfl (by omega) ?_
  refine kw_callV hC (d_X8_isMirror hD (by omega) (by omega) (by omega)) gX8_kind_X8_isMirror ⟨_, rfl⟩ rfl (by decide) (by decide) rfl ⟨rfl, rfl⟩ 1 (by decide +kernel) ⟨by decide, by decide⟩ rfl rfl (Nat.le_of_ble_eq_true rfl) dX8_kind_3 rfl (kd_ie ?_)
  refine kw_ifeq_b (tgt := 21) hC dX8_kind_6 rfl (by decide) ⟨fun c6 => ?_, fun c6 => ?_⟩
  · refine kw_iconst hC dX8_kind_21 rfl ?_
    exact hR9.1 rfl _ _ _ _ dX8_kind_22 ⟨_, rfl, hRS, Fr.rfl _ S, fun x hx => by have e := hx.1.1; unfold aKind rKind; rw [if_neg (by omega), if_neg (by omega)]; exact ⟨hx, rfl⟩⟩
  · refine kw_iload_n hC dX8_kind_9 rfl 2 rfl ?_
    refine kw_i2l hC dX8_kind_10 rfl (by omega) ?_
    refine kw_lconst (z := 0) hC dX8_kind_11 rfl rfl ?_
    refine kw_ldc2 (z := 2) hC dX8_kind_12 rfl l28 ?_
    refine kw_callS hC (d_X8_in hD (by omega) (by omega) (by omega)) gX8_kind_X8_in rfl ⟨rfl, rfl⟩ 3 (by decide +kernel) ⟨by decide, by decide⟩ rfl rfl (Nat.le_of_ble_eq_true rfl) dX8_kind_15 rfl (kd_ie ?_)
    refine kw_ifne_b (tgt := 23) hC dX8_kind_18 rfl (by decide) ⟨fun c18 => ?_, fun c18 => ?_⟩
    · refine kw_aload_n hC dX8_kind_23 rfl 0 rfl ?_
      refine kg_30_1 hC w8 f14 dX8_kind_24 rfl (by decide) (by decide) ?_
      refine kw_iload_n hC dX8_kind_27 rfl 1 rfl ?_
      refine ka_41 hC dX8_kind_28 rfl (by decide) (by decide) (by omega) (by omega) ?_
      refine kw_istore_n (lv' := [(3, _), (0, _), (1, _), (2, _)]) hC dX8_kind_29 rfl (by decide) rfl ?_
      have a0k : 0 ≤ a := by omega
      have a1k : a < 6 := by omega
      refine kw_aload_n hC dX8_kind_30 rfl 1 rfl ?_
      refine kg_30_1 hC w8 f14 dX8_kind_31 rfl (by decide) (by decide) ?_
      refine kw_iload_n hC dX8_kind_34 rfl 2 rfl ?_
      refine kw_iload_n hC dX8_kind_35 rfl 3 rfl ?_
      refine ks_41 hC dX8_kind_36 rfl (by decide) (by decide) (by omega) (by omega) ?_
      refine kw_hv hfS (by unfold fM; omega) (fun S3 hfS3 hv3 ho3 => ?_)
      have hk8 := hv3
      have hko8 : ∀ p, p ≠ a → S3 41 0 p = S 41 0 p := fun p hp => ho3 41 0 p (by omega)
      have hoo : ∀ k j, k ≠ 41 → S3 k 0 j = S k 0 j := fun k j hk => ho3 k 0 j (by omega)
      have hi8 := hRS.kind a0k a1k (by omega) hk8 hko8 hoo
      refine kw_iload_n hC dX8_kind_37 rfl 0 rfl ?_
      exact hR9.1 rfl _ _ _ _ dX8_kind_38 ⟨_, rfl, hi8, (hfS3.mono (fun k i j h => by unfold fM at h; unfold tS; omega)), fun x hx => by have e := hx.1.1; unfold aKind rKind; rw [if_pos (by omega), if_pos (by omega)]; exact ⟨hx.kind hk8 hko8 hoo, hx.1.2.1 a (by omega) (by omega)⟩⟩
    · refine kw_iconst hC dX8_kind_21 rfl ?_
      exact hR9.1 rfl _ _ _ _ dX8_kind_22 ⟨_, rfl, hRS, Fr.rfl _ S, fun x hx => by have e := hx.1.1; unfold aKind rKind; rw [if_neg (by omega), if_neg (by omega)]; exact ⟨hx, rfl⟩⟩

set_option maxHeartbeats 4000000 in
set_option maxRecDepth 100000 in
theorem d_X8_undo {g : wG} (hD : wD g) {S : wSt}  (hRS : RI S) (l : Launch) : Kt l yX8_undo wsX8_undo ({ frames := 1, cells := 0, slots := 0, locals := 21 } : Room) g S [vr g 30 0] (pI (fun r S' => RI S' ∧ Fr tS S S' ∧ ∀ x, AR S x → AR S' (aUndo x) ∧ r = rUndo x)) := by
  refine Kt.of (cc := cX8_undo) (nL := 3) (ret := (some .int)) (own := RX8) rfl hD (by decide) rfl (Nat.le_of_ble_eq_true rfl) ⟨rfl, rfl⟩ ?_
  intro E hC hR9
  have f1 : Cond.fieldLink RX8 1 "MirrorBenchModel" "changes" "I" ∈ wsX8_undo := by decide +kernel
  have f7 : Cond.fieldLink RX8 7 "MirrorBenchModel" "kept" "[I" ∈ wsX8_undo := by decide +kernel
  have f11 : Cond.fieldLink RX8 11 "MirrorBenchModel" "mirrors" "I" ∈ wsX8_undo := by decide +kernel
  have f14 : Cond.fieldLink RX8 14 "MirrorBenchModel" "kinds" "[I" ∈ wsX8_undo := by decide +kernel
  have f17 : Cond.fieldLink RX8 17 "MirrorBenchModel" "meets" "[I" ∈ wsX8_undo := by decide +kernel
  have w8 : ∀ w ∈ wsX80, w ∈ wsX8_undo := by decide +kernel
  show Wk E g 3 S 0 [(0, vr g 30 0)] []
  have hfS : Fr fM S S := Fr.rfl _ S
  have hn := hRS.n
  refine kw_aload_n hC dX8_undo_0 rfl 0 rfl ?_
  refine kg_30_4 hC w8 f1 dX8_undo_1 rfl (by decide) (by decide) ?_
  refine kw_if_ne (tgt := 10) hC dX8_undo_4 rfl (by decide) (by have := hRS.c; omega) ⟨fun c4 => ?_, fun c4 => ?_⟩
  · have hc := hRS.c
    refine kw_aload_n hC dX8_undo_10 rfl 0 rfl ?_
    refine kw_dup hC dX8_undo_11 rfl rfl ?_
    refine kg_30_4 hC w8 f1 dX8_undo_12 rfl (by decide) (by decide) ?_
    refine kw_iconst hC dX8_undo_15 rfl ?_
    refine kw_isub hC dX8_undo_16 rfl ?_
    refine kp_30_4 hC w8 f1 dX8_undo_17 rfl (by decide) (by decide) ?_
    refine kw_hv hfS (by unfold fM; omega) (fun S2 hfS2 hv2 ho2 => ?_)
    have k4 := hv2
    have ho17 := ho2
    refine kw_bipush hC dX8_undo_20 rfl (by decide) ?_
    refine kw_aload_n hC dX8_undo_22 rfl 0 rfl ?_
    refine kg_30_4 hC w8 f1 dX8_undo_23 rfl (by decide) (by decide) ?_
    refine kw_chi (z' := S 30 0 4 - 1) k4 ?_
    refine kw_imul hC dX8_undo_26 rfl ?_
    refine kw_istore_n (lv' := [(1, _), (0, _)]) hC dX8_undo_27 rfl (by decide) rfl ?_
    refine kw_aload_n hC dX8_undo_28 rfl 1 rfl ?_
    refine kw_aload_n hC dX8_undo_29 rfl 1 rfl ?_
    refine kg_30_3 hC w8 f7 dX8_undo_30 rfl (by decide) (by decide) ?_
    refine kw_iload_n hC dX8_undo_33 rfl 0 rfl ?_
    refine ka_43 hC dX8_undo_34 rfl (by decide) (by decide) (by omega) (by omega) ?_
    refine kw_chi (z' := S 43 0 (43 * (S 30 0 4 - 1))) (ho2 43 0 _ (by omega)) ?_
    refine kp_30_0 hC w8 f11 dX8_undo_35 rfl (by decide) (by decide) ?_
    refine kw_hv hfS2 (by unfold fM; omega) (fun S3 hfS3 hv3 ho3 => ?_)
    have kn := hv3
    have k4 := (ho3 30 0 4 (by omega)).trans k4
    have e43 : ∀ j, S3 43 0 j = S 43 0 j := fun j => (ho3 43 0 j (by omega)).trans (ho17 43 0 j (by omega))
    refine kw_iconst hC dX8_undo_38 rfl ?_
    refine kw_istore_n (lv' := [(2, _), (1, _), (0, _)]) hC dX8_undo_39 rfl (by decide) rfl ?_
    have hL40 : ∀ (n40 : Nat) (x : Int) (W40 : wSt), Fr fM S W40 → (0 ≤ x) → (x ≤ 6) → (W40 30 0 4 = S 30 0 4 - 1) → (W40 30 0 0 = S 43 0 (43 * (S 30 0 4 - 1))) → (∀ j, W40 43 0 j = S 43 0 j) → (∀ j, 0 ≤ j → j < x → W40 41 0 j = S 43 0 (43 * (S 30 0 4 - 1) + 1 + j)) → 6 - x < (n40 : Int) → Wk E g 3 W40 40 [(0, vr g 30 0), (1, vi (43 * (S 30 0 4 - 1))), (2, vi x)] [] := by
      intro n40
      induction n40 with
      | zero => intro x W40 hfW40 x0 x1 k4 kn e43 hk hm40; exact absurd hm40 (by omega)
      | succ n40 ih40 =>
        intro x W40 hfW40 x0 x1 k4 kn e43 hk hm40
        refine kw_iload_n hC dX8_undo_40 rfl 2 rfl ?_
        refine kw_bipush hC dX8_undo_41 rfl (by decide) ?_
        refine kw_icmp_ge (tgt := 68) hC dX8_undo_43 rfl (by decide) (by omega) (by omega) ⟨fun c43 => ?_, fun c43 => ?_⟩
        · refine kw_iconst hC dX8_undo_68 rfl ?_
          refine kw_istore_n (lv' := [(2, _), (0, _), (1, _)]) hC dX8_undo_69 rfl (by decide) rfl ?_
          have hL70 : ∀ (n70 : Nat) (x : Int) (W70 : wSt), Fr fM S W70 → (0 ≤ x) → (x ≤ 36) → (W70 30 0 4 = S 30 0 4 - 1) → (W70 30 0 0 = S 43 0 (43 * (S 30 0 4 - 1))) → (∀ j, W70 43 0 j = S 43 0 j) → (∀ j, 0 ≤ j → j < 6 → W70 41 0 j = S 43 0 (43 * (S 30 0 4 - 1) + 1 + j)) → (∀ j, 0 ≤ j → j < x → W70 42 0 j = S 43 0 (43 * (S 30 0 4 - 1) + 7 + j)) → 36 - x < (n70 : Int) → Wk E g 3 W70 70 [(0, vr g 30 0), (1, vi (43 * (S 30 0 4 - 1))), (2, vi x)] [] := by
            intro n70
            induction n70 with
            | zero => intro x W70 hfW70 x0 x1 k4 kn e43 hk hm hm70; exact absurd hm70 (by omega)
            | succ n70 ih70 =>
              intro x W70 hfW70 x0 x1 k4 kn e43 hk hm hm70
              refine kw_iload_n hC dX8_undo_70 rfl 2 rfl ?_
              refine kw_bipush hC dX8_undo_71 rfl (by decide) ?_
              refine kw_icmp_ge (tgt := 99) hC dX8_undo_73 rfl (by decide) (by omega) (by omega) ⟨fun c73 => ?_, fun c73 => ?_⟩
              · refine kw_aload_n hC dX8_undo_99 rfl 0 rfl ?_
                refine kw_callV hC (d_X8_emptyWords hD ) gX8_undo_X8_emptyWords ⟨_, rfl⟩ rfl (by decide) (by decide) rfl ⟨rfl, rfl⟩ 0 (by decide +kernel) ⟨by decide, by decide⟩ rfl rfl (Nat.le_of_ble_eq_true rfl) dX8_undo_100 rfl (kd_v (fun S6 hp6 => ?_))
                obtain ⟨hg6, hp6⟩ := hp6
                have hfS6 : Fr fM S S6 := hfW70.trans (hg6.mono (fun k i j h => by unfold fE at h; unfold fM; omega))
                have g4 : S6 30 0 4 = S 30 0 4 - 1 := (hg6 30 0 4 (by unfold fE; omega)).trans k4
                have gn : S6 30 0 0 = S 43 0 (43 * (S 30 0 4 - 1)) := (hg6 30 0 0 (by unfold fE; omega)).trans kn
                have g41 : ∀ j, 0 ≤ j → j < 6 → S6 41 0 j = S 43 0 (43 * (S 30 0 4 - 1) + 1 + j) := fun j j0 j1 => (hg6 41 0 j (by unfold fE; omega)).trans (hk j j0 j1)
                have g42 : ∀ j, 0 ≤ j → j < 36 → S6 42 0 j = S 43 0 (43 * (S 30 0 4 - 1) + 7 + j) := fun j j0 j1 => (hg6 42 0 j (by unfold fE; omega)).trans (hm j j0 (by omega))
                have g43 : ∀ j, S6 43 0 j = S 43 0 j := fun j => (hg6 43 0 j (by unfold fE; omega)).trans (e43 j)
                have hi8 := hRS.undo c4 g4 gn g41 g42 g43 hp6 (hfS6.mono (fun k i j h => by unfold fM at h; unfold tS; omega))
                refine kw_aload_n hC dX8_undo_103 rfl 0 rfl ?_
                refine kg_30_4 hC w8 f1 dX8_undo_104 rfl (by decide) (by decide) ?_
                refine kw_chi (z' := S 30 0 4 - 1) g4 ?_
                exact hR9.1 rfl _ _ _ _ dX8_undo_107 ⟨_, rfl, hi8, (hfS6.mono (fun k i j h => by unfold fM at h; unfold tS; omega)), fun x hx => by have e := hx.2.1; unfold aUndo rUndo; rw [if_neg (by omega), if_neg (by omega)]; exact ⟨hx.undo hRS c4 g4 gn g41 g42 g43, by omega⟩⟩
              · refine kw_aload_n hC dX8_undo_76 rfl 0 rfl ?_
                refine kg_30_2 hC w8 f17 dX8_undo_77 rfl (by decide) (by decide) ?_
                refine kw_iload_n hC dX8_undo_80 rfl 2 rfl ?_
                refine kw_aload_n hC dX8_undo_81 rfl 0 rfl ?_
                refine kg_30_3 hC w8 f7 dX8_undo_82 rfl (by decide) (by decide) ?_
                refine kw_iload_n hC dX8_undo_85 rfl 1 rfl ?_
                refine kw_bipush hC dX8_undo_86 rfl (by decide) ?_
                refine kw_iadd hC dX8_undo_88 rfl ?_
                refine kw_iload_n hC dX8_undo_89 rfl 2 rfl ?_
                refine kw_iadd hC dX8_undo_90 rfl ?_
                refine ka_43 hC dX8_undo_91 rfl (by decide) (by decide) (by omega) (by omega) ?_
                refine ks_42 hC dX8_undo_92 rfl (by decide) (by decide) (by omega) (by omega) ?_
                refine kw_hv hfW70 (by unfold fM; omega) (fun S7 hfS7 hv7 ho7 => ?_)
                refine kw_iinc (lv' := [(2, _), (0, _), (1, _)]) hC dX8_undo_93 rfl 2 rfl (by decide) rfl ?_
                refine kw_goto (tgt := 70) hC dX8_undo_96 rfl (by decide) ?_
                refine kw_lv [1, 2, 0] rfl ?_
                exact ih70 (x + 1) S7 hfS7 (by omega) (by omega) ((ho7 30 0 4 (by omega)).trans k4) ((ho7 30 0 0 (by omega)).trans kn) (fun j => (ho7 43 0 j (by omega)).trans (e43 j)) (fun j j0 j1 => (ho7 41 0 j (by omega)).trans (hk j j0 j1)) (ext_p (fun j z => z = S 43 0 (43 * (S 30 0 4 - 1) + 7 + j)) hm (fun j hj => ho7 42 0 j (by omega)) (by rw [hv7]; exact e43 _)) (by omega)
          refine kw_lv [1, 2, 0] rfl ?_
          exact hL70 37 0 W40 hfW40 (by omega) (by omega) k4 kn e43 (fun j j0 j1 => hk j j0 (by omega)) (fun j _ _ => by omega) (by omega)
        · refine kw_aload_n hC dX8_undo_46 rfl 0 rfl ?_
          refine kg_30_1 hC w8 f14 dX8_undo_47 rfl (by decide) (by decide) ?_
          refine kw_iload_n hC dX8_undo_50 rfl 2 rfl ?_
          refine kw_aload_n hC dX8_undo_51 rfl 0 rfl ?_
          refine kg_30_3 hC w8 f7 dX8_undo_52 rfl (by decide) (by decide) ?_
          refine kw_iload_n hC dX8_undo_55 rfl 1 rfl ?_
          refine kw_iconst hC dX8_undo_56 rfl ?_
          refine kw_iadd hC dX8_undo_57 rfl ?_
          refine kw_iload_n hC dX8_undo_58 rfl 2 rfl ?_
          refine kw_iadd hC dX8_undo_59 rfl ?_
          refine ka_43 hC dX8_undo_60 rfl (by decide) (by decide) (by omega) (by omega) ?_
          refine ks_41 hC dX8_undo_61 rfl (by decide) (by decide) (by omega) (by omega) ?_
          refine kw_hv hfW40 (by unfold fM; omega) (fun S8 hfS8 hv8 ho8 => ?_)
          refine kw_iinc (lv' := [(2, _), (0, _), (1, _)]) hC dX8_undo_62 rfl 2 rfl (by decide) rfl ?_
          refine kw_goto (tgt := 40) hC dX8_undo_65 rfl (by decide) ?_
          refine kw_lv [1, 2, 0] rfl ?_
          exact ih40 (x + 1) S8 hfS8 (by omega) (by omega) ((ho8 30 0 4 (by omega)).trans k4) ((ho8 30 0 0 (by omega)).trans kn) (fun j => (ho8 43 0 j (by omega)).trans (e43 j)) (ext_p (fun j z => z = S 43 0 (43 * (S 30 0 4 - 1) + 1 + j)) hk (fun j hj => ho8 41 0 j (by omega)) (by rw [hv8]; exact e43 _)) (by omega)
    refine kw_lv [2, 1, 0] rfl ?_
    exact hL40 7 0 S3 hfS3 (by omega) (by omega) k4 kn e43 (fun j _ _ => by omega) (by omega)
  · refine kw_bipush hC dX8_undo_7 rfl (by decide) ?_
    exact hR9.1 rfl _ _ _ _ dX8_undo_9 ⟨_, rfl, hRS, Fr.rfl _ S, fun x hx => by have e := hx.2.1; have e4 := hx.2.1; unfold aUndo rUndo; rw [if_pos (by omega), if_pos (by omega)]; exact ⟨hx, rfl⟩⟩

set_option maxHeartbeats 4000000 in
set_option maxRecDepth 100000 in
theorem d_X8_told {g : wG} (hD : wD g) {S : wSt} {a b c : Int} (ha : -2147483648 ≤ a ∧ a ≤ 2147483647) (hb : -2147483648 ≤ b ∧ b ≤ 2147483647) (hc : -2147483648 ≤ c ∧ c ≤ 2147483647) (hRS : RI S) (l : Launch) : Kt l yX8_told wsX8_told ({ frames := 2, cells := 0, slots := 0, locals := 47 } : Room) g S [vr g 30 0, vi a, vi b, vi c] (pI (fun r S' => S' = S ∧ ∀ x, AR S x → r = rTold a b c x)) := by
  refine Kt.of (cc := cX8_told) (nL := 4) (ret := (some .int)) (own := RX8) rfl hD (by decide) rfl (Nat.le_of_ble_eq_true rfl) ⟨rfl, rfl⟩ ?_
  intro E hC hR9
  have f11 : Cond.fieldLink RX8 11 "MirrorBenchModel" "mirrors" "I" ∈ wsX8_told := by decide +kernel
  have f14 : Cond.fieldLink RX8 14 "MirrorBenchModel" "kinds" "[I" ∈ wsX8_told := by decide +kernel
  have f17 : Cond.fieldLink RX8 17 "MirrorBenchModel" "meets" "[I" ∈ wsX8_told := by decide +kernel
  have l28 : Cond.constantLong RX8 28 (Int64.ofInt (2)) ∈ wsX8_told := by decide +kernel
  have w8 : ∀ w ∈ wsX80, w ∈ wsX8_told := by decide +kernel
  show Wk E g 4 S 0 [(0, vr g 30 0), (1, vi a), (2, vi b), (3, vi c)] []
  have hn := hRS.n
  refine kw_iload_n hC dX8_told_0 rfl 1 rfl ?_
  refine kw_iconst hC dX8_told_1 rfl ?_
  refine kw_icmp_ne (tgt := 10) hC dX8_told_2 rfl (by decide) (by omega) (by omega) ⟨fun c2 => ?_, fun c2 => ?_⟩
  · refine kw_iload_n hC dX8_told_10 rfl 1 rfl ?_
    refine kw_i2l hC dX8_told_11 rfl (by omega) ?_
    refine kw_lconst (z := 0) hC dX8_told_12 rfl rfl ?_
    refine kw_ldc2 (z := 2) hC dX8_told_13 rfl l28 ?_
    refine kw_callS hC (d_X8_in hD (by omega) (by omega) (by omega)) gX8_told_X8_in rfl ⟨rfl, rfl⟩ 3 (by decide +kernel) ⟨by decide, by decide⟩ rfl rfl (Nat.le_of_ble_eq_true rfl) dX8_told_16 rfl (kd_ie ?_)
    refine kw_ifeq_b (tgt := 44) hC dX8_told_19 rfl (by decide) ⟨fun c19 => ?_, fun c19 => ?_⟩
    · refine kw_iconst hC dX8_told_44 rfl ?_
      exact hR9.1 rfl _ _ _ _ dX8_told_45 ⟨_, rfl, rfl, fun x hx => by have e := hx.1.1; unfold rTold; rw [if_neg (by omega), if_neg (by omega)]⟩
    · refine kw_aload_n hC dX8_told_22 rfl 0 rfl ?_
      refine kw_iload_n hC dX8_told_23 rfl 2 rfl ?_
      refine kw_i2l hC dX8_told_24 rfl (by omega) ?_
      refine kw_callV hC (d_X8_isMirror hD (by omega) (by omega) (by omega)) gX8_told_X8_isMirror ⟨_, rfl⟩ rfl (by decide) (by decide) rfl ⟨rfl, rfl⟩ 1 (by decide +kernel) ⟨by decide, by decide⟩ rfl rfl (Nat.le_of_ble_eq_true rfl) dX8_told_25 rfl (kd_ie ?_)
      refine kw_ifeq_b (tgt := 44) hC dX8_told_28 rfl (by decide) ⟨fun c28 => ?_, fun c28 => ?_⟩
      · refine kw_iconst hC dX8_told_44 rfl ?_
        exact hR9.1 rfl _ _ _ _ dX8_told_45 ⟨_, rfl, rfl, fun x hx => by have e := hx.1.1; unfold rTold; rw [if_neg (by omega), if_neg (by omega)]⟩
      · refine kw_iload_n hC dX8_told_31 rfl 1 rfl ?_
        refine kw_if_le (tgt := 46) hC dX8_told_32 rfl (by decide) (by omega) ⟨fun c32 => ?_, fun c32 => ?_⟩
        · refine kw_iload_n hC dX8_told_46 rfl 1 rfl ?_
          refine kw_if_ne (tgt := 59) hC dX8_told_47 rfl (by decide) (by omega) ⟨fun c47 => ?_, fun c47 => ?_⟩
          · refine kw_iload_n hC dX8_told_59 rfl 1 rfl ?_
            refine kw_iconst hC dX8_told_60 rfl ?_
            refine kw_icmp_ne (tgt := 87) hC dX8_told_61 rfl (by decide) (by omega) (by omega) ⟨fun c61 => ?_, fun c61 => ?_⟩
            · refine kw_aload_n hC dX8_told_87 rfl 0 rfl ?_
              refine kw_iload_n hC dX8_told_88 rfl 2 rfl ?_
              refine kw_iload_n hC dX8_told_89 rfl 3 rfl ?_
              refine kw_callV hC (d_X8_meetsAt hD (by omega) (by omega) (by omega) (by omega) hRS) gX8_told_X8_meetsAt ⟨_, rfl⟩ rfl (by decide) (by decide) rfl ⟨rfl, rfl⟩ 2 (by decide +kernel) ⟨by decide, by decide⟩ rfl rfl (Nat.le_of_ble_eq_true rfl) dX8_told_90 rfl (kd_ie ?_)
              exact hR9.1 rfl _ _ _ _ dX8_told_93 ⟨_, rfl, rfl, fun x hx => by have e := hx.1.1; have hk := hx.1.2.1; have hm := hx.1.2.2; unfold rTold; (repeat' split) <;> first | omega | exact hk b (by omega) (by omega) | exact hm b c (by omega) (by omega) (by omega) (by omega) | rw [hm b c (by omega) (by omega) (by omega) (by omega), hm c b (by omega) (by omega) (by omega) (by omega)]⟩
            · refine kw_iload_n hC dX8_told_64 rfl 2 rfl ?_
              refine kw_iload_n hC dX8_told_65 rfl 3 rfl ?_
              refine kw_icmp_ne (tgt := 73) hC dX8_told_66 rfl (by decide) (by omega) (by omega) ⟨fun c66 => ?_, fun c66 => ?_⟩
              · refine kw_aload_n hC dX8_told_73 rfl 0 rfl ?_
                refine kg_30_2 hC w8 f17 dX8_told_74 rfl (by decide) (by decide) ?_
                refine kw_bipush hC dX8_told_77 rfl (by decide) ?_
                refine kw_iload_n hC dX8_told_79 rfl 2 rfl ?_
                refine kw_imul hC dX8_told_80 rfl ?_
                refine kw_iload_n hC dX8_told_81 rfl 3 rfl ?_
                refine kw_iadd hC dX8_told_82 rfl ?_
                refine ka_42 hC dX8_told_83 rfl (by decide) (by decide) (by omega) (by omega) ?_
                refine kw_goto (tgt := 93) hC dX8_told_84 rfl (by decide) ?_
                exact hR9.1 rfl _ _ _ _ dX8_told_93 ⟨_, rfl, rfl, fun x hx => by have e := hx.1.1; have hk := hx.1.2.1; have hm := hx.1.2.2; unfold rTold; (repeat' split) <;> first | omega | exact hk b (by omega) (by omega) | exact hm b c (by omega) (by omega) (by omega) (by omega) | rw [hm b c (by omega) (by omega) (by omega) (by omega), hm c b (by omega) (by omega) (by omega) (by omega)]⟩
              · refine kw_iconst hC dX8_told_69 rfl ?_
                refine kw_goto (tgt := 93) hC dX8_told_70 rfl (by decide) ?_
                exact hR9.1 rfl _ _ _ _ dX8_told_93 ⟨_, rfl, rfl, fun x hx => by have e := hx.1.1; have hk := hx.1.2.1; have hm := hx.1.2.2; unfold rTold; (repeat' split) <;> first | omega | exact hk b (by omega) (by omega) | exact hm b c (by omega) (by omega) (by omega) (by omega) | rw [hm b c (by omega) (by omega) (by omega) (by omega), hm c b (by omega) (by omega) (by omega) (by omega)]⟩
          · refine kw_aload_n hC dX8_told_50 rfl 0 rfl ?_
            refine kg_30_1 hC w8 f14 dX8_told_51 rfl (by decide) (by decide) ?_
            refine kw_iload_n hC dX8_told_54 rfl 2 rfl ?_
            refine ka_41 hC dX8_told_55 rfl (by decide) (by decide) (by omega) (by omega) ?_
            refine kw_goto (tgt := 93) hC dX8_told_56 rfl (by decide) ?_
            exact hR9.1 rfl _ _ _ _ dX8_told_93 ⟨_, rfl, rfl, fun x hx => by have e := hx.1.1; have hk := hx.1.2.1; have hm := hx.1.2.2; unfold rTold; (repeat' split) <;> first | omega | exact hk b (by omega) (by omega) | exact hm b c (by omega) (by omega) (by omega) (by omega) | rw [hm b c (by omega) (by omega) (by omega) (by omega), hm c b (by omega) (by omega) (by omega) (by omega)]⟩
        · refine kw_aload_n hC dX8_told_35 rfl 0 rfl ?_
          refine kw_iload_n hC dX8_told_36 rfl 3 rfl ?_
          refine kw_i2l hC dX8_told_37 rfl (by omega) ?_
          refine kw_callV hC (d_X8_isMirror hD (by omega) (by omega) (by omega)) gX8_told_X8_isMirror ⟨_, rfl⟩ rfl (by decide) (by decide) rfl ⟨rfl, rfl⟩ 1 (by decide +kernel) ⟨by decide, by decide⟩ rfl rfl (Nat.le_of_ble_eq_true rfl) dX8_told_38 rfl (kd_ie ?_)
          refine kw_ifne_b (tgt := 46) hC dX8_told_41 rfl (by decide) ⟨fun c41 => ?_, fun c41 => ?_⟩
          · refine kw_iload_n hC dX8_told_46 rfl 1 rfl ?_
            refine kw_if_ne (tgt := 59) hC dX8_told_47 rfl (by decide) (by omega) ⟨fun c47 => ?_, fun c47 => ?_⟩
            · refine kw_iload_n hC dX8_told_59 rfl 1 rfl ?_
              refine kw_iconst hC dX8_told_60 rfl ?_
              refine kw_icmp_ne (tgt := 87) hC dX8_told_61 rfl (by decide) (by omega) (by omega) ⟨fun c61 => ?_, fun c61 => ?_⟩
              · refine kw_aload_n hC dX8_told_87 rfl 0 rfl ?_
                refine kw_iload_n hC dX8_told_88 rfl 2 rfl ?_
                refine kw_iload_n hC dX8_told_89 rfl 3 rfl ?_
                refine kw_callV hC (d_X8_meetsAt hD (by omega) (by omega) (by omega) (by omega) hRS) gX8_told_X8_meetsAt ⟨_, rfl⟩ rfl (by decide) (by decide) rfl ⟨rfl, rfl⟩ 2 (by decide +kernel) ⟨by decide, by decide⟩ rfl rfl (Nat.le_of_ble_eq_true rfl) dX8_told_90 rfl (kd_ie ?_)
                exact hR9.1 rfl _ _ _ _ dX8_told_93 ⟨_, rfl, rfl, fun x hx => by have e := hx.1.1; have hk := hx.1.2.1; have hm := hx.1.2.2; unfold rTold; (repeat' split) <;> first | omega | exact hk b (by omega) (by omega) | exact hm b c (by omega) (by omega) (by omega) (by omega) | rw [hm b c (by omega) (by omega) (by omega) (by omega), hm c b (by omega) (by omega) (by omega) (by omega)]⟩
              · refine kw_iload_n hC dX8_told_64 rfl 2 rfl ?_
                refine kw_iload_n hC dX8_told_65 rfl 3 rfl ?_
                refine kw_icmp_ne (tgt := 73) hC dX8_told_66 rfl (by decide) (by omega) (by omega) ⟨fun c66 => ?_, fun c66 => ?_⟩
                · refine kw_aload_n hC dX8_told_73 rfl 0 rfl ?_
                  refine kg_30_2 hC w8 f17 dX8_told_74 rfl (by decide) (by decide) ?_
                  refine kw_bipush hC dX8_told_77 rfl (by decide) ?_
                  refine kw_iload_n hC dX8_told_79 rfl 2 rfl ?_
                  refine kw_imul hC dX8_told_80 rfl ?_
                  refine kw_iload_n hC dX8_told_81 rfl 3 rfl ?_
                  refine kw_iadd hC dX8_told_82 rfl ?_
                  refine ka_42 hC dX8_told_83 rfl (by decide) (by decide) (by omega) (by omega) ?_
                  refine kw_goto (tgt := 93) hC dX8_told_84 rfl (by decide) ?_
                  exact hR9.1 rfl _ _ _ _ dX8_told_93 ⟨_, rfl, rfl, fun x hx => by have e := hx.1.1; have hk := hx.1.2.1; have hm := hx.1.2.2; unfold rTold; (repeat' split) <;> first | omega | exact hk b (by omega) (by omega) | exact hm b c (by omega) (by omega) (by omega) (by omega) | rw [hm b c (by omega) (by omega) (by omega) (by omega), hm c b (by omega) (by omega) (by omega) (by omega)]⟩
                · refine kw_iconst hC dX8_told_69 rfl ?_
                  refine kw_goto (tgt := 93) hC dX8_told_70 rfl (by decide) ?_
                  exact hR9.1 rfl _ _ _ _ dX8_told_93 ⟨_, rfl, rfl, fun x hx => by have e := hx.1.1; have hk := hx.1.2.1; have hm := hx.1.2.2; unfold rTold; (repeat' split) <;> first | omega | exact hk b (by omega) (by omega) | exact hm b c (by omega) (by omega) (by omega) (by omega) | rw [hm b c (by omega) (by omega) (by omega) (by omega), hm c b (by omega) (by omega) (by omega) (by omega)]⟩
            · refine kw_aload_n hC dX8_told_50 rfl 0 rfl ?_
              refine kg_30_1 hC w8 f14 dX8_told_51 rfl (by decide) (by decide) ?_
              refine kw_iload_n hC dX8_told_54 rfl 2 rfl ?_
              refine ka_41 hC dX8_told_55 rfl (by decide) (by decide) (by omega) (by omega) ?_
              refine kw_goto (tgt := 93) hC dX8_told_56 rfl (by decide) ?_
              exact hR9.1 rfl _ _ _ _ dX8_told_93 ⟨_, rfl, rfl, fun x hx => by have e := hx.1.1; have hk := hx.1.2.1; have hm := hx.1.2.2; unfold rTold; (repeat' split) <;> first | omega | exact hk b (by omega) (by omega) | exact hm b c (by omega) (by omega) (by omega) (by omega) | rw [hm b c (by omega) (by omega) (by omega) (by omega), hm c b (by omega) (by omega) (by omega) (by omega)]⟩
          · refine kw_iconst hC dX8_told_44 rfl ?_
            exact hR9.1 rfl _ _ _ _ dX8_told_45 ⟨_, rfl, rfl, fun x hx => by have e := hx.1.1; unfold rTold; rw [if_neg (by omega), if_neg (by omega)]⟩
  · refine kw_aload_n hC dX8_told_5 rfl 0 rfl ?_
    refine kg_30_0 hC w8 f11 dX8_told_6 rfl (by decide) (by decide) ?_
    exact hR9.1 rfl _ _ _ _ dX8_told_9 ⟨_, rfl, rfl, fun x hx => by have e := hx.1.1; unfold rTold; rw [if_pos (by omega)]; exact e⟩
