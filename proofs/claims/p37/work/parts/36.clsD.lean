def fG19 (k : Nat) (i j : Int) : Prop := k = 19

set_option maxHeartbeats 4000000 in
set_option maxRecDepth 100000 in
theorem d_X0_codeOf {g : wG} (hD : wD g) {S : wSt} {a b : Int} (a0 : 1 ≤ a) (a1 : a ≤ 12) (b0 : 0 ≤ b) (b1 : b < 300) (l : Launch) : Kt l yX0_codeOf wsX0_codeOf ({ frames := 0, cells := 0, slots := 0, locals := 0 } : Room) g S [vr g 16 0, vi a, vi b] (pI (fun r S' => r = S 17 0 (300 * (a - 1) + b) ∧ S' = S)) := by
  refine Kt.of (cc := cX0_codeOf) (nL := 3) (ret := (some .int)) (own := RX0) rfl hD (by decide) rfl (Nat.le_of_ble_eq_true rfl) ⟨rfl, rfl⟩ ?_
  intro E hC hR9
  have f11 : Cond.fieldLink RX0 11 "MirrorBench$FormList" "codes" "[I" ∈ wsX0_codeOf := by decide +kernel
  have w0 : ∀ w ∈ wsX00, w ∈ wsX0_codeOf := by decide +kernel
  show Wk E g 3 S 0 [(0, vr g 16 0), (1, vi a), (2, vi b)] []
  refine kw_aload_n hC dX0_codeOf_0 rfl 0 rfl ?_
  refine kg_16_1 hC w0 f11 dX0_codeOf_1 rfl (by decide) (by decide) ?_
  refine kw_iload_n hC dX0_codeOf_4 rfl 1 rfl ?_
  refine kw_iconst hC dX0_codeOf_5 rfl ?_
  refine kw_isub hC dX0_codeOf_6 rfl ?_
  refine kw_sipush hC dX0_codeOf_7 rfl (by decide) ?_
  refine kw_imul hC dX0_codeOf_10 rfl ?_
  refine kw_iload_n hC dX0_codeOf_11 rfl 2 rfl ?_
  rw [Int.mul_comm (a - 1) 300]
  refine kw_iadd hC dX0_codeOf_12 rfl ?_
  refine ka_17 hC dX0_codeOf_13 rfl (by decide) (by decide) (by omega) (by omega) ?_
  exact hR9.1 rfl _ _ _ _ dX0_codeOf_14 ⟨_, rfl, rfl, rfl⟩

set_option maxHeartbeats 4000000 in
set_option maxRecDepth 100000 in
theorem d_X0_ofLength {g : wG} (hD : wD g) {S : wSt} {a : Int} (a0 : 0 ≤ a) (a1 : a ≤ 12) (l : Launch) : Kt l yX0_ofLength wsX0_ofLength ({ frames := 0, cells := 0, slots := 0, locals := 0 } : Room) g S [vr g 16 0, vi a] (pI (fun r S' => r = S 18 0 a ∧ S' = S)) := by
  refine Kt.of (cc := cX0_ofLength) (nL := 2) (ret := (some .int)) (own := RX0) rfl hD (by decide) rfl (Nat.le_of_ble_eq_true rfl) ⟨rfl, rfl⟩ ?_
  intro E hC hR9
  have f15 : Cond.fieldLink RX0 15 "MirrorBench$FormList" "counts" "[I" ∈ wsX0_ofLength := by decide +kernel
  have w0 : ∀ w ∈ wsX00, w ∈ wsX0_ofLength := by decide +kernel
  show Wk E g 2 S 0 [(0, vr g 16 0), (1, vi a)] []
  refine kw_aload_n hC dX0_ofLength_0 rfl 0 rfl ?_
  refine kg_16_2 hC w0 f15 dX0_ofLength_1 rfl (by decide) (by decide) ?_
  refine kw_iload_n hC dX0_ofLength_4 rfl 1 rfl ?_
  refine ka_18 hC dX0_ofLength_5 rfl (by decide) (by decide) (by omega) (by omega) ?_
  exact hR9.1 rfl _ _ _ _ dX0_ofLength_6 ⟨_, rfl, rfl, rfl⟩

set_option maxHeartbeats 4000000 in
set_option maxRecDepth 100000 in
theorem d_X0_spell {g : wG} (hD : wD g) {S : wSt} {a b : Int} (hRS : CI S) (a0 : 0 ≤ a) (a1 : a ≤ S 16 0 4) (b0 : 0 ≤ b) (b1 : b < S 18 0 a) (l : Launch) : Kt l yX0_spell wsX0_spell ({ frames := 1, cells := 0, slots := 0, locals := 22 } : Room) g S [vr g 16 0, vi a, vi b, vr g 1 8] (pV (fun S' => Fr (fWd 8) S S' ∧ (S' 1 8 1 = a ∧ WV (S' 2 8) a (S 3 16 2)))) := by
  refine Kt.of (cc := cX0_spell) (nL := 7) (ret := none) (own := RX0) rfl hD (by decide) rfl (Nat.le_of_ble_eq_true rfl) ⟨rfl, rfl⟩ ?_
  intro E hC hR9
  have f38 : Cond.fieldLink RX0 38 "MirrorBench$Word" "length" "I" ∈ wsX0_spell := by decide +kernel
  have f45 : Cond.fieldLink RX0 45 "MirrorBench$Word" "mirrors" "[I" ∈ wsX0_spell := by decide +kernel
  have w6 : ∀ w ∈ wsX60, w ∈ wsX0_spell := by decide +kernel
  show Wk E g 7 S 0 [(0, vr g 16 0), (1, vi a), (2, vi b), (3, vr g 1 8)] []
  have hfS : Fr (fWd 8) S S := Fr.rfl _ S
  have hn := hRS.n
  have hFL := hRS.fl
  have hL := hFL.1
  refine kw_iload_n hC dX0_spell_0 rfl 2 rfl ?_
  refine kw_istore (lv' := [(4, _), (0, _), (1, _), (2, _), (3, _)]) hC dX0_spell_1 rfl (by decide) rfl ?_
  refine kw_aload_n hC dX0_spell_3 rfl 4 rfl ?_
  refine kw_iload_n hC dX0_spell_4 rfl 2 rfl ?_
  refine kp_1_1 hC w6 f38 dX0_spell_5 rfl (by omega) (by omega) ?_
  refine kw_hv hfS (by unfold fWd; omega) (fun S1 hfS1 hv1 ho1 => ?_)
  refine kw_iload_n hC dX0_spell_8 rfl 2 rfl ?_
  refine kw_istore (lv' := [(5, _), (4, _), (0, _), (1, _), (2, _), (3, _)]) hC dX0_spell_9 rfl (by decide) rfl ?_
  have hL11 : ∀ (n11 : Nat) (k : Int) (f : Int) (W11 : wSt), Fr (fWd 8) S W11 → (0 ≤ k) → (k ≤ a) → (0 ≤ f) → (f < S 18 0 k) → (W11 1 8 1 = a) → (∀ j, k ≤ j → j < a → 0 ≤ W11 2 8 j ∧ W11 2 8 j < S 3 16 2) → k < (n11 : Int) → Wk E g 7 W11 11 [(0, vr g 16 0), (1, vi a), (2, vi b), (3, vr g 1 8), (4, vi f), (5, vi k)] [] := by
    intro n11
    induction n11 with
    | zero => intro k f W11 hfW11 k0 k1 f0 f1 hl hr hm11; exact absurd hm11 (by omega)
    | succ n11 ih11 =>
      intro k f W11 hfW11 k0 k1 f0 f1 hl hr hm11
      refine kw_iload hC dX0_spell_11 rfl 5 rfl ?_
      refine kw_if_le (tgt := 52) hC dX0_spell_13 rfl (by decide) (by omega) ⟨fun c13 => ?_, fun c13 => ?_⟩
      · exact hR9.2.2.2 rfl _ _ _ dX0_spell_52 ⟨rfl, hfW11, hl, fun j j0 j1 => hr j (by omega) j1⟩
      · have hCk := hFL.2.2.2.1 k (by omega) (by omega)
        refine kw_aload_n hC dX0_spell_16 rfl 0 rfl ?_
        refine kw_iload hC dX0_spell_17 rfl 5 rfl ?_
        refine kw_iload hC dX0_spell_19 rfl 4 rfl ?_
        refine kw_callV hC (d_X0_codeOf hD (by omega) (by omega) (by omega) (by omega)) gX0_spell_X0_codeOf ⟨_, rfl⟩ rfl (by decide) (by decide) rfl ⟨rfl, rfl⟩ 2 (by decide +kernel) ⟨by decide, by decide⟩ rfl rfl (Nat.le_of_ble_eq_true rfl) dX0_spell_21 rfl (kd_ie ?_)
        refine kw_chi (z' := S 17 0 (300 * (k - 1) + f)) (hfW11 17 0 _ (by unfold fWd; omega)) ?_
        obtain ⟨f2, s2, hc2, hf2, hs2⟩ := hFL.2.2.2.2 k f (by omega) (by omega) (by omega) (by omega)
        have hC2 := hFL.2.2.2.1 (k - 1) (by omega) (by omega)
        have hb8 := b8 (f := f2) (s := s2) (by omega) (by omega) (by omega) (by omega)
        rw [hc2]
        refine kw_istore (lv' := [(6, _), (0, _), (1, _), (2, _), (3, _), (4, _), (5, _)]) hC dX0_spell_24 rfl (by decide) rfl ?_
        refine kw_aload_n hC dX0_spell_26 rfl 4 rfl ?_
        refine kg_1_0 hC w6 f45 dX0_spell_27 rfl (by omega) (by omega) ?_
        refine kw_iload hC dX0_spell_30 rfl 6 rfl ?_
        refine kw_iconst hC dX0_spell_32 rfl ?_
        refine kw_isub hC dX0_spell_33 rfl ?_
        refine kw_iload hC dX0_spell_34 rfl 0 rfl ?_
        refine kw_bipush hC dX0_spell_36 rfl (by decide) ?_
        refine kw_iandX hC dX0_spell_38 rfl ?_
        rw [hb8.1]
        refine ks_2 hC dX0_spell_39 rfl (by omega) (by omega) (by omega) (by omega) ?_
        refine kw_hv hfW11 (by unfold fWd; omega) (fun S3 hfS3 hv3 ho3 => ?_)
        refine kw_iload hC dX0_spell_40 rfl 0 rfl ?_
        refine kw_iconst hC dX0_spell_42 rfl ?_
        refine kw_ishrX hC dX0_spell_43 rfl ?_
        rw [hb8.2.1]
        refine kw_istore (lv' := [(4, _), (6, _), (0, _), (1, _), (2, _), (3, _), (5, _)]) hC dX0_spell_44 rfl (by decide) rfl ?_
        refine kw_iinc (lv' := [(5, _), (4, _), (6, _), (0, _), (1, _), (2, _), (3, _)]) hC dX0_spell_46 rfl 6 rfl (by decide) rfl ?_
        refine kw_goto (tgt := 11) hC dX0_spell_49 rfl (by decide) ?_
        refine kw_lv [3, 4, 5, 6, 1, 0] rfl ?_
        exact ih11 _ _ S3 hfS3 (by omega) (by omega) (by omega) (by rw [show k + -1 = k - 1 by omega]; omega) ((ho3 1 8 1 (by omega)).trans hl) (fun j j0 j1 => by rcases Decidable.em (j = k - 1) with e | e; exact (by rw [e, hv3]; omega); exact (by rw [ho3 2 8 j (by omega)]; exact hr j (by omega) j1)) (by omega)
  refine kw_lv [2, 3, 4, 5, 1, 0] rfl ?_
  exact hL11 13 a b S1 hfS1 (by omega) (by omega) (by omega) (by omega) hv1 (fun j _ _ => by omega) (by omega)

theorem CI.g19 {S S' : wSt} (h : CI S) (f : Fr fG19 S S') : CI S' := h.fr (f.mono (fun k i j q => by unfold fG19 at q; unfold tC; omega))

set_option maxHeartbeats 4000000 in
set_option maxRecDepth 100000 in
theorem d_X0_goesOn {g : wG} (hD : wD g) {S : wSt} {a b c : Int} (hRS : CI S) (a0 : 0 ≤ a) (a1 : a ≤ S 16 0 4) (b0 : 0 ≤ b) (b1 : b < S 18 0 a) (c0 : 0 ≤ c) (c1 : c < S 3 16 2) (l : Launch) : Kt l yX0_goesOn wsX0_goesOn ({ frames := 2, cells := 0, slots := 0, locals := 45 } : Room) g S [vr g 16 0, vi a, vi b, vi c] (pI (fun r S' => Fr fG19 S S' ∧ (r = 0 ∨ r = 1))) := by
  refine Kt.of (cc := cX0_goesOn) (nL := 9) (ret := (some .boolean)) (own := RX0) rfl hD (by decide) rfl (Nat.le_of_ble_eq_true rfl) ⟨rfl, rfl⟩ ?_
  intro E hC hR9
  have f18 : Cond.fieldLink RX0 18 "MirrorBench$FormList" "root" "[J" ∈ wsX0_goesOn := by decide +kernel
  have f22 : Cond.fieldLink RX0 22 "MirrorBench$FormList" "set" "LMirrorBench$Mirrors;" ∈ wsX0_goesOn := by decide +kernel
  have w0 : ∀ w ∈ wsX00, w ∈ wsX0_goesOn := by decide +kernel
  show Wk E g 9 S 0 [(0, vr g 16 0), (1, vi a), (2, vi b), (3, vi c)] []
  have hfS : Fr fG19 S S := Fr.rfl _ S
  have hRS := hRS.g19 hfS
  have hn := hRS.n
  have hFL := hRS.fl
  have hL := hFL.1
  refine kw_aload_n hC dX0_goesOn_0 rfl 0 rfl ?_
  refine kg_16_3 hC w0 f18 dX0_goesOn_1 rfl (by decide) (by decide) ?_
  refine kw_iload_n hC dX0_goesOn_4 rfl 3 rfl ?_
  refine kw_callSN (host := RX7) hC (d_X7_setOwn hD (c := 19) (w := 0) (fun _ => rfl) (by decide) (by decide) (by omega) (by omega)) (by decide +kernel) (by decide +kernel) (by decide +kernel) ggX0_goesOn_X7_setOwn rfl ⟨rfl, rfl⟩ 2 (by decide +kernel) ⟨by decide, by decide⟩ rfl rfl (Nat.le_of_ble_eq_true rfl) dX0_goesOn_5 rfl (kd_v (fun S1 hp1 => ?_))
  obtain ⟨hg1, hp1⟩ := hp1
  have hfS1 : Fr fG19 S S1 := hfS.trans (hg1.mono (fun k i j h => by unfold fCl at h; unfold fG19; omega))
  have hRS1 := hRS.g19 hfS1
  refine kw_iload_n hC dX0_goesOn_8 rfl 2 rfl ?_
  refine kw_istore (lv' := [(4, _), (0, _), (1, _), (2, _), (3, _)]) hC dX0_goesOn_9 rfl (by decide) rfl ?_
  refine kw_iload_n hC dX0_goesOn_11 rfl 2 rfl ?_
  refine kw_istore (lv' := [(5, _), (4, _), (0, _), (1, _), (2, _), (3, _)]) hC dX0_goesOn_12 rfl (by decide) rfl ?_
  have hL14 : ∀ (n14 : Nat) (k : Int) (f : Int) (W14 : wSt), Fr fG19 S W14 → (0 ≤ k) → (k ≤ a) → (0 ≤ f) → (f < S 18 0 k) → k < (n14 : Int) → Wk E g 9 W14 14 [(0, vr g 16 0), (1, vi a), (2, vi b), (3, vi c), (4, vi f), (5, vi k)] [] := by
    intro n14
    induction n14 with
    | zero => intro k f W14 hfW14 k0 k1 f0 f1 hm14; exact absurd hm14 (by omega)
    | succ n14 ih14 =>
      intro k f W14 hfW14 k0 k1 f0 f1 hm14
      have hRW14 := hRS.g19 hfW14
      refine kw_iload hC dX0_goesOn_14 rfl 5 rfl ?_
      refine kw_if_le (tgt := 112) hC dX0_goesOn_16 rfl (by decide) (by omega) ⟨fun c16 => ?_, fun c16 => ?_⟩
      · refine kw_iconst hC dX0_goesOn_112 rfl ?_
        exact hR9.2.1 rfl _ _ _ _ dX0_goesOn_113 (by omega) ⟨_, rfl, hfW14, by omega⟩
      · have hCk := hFL.2.2.2.1 k (by omega) (by omega)
        refine kw_aload_n hC dX0_goesOn_19 rfl 0 rfl ?_
        refine kw_iload hC dX0_goesOn_20 rfl 5 rfl ?_
        refine kw_iload hC dX0_goesOn_22 rfl 4 rfl ?_
        refine kw_callV hC (d_X0_codeOf hD (by omega) (by omega) (by omega) (by omega)) gX0_goesOn_X0_codeOf ⟨_, rfl⟩ rfl (by decide) (by decide) rfl ⟨rfl, rfl⟩ 2 (by decide +kernel) ⟨by decide, by decide⟩ rfl rfl (Nat.le_of_ble_eq_true rfl) dX0_goesOn_24 rfl (kd_ie ?_)
        refine kw_chi (z' := S 17 0 (300 * (k - 1) + f)) (hfW14 17 0 _ (by unfold fG19; omega)) ?_
        obtain ⟨f2, s2, hc2, hf2, hs2⟩ := hFL.2.2.2.2 k f (by omega) (by omega) (by omega) (by omega)
        have hC2 := hFL.2.2.2.1 (k - 1) (by omega) (by omega)
        have hb8 := b8 (f := f2) (s := s2) (by omega) (by omega) (by omega) (by omega)
        rw [hc2]
        refine kw_istore (lv' := [(6, _), (0, _), (1, _), (2, _), (3, _), (4, _), (5, _)]) hC dX0_goesOn_27 rfl (by decide) rfl ?_
        refine kw_iload hC dX0_goesOn_29 rfl 0 rfl ?_
        refine kw_bipush hC dX0_goesOn_31 rfl (by decide) ?_
        refine kw_iandX hC dX0_goesOn_33 rfl ?_
        rw [hb8.1]
        refine kw_istore (lv' := [(7, _), (6, _), (0, _), (1, _), (2, _), (3, _), (4, _), (5, _)]) hC dX0_goesOn_34 rfl (by decide) rfl ?_
        refine kw_aload_n hC dX0_goesOn_36 rfl 2 rfl ?_
        refine kg_16_3 hC w0 f18 dX0_goesOn_37 rfl (by decide) (by decide) ?_
        refine kw_iload hC dX0_goesOn_40 rfl 0 rfl ?_
        refine kw_callSN (host := RX7) hC (d_X7_isOwn hD (c := 19) (w := 0) (fun _ => rfl) (by decide) (by decide) (by omega) (by omega)) (by decide +kernel) (by decide +kernel) (by decide +kernel) ggX0_goesOn_X7_isOwn rfl ⟨rfl, rfl⟩ 2 (by decide +kernel) ⟨by decide, by decide⟩ rfl rfl (Nat.le_of_ble_eq_true rfl) dX0_goesOn_42 rfl (kd_ie ?_)
        refine kw_ifeq_b (tgt := 50) hC dX0_goesOn_45 rfl (by decide) ⟨fun c45 => ?_, fun c45 => ?_⟩
        · refine kw_aload_n hC dX0_goesOn_50 rfl 2 rfl ?_
          refine kg_16_3 hC w0 f18 dX0_goesOn_51 rfl (by decide) (by decide) ?_
          refine kw_iload hC dX0_goesOn_54 rfl 0 rfl ?_
          refine kw_aload_n hC dX0_goesOn_56 rfl 2 rfl ?_
          refine kg_16_0 hC w0 f22 dX0_goesOn_57 rfl (by decide) (by decide) ?_
          refine kw_aload_n hC dX0_goesOn_60 rfl 2 rfl ?_
          refine kg_16_3 hC w0 f18 dX0_goesOn_61 rfl (by decide) (by decide) ?_
          refine kw_iload hC dX0_goesOn_64 rfl 0 rfl ?_
          refine kw_callV hC (d_X3_turnedNumber hD (c := 19) (w := 0) (fun _ => rfl) (by decide) (by decide) (by omega) (by omega) hRW14) gX0_goesOn_X3_turnedNumber ⟨_, rfl⟩ rfl (by omega) (show (16 : Int) < 17 by omega) rfl ⟨rfl, rfl⟩ 2 (by decide +kernel) ⟨by decide, by decide⟩ rfl rfl (Nat.le_of_ble_eq_true rfl) dX0_goesOn_66 rfl (kd_le ?_)
          refine ks_19 hC dX0_goesOn_69 rfl (by decide) (by decide) (by omega) (by omega) ?_
          refine kw_hv hfW14 (by unfold fG19; omega) (fun S4 hfS4 hv4 ho4 => ?_)
          have hRS4 := hRS.g19 hfS4
          refine kw_iconst hC dX0_goesOn_70 rfl ?_
          refine kw_istore (lv' := [(8, _), (7, _), (6, _), (0, _), (1, _), (2, _), (3, _), (4, _), (5, _)]) hC dX0_goesOn_71 rfl (by decide) rfl ?_
          have hL73 : ∀ (n73 : Nat) (t : Int), (0 ≤ t) → (t ≤ s2) → s2 - t < (n73 : Int) → Wk E g 9 S4 73 [(0, vr g 16 0), (1, vi a), (2, vi b), (3, vi c), (4, vi f), (5, vi k), (6, vi (8 * f2 + s2)), (7, vi s2), (8, vi t)] [] := by
            intro n73
            induction n73 with
            | zero => intro t t0 t1 hm73; exact absurd hm73 (by omega)
            | succ n73 ih73 =>
              intro t t0 t1 hm73
              refine kw_iload hC dX0_goesOn_73 rfl 8 rfl ?_
              refine kw_iload hC dX0_goesOn_75 rfl 7 rfl ?_
              refine kw_icmp_ge (tgt := 100) hC dX0_goesOn_77 rfl (by decide) (by omega) (by omega) ⟨fun c77 => ?_, fun c77 => ?_⟩
              · refine kw_iload hC dX0_goesOn_100 rfl 6 rfl ?_
                refine kw_iconst hC dX0_goesOn_102 rfl ?_
                refine kw_ishrX hC dX0_goesOn_103 rfl ?_
                rw [hb8.2.1]
                refine kw_istore (lv' := [(4, _), (0, _), (1, _), (2, _), (3, _), (5, _), (6, _), (7, _), (8, _)]) hC dX0_goesOn_104 rfl (by decide) rfl ?_
                refine kw_iinc (lv' := [(5, _), (4, _), (0, _), (1, _), (2, _), (3, _), (6, _), (7, _), (8, _)]) hC dX0_goesOn_106 rfl 5 rfl (by decide) rfl ?_
                refine kw_goto (tgt := 14) hC dX0_goesOn_109 rfl (by decide) ?_
                refine kw_lv [2, 3, 4, 5, 1, 0] rfl ?_
                exact ih14 _ _ S4 hfS4 (by omega) (by omega) (by omega) (by rw [show k + -1 = k - 1 by omega]; omega) (by omega)
              · refine kw_aload_n hC dX0_goesOn_80 rfl 0 rfl ?_
                refine kg_16_3 hC w0 f18 dX0_goesOn_81 rfl (by decide) (by decide) ?_
                refine kw_iload hC dX0_goesOn_84 rfl 8 rfl ?_
                refine kw_callSN (host := RX7) hC (d_X7_isOwn hD (c := 19) (w := 0) (fun _ => rfl) (by decide) (by decide) (by omega) (by omega)) (by decide +kernel) (by decide +kernel) (by decide +kernel) ggX0_goesOn_X7_isOwn rfl ⟨rfl, rfl⟩ 2 (by decide +kernel) ⟨by decide, by decide⟩ rfl rfl (Nat.le_of_ble_eq_true rfl) dX0_goesOn_86 rfl (kd_ie ?_)
                refine kw_ifeq_b (tgt := 94) hC dX0_goesOn_89 rfl (by decide) ⟨fun c89 => ?_, fun c89 => ?_⟩
                · refine kw_iinc (lv' := [(8, _), (0, _), (1, _), (2, _), (3, _), (4, _), (5, _), (6, _), (7, _)]) hC dX0_goesOn_94 rfl 8 rfl (by decide) rfl ?_
                  refine kw_goto (tgt := 73) hC dX0_goesOn_97 rfl (by decide) ?_
                  refine kw_lv [1, 2, 3, 4, 5, 6, 7, 8, 0] rfl ?_
                  exact ih73 (t + 1) (by omega) (by omega) (by omega)
                · refine kw_iconst hC dX0_goesOn_92 rfl ?_
                  exact hR9.2.1 rfl _ _ _ _ dX0_goesOn_93 (by omega) ⟨_, rfl, hfS4, by omega⟩
          refine kw_lv [3, 4, 5, 6, 7, 8, 2, 1, 0] rfl ?_
          exact hL73 7 0 (by omega) (by omega) (by omega)
        · refine kw_iconst hC dX0_goesOn_48 rfl ?_
          exact hR9.2.1 rfl _ _ _ _ dX0_goesOn_49 (by omega) ⟨_, rfl, hfW14, by omega⟩
  refine kw_lv [2, 3, 4, 5, 1, 0] rfl ?_
  exact hL14 13 a b S1 hfS1 (by omega) (by omega) (by omega) (by omega) (by omega)

set_option maxHeartbeats 4000000 in
set_option maxRecDepth 100000 in
theorem d_X0_addLength {g : wG} (hD : wD g) {S : wSt} {a : Int} (hRS : CI S) (a0 : 1 ≤ a) (a1 : a ≤ 12) (hl : S 16 0 4 = a - 1) (l : Launch) : Kt l yX0_addLength wsX0_addLength ({ frames := 3, cells := 0, slots := 0, locals := 73 } : Room) g S [vr g 16 0, vi a] (pV (fun S' => Fr fFm S S' ∧ (FLI S' ∧ (S' 16 0 4 = a ∨ S' 16 0 5 = 1)))) := by
  refine Kt.of (cc := cX0_addLength) (nL := 5) (ret := none) (own := RX0) rfl hD (by decide) rfl (Nat.le_of_ble_eq_true rfl) ⟨rfl, rfl⟩ ?_
  intro E hC hR9
  have f11 : Cond.fieldLink RX0 11 "MirrorBench$FormList" "codes" "[I" ∈ wsX0_addLength := by decide +kernel
  have f15 : Cond.fieldLink RX0 15 "MirrorBench$FormList" "counts" "[I" ∈ wsX0_addLength := by decide +kernel
  have f22 : Cond.fieldLink RX0 22 "MirrorBench$FormList" "set" "LMirrorBench$Mirrors;" ∈ wsX0_addLength := by decide +kernel
  have f26 : Cond.fieldLink RX0 26 "MirrorBench$FormList" "length" "I" ∈ wsX0_addLength := by decide +kernel
  have f30 : Cond.fieldLink RX0 30 "MirrorBench$FormList" "full" "Z" ∈ wsX0_addLength := by decide +kernel
  have f48 : Cond.fieldLink RX0 48 "MirrorBench$Mirrors" "size" "I" ∈ wsX0_addLength := by decide +kernel
  have w0 : ∀ w ∈ wsX00, w ∈ wsX0_addLength := by decide +kernel
  have w3 : ∀ w ∈ wsX30, w ∈ wsX0_addLength := by decide +kernel
  show Wk E g 5 S 0 [(0, vr g 16 0), (1, vi a)] []
  have hfS : Fr fFm S S := Fr.rfl _ S
  have enS : S 3 16 2 = S 3 16 2 := hfS 3 16 2 (by unfold fFm; omega)
  have hn := hRS.n
  have hFL := hRS.fl
  have hCa := hFL.2.2.2.1 (a - 1) (by omega) (by omega)
  refine kw_iconst hC dX0_addLength_0 rfl ?_
  refine kw_istore_n (lv' := [(2, _), (0, _), (1, _)]) hC dX0_addLength_1 rfl (by decide) rfl ?_
  refine kw_iconst hC dX0_addLength_2 rfl ?_
  refine kw_istore_n (lv' := [(3, _), (2, _), (0, _), (1, _)]) hC dX0_addLength_3 rfl (by decide) rfl ?_
  have hL4 : ∀ (n4 : Nat) (f : Int) (m : Int) (W4 : wSt), Fr fFm S W4 → (0 ≤ f) → (f ≤ S 18 0 (a - 1)) → (W4 16 0 4 = S 16 0 4) → (W4 16 0 5 = 0 ∨ W4 16 0 5 = 1) → (∀ j, W4 18 0 j = S 18 0 j) → (∀ j, 0 ≤ j → j < 300 * (a - 1) → W4 17 0 j = S 17 0 j) → (0 ≤ m) → (m ≤ 300) → (∀ i, 0 ≤ i → i < m → ∃ f s, W4 17 0 (300 * (a - 1) + i) = 8 * f + s ∧ (0 ≤ f ∧ f < S 18 0 (a - 1)) ∧ 0 ≤ s ∧ s < S 3 16 2) → S 18 0 (a - 1) - f < (n4 : Int) → Wk E g 5 W4 4 [(0, vr g 16 0), (1, vi a), (2, vi m), (3, vi f)] [] := by
    intro n4
    induction n4 with
    | zero => intro f m W4 hfW4 f0 f1 e4 e5 e18 e17 m0 m1 hnew hm4; exact absurd hm4 (by omega)
    | succ n4 ih4 =>
      intro f m W4 hfW4 f0 f1 e4 e5 e18 e17 m0 m1 hnew hm4
      have enW4 : W4 3 16 2 = S 3 16 2 := hfW4 3 16 2 (by unfold fFm; omega)
      refine kw_iload_n hC dX0_addLength_4 rfl 3 rfl ?_
      refine kw_aload_n hC dX0_addLength_5 rfl 0 rfl ?_
      refine kg_16_2 hC w0 f15 dX0_addLength_6 rfl (by decide) (by decide) ?_
      refine kw_iload_n hC dX0_addLength_9 rfl 1 rfl ?_
      refine kw_iconst hC dX0_addLength_10 rfl ?_
      refine kw_isub hC dX0_addLength_11 rfl ?_
      refine ka_18 hC dX0_addLength_12 rfl (by decide) (by decide) (by omega) (by omega) ?_
      refine kw_chi (z' := S 18 0 (a - 1)) (e18 _) ?_
      refine kw_icmp_ge (tgt := 95) hC dX0_addLength_13 rfl (by decide) (by omega) (by omega) ⟨fun c13 => ?_, fun c13 => ?_⟩
      · refine kw_aload_n hC dX0_addLength_95 rfl 0 rfl ?_
        refine kg_16_2 hC w0 f15 dX0_addLength_96 rfl (by decide) (by decide) ?_
        refine kw_iload_n hC dX0_addLength_99 rfl 1 rfl ?_
        refine kw_iload_n hC dX0_addLength_100 rfl 2 rfl ?_
        refine ks_18 hC dX0_addLength_101 rfl (by decide) (by decide) (by omega) (by omega) ?_
        refine kw_hv hfW4 (by unfold fFm; omega) (fun S2 hfS2 hv2 ho2 => ?_)
        have enS2 : S2 3 16 2 = S 3 16 2 := hfS2 3 16 2 (by unfold fFm; omega)
        have hvA := hv2
        have hoA := ho2
        refine kw_aload_n hC dX0_addLength_102 rfl 0 rfl ?_
        refine kw_iload_n hC dX0_addLength_103 rfl 1 rfl ?_
        refine kp_16_4 hC w0 f26 dX0_addLength_104 rfl (by decide) (by decide) ?_
        refine kw_hv hfS2 (by unfold fFm; omega) (fun S3 hfS3 hv3 ho3 => ?_)
        have enS3 : S3 3 16 2 = S 3 16 2 := hfS3 3 16 2 (by unfold fFm; omega)
        exact hR9.2.2.2 rfl _ _ _ dX0_addLength_107 ⟨rfl, hfS3, hFL.grow hl a1 hv3 (by rw [ho3 16 0 5 (by omega), hoA 16 0 5 (by omega)]; exact e5) (fun j j0 j1 => by rw [ho3 18 0 j (by omega), hoA 18 0 j (by omega)]; exact e18 j) (by rw [ho3 18 0 a (by omega)]; exact hvA) m0 m1 (fun j j0 j1 => by rw [ho3 17 0 j (by omega), hoA 17 0 j (by omega)]; exact e17 j j0 j1) (fun i i0 i1 => by rw [ho3 17 0 _ (by omega), hoA 17 0 _ (by omega)]; exact hnew i i0 i1) enS3, Or.inl hv3⟩
      · refine kw_iconst hC dX0_addLength_16 rfl ?_
        refine kw_istore (lv' := [(4, _), (0, _), (1, _), (2, _), (3, _)]) hC dX0_addLength_17 rfl (by decide) rfl ?_
        have hL19 : ∀ (n19 : Nat) (s : Int) (m : Int) (W19 : wSt), Fr fFm S W19 → (0 ≤ s) → (s ≤ S 3 16 2) → (W19 16 0 4 = S 16 0 4) → (W19 16 0 5 = 0 ∨ W19 16 0 5 = 1) → (∀ j, W19 18 0 j = S 18 0 j) → (∀ j, 0 ≤ j → j < 300 * (a - 1) → W19 17 0 j = S 17 0 j) → (0 ≤ m) → (m ≤ 300) → (∀ i, 0 ≤ i → i < m → ∃ f s, W19 17 0 (300 * (a - 1) + i) = 8 * f + s ∧ (0 ≤ f ∧ f < S 18 0 (a - 1)) ∧ 0 ≤ s ∧ s < S 3 16 2) → S 3 16 2 - s < (n19 : Int) → Wk E g 5 W19 19 [(0, vr g 16 0), (1, vi a), (2, vi m), (3, vi f), (4, vi s)] [] := by
          intro n19
          induction n19 with
          | zero => intro s m W19 hfW19 s0 s1 e4 e5 e18 e17 m0 m1 hnew hm19; exact absurd hm19 (by omega)
          | succ n19 ih19 =>
            intro s m W19 hfW19 s0 s1 e4 e5 e18 e17 m0 m1 hnew hm19
            have enW19 : W19 3 16 2 = S 3 16 2 := hfW19 3 16 2 (by unfold fFm; omega)
            refine kw_iload hC dX0_addLength_19 rfl 4 rfl ?_
            refine kw_aload_n hC dX0_addLength_21 rfl 0 rfl ?_
            refine kg_16_0 hC w0 f22 dX0_addLength_22 rfl (by decide) (by decide) ?_
            refine kg_3_2 hC w3 f48 dX0_addLength_25 rfl (by omega) (by omega) ?_
            refine kw_chi (z' := S 3 16 2) enW19 ?_
            refine kw_icmp_ge (tgt := 89) hC dX0_addLength_28 rfl (by decide) (by omega) (by omega) ⟨fun c28 => ?_, fun c28 => ?_⟩
            · refine kw_iinc (lv' := [(3, _), (0, _), (1, _), (2, _), (4, _)]) hC dX0_addLength_89 rfl 3 rfl (by decide) rfl ?_
              refine kw_goto (tgt := 4) hC dX0_addLength_92 rfl (by decide) ?_
              refine kw_lv [1, 2, 3, 0] rfl ?_
              exact ih4 (f + 1) _ W19 hfW19 (by omega) (by omega) e4 e5 e18 e17 (by omega) (by omega) hnew (by omega)
            · refine kw_aload_n hC dX0_addLength_31 rfl 0 rfl ?_
              refine kw_iload_n hC dX0_addLength_32 rfl 1 rfl ?_
              refine kw_iconst hC dX0_addLength_33 rfl ?_
              refine kw_isub hC dX0_addLength_34 rfl ?_
              refine kw_iload_n hC dX0_addLength_35 rfl 3 rfl ?_
              refine kw_iload hC dX0_addLength_36 rfl 4 rfl ?_
              refine kw_callV hC (d_X0_goesOn hD (hRS.fm hfW19 (hFL.ext e4 e5 (fun j _ _ => e18 j) (fun j j0 j1 => e17 j j0 (by omega)) enW19)) (by omega) (by rw [e4]; omega) (by omega) (by rw [e18]; omega) (by omega) (by rw [enW19]; omega)) gX0_addLength_X0_goesOn ⟨_, rfl⟩ rfl (by decide) (by decide) rfl ⟨rfl, rfl⟩ 3 (by decide +kernel) ⟨by decide, by decide⟩ rfl rfl (Nat.le_of_ble_eq_true rfl) dX0_addLength_38 rfl (kd_i (fun r5 S5 hp5 => ?_))
              obtain ⟨hg5, hp5⟩ := hp5
              have hfS5 : Fr fFm S S5 := hfW19.trans (hg5.mono (fun k i j h => by unfold fG19 at h; unfold fFm; omega))
              have enS5 : S5 3 16 2 = S 3 16 2 := hfS5 3 16 2 (by unfold fFm; omega)
              have gg : ∀ k j, k ≠ 19 → S5 k 0 j = W19 k 0 j := fun k j hk => hg5 k 0 j (by unfold fG19; omega)
              replace e4 : S5 16 0 4 = S 16 0 4 := (gg 16 4 (by decide)).trans e4
              replace e5 : S5 16 0 5 = 0 ∨ S5 16 0 5 = 1 := by rw [gg 16 5 (by decide)]; exact e5
              replace e18 : ∀ j, S5 18 0 j = S 18 0 j := fun j => (gg 18 j (by decide)).trans (e18 j)
              replace e17 : ∀ j, 0 ≤ j → j < 300 * (a - 1) → S5 17 0 j = S 17 0 j := fun j j0 j1 => (gg 17 j (by decide)).trans (e17 j j0 j1)
              replace hnew : ∀ i, 0 ≤ i → i < m → ∃ f s, S5 17 0 (300 * (a - 1) + i) = 8 * f + s ∧ (0 ≤ f ∧ f < S 18 0 (a - 1)) ∧ 0 ≤ s ∧ s < S 3 16 2 := fun i i0 i1 => by rw [gg 17 _ (by decide)]; exact hnew i i0 i1
              refine kw_if_ne (tgt := 47) hC dX0_addLength_41 rfl (by decide) (by omega) ⟨fun c41 => ?_, fun c41 => ?_⟩
              · refine kw_iload_n hC dX0_addLength_47 rfl 2 rfl ?_
                refine kw_sipush hC dX0_addLength_48 rfl (by decide) ?_
                refine kw_icmp_ne (tgt := 60) hC dX0_addLength_51 rfl (by decide) (by omega) (by omega) ⟨fun c51 => ?_, fun c51 => ?_⟩
                · refine kw_aload_n hC dX0_addLength_60 rfl 0 rfl ?_
                  refine kg_16_1 hC w0 f11 dX0_addLength_61 rfl (by decide) (by decide) ?_
                  refine kw_iload_n hC dX0_addLength_64 rfl 1 rfl ?_
                  refine kw_iconst hC dX0_addLength_65 rfl ?_
                  refine kw_isub hC dX0_addLength_66 rfl ?_
                  refine kw_sipush hC dX0_addLength_67 rfl (by decide) ?_
                  refine kw_imul hC dX0_addLength_70 rfl ?_
                  refine kw_iload_n hC dX0_addLength_71 rfl 2 rfl ?_
                  rw [Int.mul_comm (a - 1) 300]
                  refine kw_iadd hC dX0_addLength_72 rfl ?_
                  refine kw_iload_n hC dX0_addLength_73 rfl 3 rfl ?_
                  refine kw_iconst hC dX0_addLength_74 rfl ?_
                  refine kw_ishlX hC dX0_addLength_75 rfl ?_
                  refine kw_iload hC dX0_addLength_76 rfl 4 rfl ?_
                  refine kw_iorX hC dX0_addLength_78 rfl ?_
                  rw [(b8 (f := f) (s := s) (by omega) (by omega) (by omega) (by omega)).2.2]
                  refine ks_17 hC dX0_addLength_79 rfl (by decide) (by decide) (by omega) (by omega) ?_
                  refine kw_hv hfS5 (by unfold fFm; omega) (fun S8 hfS8 hv8 ho8 => ?_)
                  have enS8 : S8 3 16 2 = S 3 16 2 := hfS8 3 16 2 (by unfold fFm; omega)
                  have hv9 := hv8
                  have ho9 := ho8
                  replace e4 : S8 16 0 4 = S 16 0 4 := (ho9 16 0 4 (by omega)).trans e4
                  replace e5 : S8 16 0 5 = 0 ∨ S8 16 0 5 = 1 := by rw [ho9 16 0 5 (by omega)]; exact e5
                  replace e18 : ∀ j, S8 18 0 j = S 18 0 j := fun j => (ho9 18 0 j (by omega)).trans (e18 j)
                  replace e17 : ∀ j, 0 ≤ j → j < 300 * (a - 1) → S8 17 0 j = S 17 0 j := fun j j0 j1 => (ho9 17 0 j (by omega)).trans (e17 j j0 j1)
                  have hnew9 : ∀ i, 0 ≤ i → i < m + 1 → ∃ f s, S8 17 0 (300 * (a - 1) + i) = 8 * f + s ∧ (0 ≤ f ∧ f < S 18 0 (a - 1)) ∧ 0 ≤ s ∧ s < S 3 16 2 := fun i i0 i1 => by rcases Decidable.em (i = m) with e | e; exact ⟨f, s, by rw [e]; exact hv9, by omega, by omega⟩; exact (by rw [ho9 17 0 _ (by omega)]; exact hnew i i0 (by omega))
                  refine kw_iinc (lv' := [(2, _), (0, _), (1, _), (3, _), (4, _)]) hC dX0_addLength_80 rfl 2 rfl (by decide) rfl ?_
                  refine kw_iinc (lv' := [(4, _), (2, _), (0, _), (1, _), (3, _)]) hC dX0_addLength_83 rfl 4 rfl (by decide) rfl ?_
                  refine kw_goto (tgt := 19) hC dX0_addLength_86 rfl (by decide) ?_
                  refine kw_lv [2, 3, 1, 4, 0] rfl ?_
                  exact ih19 (s + 1) _ S8 hfS8 (by omega) (by omega) e4 e5 e18 e17 (by omega) (by omega) (by first | exact hnew9 | exact hnew) (by omega)
                · refine kw_aload_n hC dX0_addLength_54 rfl 0 rfl ?_
                  refine kw_iconst hC dX0_addLength_55 rfl ?_
                  refine kp_16_5 hC w0 f30 dX0_addLength_56 rfl (by decide) (by decide) (by omega) ?_
                  refine kw_hv hfS5 (by unfold fFm; omega) (fun S9 hfS9 hv9 ho9 => ?_)
                  have enS9 : S9 3 16 2 = S 3 16 2 := hfS9 3 16 2 (by unfold fFm; omega)
                  have hFx : FLI S9 := hFL.ext ((ho9 16 0 4 (by omega)).trans e4) (Or.inr hv9) (fun j _ _ => (ho9 18 0 j (by omega)).trans (e18 j)) (fun j j0 j1 => (ho9 17 0 j (by omega)).trans (e17 j j0 (by omega))) enS9
                  exact hR9.2.2.2 rfl _ _ _ dX0_addLength_59 ⟨rfl, hfS9, hFx, Or.inr hv9⟩
              · refine kw_goto (tgt := 83) hC dX0_addLength_44 rfl (by decide) ?_
                refine kw_iinc (lv' := [(4, _), (0, _), (1, _), (2, _), (3, _)]) hC dX0_addLength_83 rfl 4 rfl (by decide) rfl ?_
                refine kw_goto (tgt := 19) hC dX0_addLength_86 rfl (by decide) ?_
                refine kw_lv [1, 2, 3, 4, 0] rfl ?_
                exact ih19 (s + 1) _ S5 hfS5 (by omega) (by omega) e4 e5 e18 e17 (by omega) (by omega) (by first | exact hnew9 | exact hnew) (by omega)
        refine kw_lv [1, 2, 3, 4, 0] rfl ?_
        exact hL19 7 0 _ W4 hfW4 (by omega) (by omega) e4 e5 e18 e17 (by omega) (by omega) hnew (by omega)
  refine kw_lv [2, 3, 1, 0] rfl ?_
  exact hL4 301 0 _ S hfS (by omega) (by omega) rfl hFL.2.1 (fun _ => rfl) (fun _ _ _ => rfl) (by omega) (by omega) (fun i _ _ => by omega) (by omega)

set_option maxHeartbeats 4000000 in
set_option maxRecDepth 100000 in
theorem d_X0_reaches {g : wG} (hD : wD g) {S : wSt} {a : Int} (hRS : CI S) (a0 : 0 ≤ a) (a1 : a ≤ 12) (l : Launch) : Kt l yX0_reaches wsX0_reaches ({ frames := 4, cells := 0, slots := 0, locals := 97 } : Room) g S [vr g 16 0, vi a] (pI (fun r S' => Fr fFm S S' ∧ (FLI S' ∧ (r = 0 ∨ r = 1) ∧ (r = 1 → a ≤ S' 16 0 4)))) := by
  refine Kt.of (cc := cX0_reaches) (nL := 3) (ret := (some .boolean)) (own := RX0) rfl hD (by decide) rfl (Nat.le_of_ble_eq_true rfl) ⟨rfl, rfl⟩ ?_
  intro E hC hR9
  have f26 : Cond.fieldLink RX0 26 "MirrorBench$FormList" "length" "I" ∈ wsX0_reaches := by decide +kernel
  have f30 : Cond.fieldLink RX0 30 "MirrorBench$FormList" "full" "Z" ∈ wsX0_reaches := by decide +kernel
  have w0 : ∀ w ∈ wsX00, w ∈ wsX0_reaches := by decide +kernel
  show Wk E g 3 S 0 [(0, vr g 16 0), (1, vi a)] []
  have hfS : Fr fFm S S := Fr.rfl _ S
  have hn := hRS.n
  have hFL := hRS.fl
  have hL := hFL.1
  refine kw_aload_n hC dX0_reaches_0 rfl 0 rfl ?_
  refine kg_16_4 hC w0 f26 dX0_reaches_1 rfl (by decide) (by decide) ?_
  refine kw_iconst hC dX0_reaches_4 rfl ?_
  refine kw_iadd hC dX0_reaches_5 rfl ?_
  refine kw_istore_n (lv' := [(2, _), (0, _), (1, _)]) hC dX0_reaches_6 rfl (by decide) rfl ?_
  have hL7 : ∀ (n7 : Nat) (x : Int) (W7 : wSt), Fr fFm S W7 → (1 ≤ x) → (x ≤ 13) → (FLI W7) → (W7 16 0 4 = x - 1 ∨ W7 16 0 5 = 1) → 13 - x < (n7 : Int) → Wk E g 3 W7 7 [(0, vr g 16 0), (1, vi a), (2, vi x)] [] := by
    intro n7
    induction n7 with
    | zero => intro x W7 hfW7 x0 x1 hF hor hm7; exact absurd hm7 (by omega)
    | succ n7 ih7 =>
      intro x W7 hfW7 x0 x1 hF hor hm7
      refine kw_iload_n hC dX0_reaches_7 rfl 2 rfl ?_
      refine kw_iload_n hC dX0_reaches_8 rfl 1 rfl ?_
      refine kw_icmp_gt (tgt := 30) hC dX0_reaches_9 rfl (by decide) (by omega) (by omega) ⟨fun c9 => ?_, fun c9 => ?_⟩
      · have hFl := hF.1
        refine kw_iload_n hC dX0_reaches_30 rfl 1 rfl ?_
        refine kw_aload_n hC dX0_reaches_31 rfl 0 rfl ?_
        refine kg_16_4 hC w0 f26 dX0_reaches_32 rfl (by decide) (by decide) ?_
        refine kw_icmp_gt (tgt := 42) hC dX0_reaches_35 rfl (by decide) (by omega) (by omega) ⟨fun c35 => ?_, fun c35 => ?_⟩
        · refine kw_iconst hC dX0_reaches_42 rfl ?_
          exact hR9.2.1 rfl _ _ _ _ dX0_reaches_43 (by omega) ⟨_, rfl, hfW7, hF, by omega, fun q => by omega⟩
        · refine kw_iconst hC dX0_reaches_38 rfl ?_
          refine kw_goto (tgt := 43) hC dX0_reaches_39 rfl (by decide) ?_
          exact hR9.2.1 rfl _ _ _ _ dX0_reaches_43 (by omega) ⟨_, rfl, hfW7, hF, by omega, fun q => by omega⟩
      · refine kw_aload_n hC dX0_reaches_12 rfl 0 rfl ?_
        refine kg_16_5 hC w0 f30 dX0_reaches_13 rfl (by decide) (by decide) ?_
        have hfu := hF.2.1
        refine kw_if_ne (tgt := 30) hC dX0_reaches_16 rfl (by decide) (by omega) ⟨fun c16 => ?_, fun c16 => ?_⟩
        · have hFl := hF.1
          refine kw_iload_n hC dX0_reaches_30 rfl 1 rfl ?_
          refine kw_aload_n hC dX0_reaches_31 rfl 0 rfl ?_
          refine kg_16_4 hC w0 f26 dX0_reaches_32 rfl (by decide) (by decide) ?_
          refine kw_icmp_gt (tgt := 42) hC dX0_reaches_35 rfl (by decide) (by omega) (by omega) ⟨fun c35 => ?_, fun c35 => ?_⟩
          · refine kw_iconst hC dX0_reaches_42 rfl ?_
            exact hR9.2.1 rfl _ _ _ _ dX0_reaches_43 (by omega) ⟨_, rfl, hfW7, hF, by omega, fun q => by omega⟩
          · refine kw_iconst hC dX0_reaches_38 rfl ?_
            refine kw_goto (tgt := 43) hC dX0_reaches_39 rfl (by decide) ?_
            exact hR9.2.1 rfl _ _ _ _ dX0_reaches_43 (by omega) ⟨_, rfl, hfW7, hF, by omega, fun q => by omega⟩
        · refine kw_aload_n hC dX0_reaches_19 rfl 0 rfl ?_
          refine kw_iload_n hC dX0_reaches_20 rfl 2 rfl ?_
          refine kw_callV hC (d_X0_addLength hD (hRS.fm hfW7 hF) (by omega) (by omega) (by omega)) gX0_reaches_X0_addLength ⟨_, rfl⟩ rfl (by decide) (by decide) rfl ⟨rfl, rfl⟩ 1 (by decide +kernel) ⟨by decide, by decide⟩ rfl rfl (Nat.le_of_ble_eq_true rfl) dX0_reaches_21 rfl (kd_v (fun S5 hp5 => ?_))
          obtain ⟨hg5, hp5⟩ := hp5
          have hfS5 : Fr fFm S S5 := hfW7.trans hg5
          obtain ⟨hF9, hor⟩ := hp5
          refine kw_iinc (lv' := [(2, _), (0, _), (1, _)]) hC dX0_reaches_24 rfl 2 rfl (by decide) rfl ?_
          refine kw_goto (tgt := 7) hC dX0_reaches_27 rfl (by decide) ?_
          refine kw_lv [1, 2, 0] rfl ?_
          exact ih7 (x + 1) S5 hfS5 (by omega) (by omega) hF9 (by omega) (by omega)
  refine kw_lv [1, 2, 0] rfl ?_
  exact hL7 14 _ S hfS (by omega) (by omega) hFL (by omega) (by omega)
