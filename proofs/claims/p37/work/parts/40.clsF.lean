set_option maxHeartbeats 4000000 in
set_option maxRecDepth 100000 in
theorem d_X4_insertTurned {g : wG} (hD : wD g) {S : wSt} {a b c : Int} (hRS : CI S) (a0 : 1 ≤ a) (a1 : a < b) (b1 : b ≤ 40) (hh : S 12 0 4 = b - 1) (c0 : S 15 0 b ≤ c) (c1 : c ≤ 400) (hn9 : ∀ y, S 15 0 b ≤ y → y < c → KOK (S 3 16 2) b (S 13 0 y)) (l : Launch) : Kt l yX4_insertTurned wsX4_insertTurned ({ frames := 2, cells := 0, slots := 0, locals := 51 } : Room) g S [vr g 12 0, vi a, vi b, vi c] (pI (fun r S' => Fr fK13 S S' ∧ TB S S' a b c r (S 15 0 (a + 1)) 0)) := by
  refine Kt.of (cc := cX4_insertTurned) (nL := 7) (ret := (some .int)) (own := RX4) rfl hD (by decide) rfl (Nat.le_of_ble_eq_true rfl) ⟨rfl, rfl⟩ ?_
  intro E hC hR9
  have f11 : Cond.fieldLink RX4 11 "MirrorBench$RootList" "keys" "[J" ∈ wsX4_insertTurned := by decide +kernel
  have f15 : Cond.fieldLink RX4 15 "MirrorBench$RootList" "ups" "[J" ∈ wsX4_insertTurned := by decide +kernel
  have f18 : Cond.fieldLink RX4 18 "MirrorBench$RootList" "firsts" "[I" ∈ wsX4_insertTurned := by decide +kernel
  have f22 : Cond.fieldLink RX4 22 "MirrorBench$RootList" "set" "LMirrorBench$Mirrors;" ∈ wsX4_insertTurned := by decide +kernel
  have f46 : Cond.fieldLink RX4 46 "MirrorBench$Mirrors" "size" "I" ∈ wsX4_insertTurned := by decide +kernel
  have w3 : ∀ w ∈ wsX30, w ∈ wsX4_insertTurned := by decide +kernel
  have w4 : ∀ w ∈ wsX40, w ∈ wsX4_insertTurned := by decide +kernel
  show Wk E g 7 S 0 [(0, vr g 12 0), (1, vi a), (2, vi b), (3, vi c)] []
  have hfS : Fr fK13 S S := Fr.rfl _ S
  have enS : S 3 16 2 = S 3 16 2 := hfS 3 16 2 (by unfold fK13; omega)
  have hn := hRS.n
  have hT := hRS.rl.2.2
  rw [hh] at hT
  have hF1 := hT.1
  have hm1 := hT.mono (q := 1) (r := a) (by omega) (by omega) (by omega)
  have hm2 := hT.mono (q := a) (r := a + 1) (by omega) (by omega) (by omega)
  have hm3 := hT.mono (q := a + 1) (r := b) (by omega) (by omega) (by omega)
  refine kw_iload_n hC dX4_insertTurned_0 rfl 3 rfl ?_
  refine kw_istore (lv' := [(4, _), (0, _), (1, _), (2, _), (3, _)]) hC dX4_insertTurned_1 rfl (by decide) rfl ?_
  refine kw_aload_n hC dX4_insertTurned_3 rfl 1 rfl ?_
  refine kg_12_3 hC w4 f18 dX4_insertTurned_4 rfl (by decide) (by decide) ?_
  refine kw_iload_n hC dX4_insertTurned_7 rfl 2 rfl ?_
  refine ka_15 hC dX4_insertTurned_8 rfl (by decide) (by decide) (by omega) (by omega) ?_
  refine kw_istore (lv' := [(5, _), (4, _), (0, _), (1, _), (2, _), (3, _)]) hC dX4_insertTurned_9 rfl (by decide) rfl ?_
  have hL11 : ∀ (n11 : Nat) (x : Int) (g9 : Int) (W11 : wSt), Fr fK13 S W11 → (S 15 0 a ≤ x) → (x ≤ S 15 0 (a + 1)) → (g9 = -3 ∨ 0 ≤ g9) → (g9 ≤ 400) → (TB S W11 a b c g9 x 0) → S 15 0 (a + 1) - x < (n11 : Int) → Wk E g 7 W11 11 [(0, vr g 12 0), (1, vi a), (2, vi b), (3, vi c), (4, vi g9), (5, vi x)] [] := by
    intro n11
    induction n11 with
    | zero => intro x g9 W11 hfW11 x0 x1 hgr hg4 hTB hm11; exact absurd hm11 (by omega)
    | succ n11 ih11 =>
      intro x g9 W11 hfW11 x0 x1 hgr hg4 hTB hm11
      have enW11 : W11 3 16 2 = S 3 16 2 := hfW11 3 16 2 (by unfold fK13; omega)
      refine kw_iload hC dX4_insertTurned_11 rfl 5 rfl ?_
      refine kw_aload_n hC dX4_insertTurned_13 rfl 0 rfl ?_
      refine kg_12_3 hC w4 f18 dX4_insertTurned_14 rfl (by decide) (by decide) ?_
      refine kw_iload_n hC dX4_insertTurned_17 rfl 1 rfl ?_
      refine kw_iconst hC dX4_insertTurned_18 rfl ?_
      refine kw_iadd hC dX4_insertTurned_19 rfl ?_
      refine ka_15 hC dX4_insertTurned_20 rfl (by decide) (by decide) (by omega) (by omega) ?_
      refine kw_chi (z' := S 15 0 (a + 1)) (hfW11 15 0 _ (by unfold fK13; omega)) ?_
      refine kw_icmp_ge (tgt := 104) hC dX4_insertTurned_21 rfl (by decide) (by omega) (by omega) ⟨fun c21 => ?_, fun c21 => ?_⟩
      · refine kw_iload hC dX4_insertTurned_104 rfl 4 rfl ?_
        exact hR9.1 rfl _ _ _ _ dX4_insertTurned_106 ⟨_, rfl, hfW11, by rw [show S 15 0 (a + 1) = x by omega]; exact hTB⟩
      · refine kw_iconst hC dX4_insertTurned_24 rfl ?_
        refine kw_istore (lv' := [(6, _), (0, _), (1, _), (2, _), (3, _), (4, _), (5, _)]) hC dX4_insertTurned_25 rfl (by decide) rfl ?_
        have hL27 : ∀ (n27 : Nat) (i : Int) (g9 : Int) (W27 : wSt), Fr fK13 S W27 → (0 ≤ i) → (i ≤ S 3 16 2) → (g9 = -3 ∨ 0 ≤ g9) → (g9 ≤ 400) → (TB S W27 a b c g9 x i) → S 3 16 2 - i < (n27 : Int) → Wk E g 7 W27 27 [(0, vr g 12 0), (1, vi a), (2, vi b), (3, vi c), (4, vi g9), (5, vi x), (6, vi i)] [] := by
          intro n27
          induction n27 with
          | zero => intro i g9 W27 hfW27 i0 i1 hgr hg4 hTB hm27; exact absurd hm27 (by omega)
          | succ n27 ih27 =>
            intro i g9 W27 hfW27 i0 i1 hgr hg4 hTB hm27
            have enW27 : W27 3 16 2 = S 3 16 2 := hfW27 3 16 2 (by unfold fK13; omega)
            refine kw_iload hC dX4_insertTurned_27 rfl 6 rfl ?_
            refine kw_aload_n hC dX4_insertTurned_29 rfl 0 rfl ?_
            refine kg_12_0 hC w4 f22 dX4_insertTurned_30 rfl (by decide) (by decide) ?_
            refine kg_3_2 hC w3 f46 dX4_insertTurned_33 rfl (by omega) (by omega) ?_
            refine kw_chi (z' := S 3 16 2) enW27 ?_
            refine kw_icmp_ge (tgt := 98) hC dX4_insertTurned_36 rfl (by decide) (by omega) (by omega) ⟨fun c36 => ?_, fun c36 => ?_⟩
            · replace hTB : TB S W27 a b c g9 (x + 1) 0 := by first | exact hTB.row (by omega) | exact hTB.full (by omega)
              refine kw_iinc (lv' := [(5, _), (0, _), (1, _), (2, _), (3, _), (4, _), (6, _)]) hC dX4_insertTurned_98 rfl 5 rfl (by decide) rfl ?_
              refine kw_goto (tgt := 11) hC dX4_insertTurned_101 rfl (by decide) ?_
              refine kw_lv [1, 2, 3, 4, 5, 0] rfl ?_
              exact ih11 (x + 1) _ W27 hfW27 (by omega) (by omega) (by omega) (by omega) hTB (by omega)
            · refine kw_iload hC dX4_insertTurned_39 rfl 4 rfl ?_
              refine kw_bipush hC dX4_insertTurned_41 rfl (by decide) ?_
              refine kw_icmp_eq (tgt := 98) hC dX4_insertTurned_43 rfl (by decide) (by omega) (by omega) ⟨fun c43 => ?_, fun c43 => ?_⟩
              · replace hTB : TB S W27 a b c g9 (x + 1) 0 := by first | exact hTB.row (by omega) | exact hTB.full (by omega)
                refine kw_iinc (lv' := [(5, _), (0, _), (1, _), (2, _), (3, _), (4, _), (6, _)]) hC dX4_insertTurned_98 rfl 5 rfl (by decide) rfl ?_
                refine kw_goto (tgt := 11) hC dX4_insertTurned_101 rfl (by decide) ?_
                refine kw_lv [1, 2, 3, 4, 5, 0] rfl ?_
                exact ih11 (x + 1) _ W27 hfW27 (by omega) (by omega) (by omega) (by omega) hTB (by omega)
              · refine kw_aload_n hC dX4_insertTurned_46 rfl 0 rfl ?_
                refine kg_12_2 hC w4 f15 dX4_insertTurned_47 rfl (by decide) (by decide) ?_
                refine kw_iload hC dX4_insertTurned_50 rfl 5 rfl ?_
                refine ka_14 hC dX4_insertTurned_52 rfl (by decide) (by decide) (by omega) (by omega) ?_
                refine kw_chl (z' := S 14 0 x) (hfW27 14 0 x (by unfold fK13; omega)) ?_
                obtain ⟨k1, k2, k3, k4, k5⟩ := hT.2.2.2.1 a x (by omega) (by omega) (by omega) (by omega)
                refine kw_iload hC dX4_insertTurned_53 rfl 6 rfl ?_
                refine kw_callS hC (d_X4_unpack hD k4.1 k4.2 (by omega) (by omega)) gX4_insertTurned_X4_unpack rfl ⟨rfl, rfl⟩ 2 (by decide +kernel) ⟨by decide, by decide⟩ rfl rfl (Nat.le_of_ble_eq_true rfl) dX4_insertTurned_55 rfl (kd_ie ?_)
                refine kw_iload_n hC dX4_insertTurned_58 rfl 2 rfl ?_
                refine kw_icmp_ne (tgt := 92) hC dX4_insertTurned_59 rfl (by decide) (by have := dg_r (S 14 0 x) i; omega) (by omega) ⟨fun c59 => ?_, fun c59 => ?_⟩
                · replace hTB := hTB.skip (by omega)
                  refine kw_iinc (lv' := [(6, _), (0, _), (1, _), (2, _), (3, _), (4, _), (5, _)]) hC dX4_insertTurned_92 rfl 6 rfl (by decide) rfl ?_
                  refine kw_goto (tgt := 27) hC dX4_insertTurned_95 rfl (by decide) ?_
                  refine kw_lv [1, 2, 3, 4, 5, 6, 0] rfl ?_
                  exact ih27 (i + 1) _ W27 hfW27 (by omega) (by omega) (by first | omega | (rcases hTB.2 with q | ⟨q, -⟩; exact Or.inl q; exact Or.inr (by omega))) (by first | omega | (rcases hTB.2 with q | ⟨-, q, -⟩; omega; omega)) hTB (by omega)
                · refine kw_aload_n hC dX4_insertTurned_62 rfl 0 rfl ?_
                  refine kw_aload_n hC dX4_insertTurned_63 rfl 0 rfl ?_
                  refine kg_12_1 hC w4 f11 dX4_insertTurned_64 rfl (by decide) (by decide) ?_
                  refine kw_iload hC dX4_insertTurned_67 rfl 5 rfl ?_
                  refine ka_13 hC dX4_insertTurned_69 rfl (by decide) (by decide) (by omega) (by omega) ?_
                  refine kw_chl (z' := S 13 0 x) (hTB.1 x (by omega)) ?_
                  refine kw_iload_n hC dX4_insertTurned_70 rfl 2 rfl ?_
                  refine kw_iload_n hC dX4_insertTurned_71 rfl 1 rfl ?_
                  refine kw_isub hC dX4_insertTurned_72 rfl ?_
                  refine kw_iload hC dX4_insertTurned_73 rfl 6 rfl ?_
                  refine kw_callS hC (d_X4_pack hD (by omega) (by omega) (by omega) (by omega)) gX4_insertTurned_X4_pack rfl ⟨rfl, rfl⟩ 2 (by decide +kernel) ⟨by decide, by decide⟩ rfl rfl (Nat.le_of_ble_eq_true rfl) dX4_insertTurned_75 rfl (kd_le ?_)
                  refine kw_ladd hC dX4_insertTurned_78 rfl ?_
                  have hKK : KOK (S 3 16 2) b (S 13 0 x + (b - a) * 64 ^ (5 - i).toNat) := by have := KOK.add (n := S 3 16 2) (q := a) (k := S 13 0 x) (m := b - a) (c := i) ⟨k1, k2, k3⟩ (by omega) (by omega) i0 (by omega) (by omega); rw [show a + (b - a) = b by omega] at this; exact this
                  obtain ⟨hq1, hq2, hq3, -, -⟩ := hTB.2.resolve_left (by omega)
                  refine kw_aload_n hC dX4_insertTurned_79 rfl 0 rfl ?_
                  refine kg_12_3 hC w4 f18 dX4_insertTurned_80 rfl (by decide) (by decide) ?_
                  refine kw_iload_n hC dX4_insertTurned_83 rfl 2 rfl ?_
                  refine ka_15 hC dX4_insertTurned_84 rfl (by decide) (by decide) (by omega) (by omega) ?_
                  refine kw_chi (z' := S 15 0 b) (hfW27 15 0 _ (by unfold fK13; omega)) ?_
                  refine kw_iload hC dX4_insertTurned_85 rfl 4 rfl ?_
                  refine kw_callV hC (d_X4_insert hD (hKK.1.1) (hKK.1.2) (by omega) (by omega) (by omega) (fun y y0 y1 => (hq3 y y0 y1).1)) gX4_insertTurned_X4_insert ⟨_, rfl⟩ rfl (by decide) (by decide) rfl ⟨rfl, rfl⟩ 3 (by decide +kernel) ⟨by decide, by decide⟩ rfl rfl (Nat.le_of_ble_eq_true rfl) dX4_insertTurned_87 rfl (kd_i (fun r5 S5 hp5 => ?_))
                  obtain ⟨hg5, hp5⟩ := hp5
                  have hfS5 : Fr fK13 S S5 := hfW27.trans hg5
                  have enS5 : S5 3 16 2 = S 3 16 2 := hfS5 3 16 2 (by unfold fK13; omega)
                  replace hTB := hTB.ins (by omega) hp5 rfl hKK
                  refine kw_istore (lv' := [(4, _), (0, _), (1, _), (2, _), (3, _), (5, _), (6, _)]) hC dX4_insertTurned_90 rfl (by decide) rfl ?_
                  refine kw_iinc (lv' := [(6, _), (4, _), (0, _), (1, _), (2, _), (3, _), (5, _)]) hC dX4_insertTurned_92 rfl 6 rfl (by decide) rfl ?_
                  refine kw_goto (tgt := 27) hC dX4_insertTurned_95 rfl (by decide) ?_
                  refine kw_lv [2, 3, 4, 5, 1, 6, 0] rfl ?_
                  exact ih27 (i + 1) _ S5 hfS5 (by omega) (by omega) (by first | omega | (rcases hTB.2 with q | ⟨q, -⟩; exact Or.inl q; exact Or.inr (by omega))) (by first | omega | (rcases hTB.2 with q | ⟨-, q, -⟩; omega; omega)) hTB (by omega)
        refine kw_lv [1, 2, 3, 4, 5, 6, 0] rfl ?_
        exact hL27 7 0 _ W11 hfW11 (by omega) (by omega) (by omega) (by omega) hTB (by omega)
  refine kw_lv [2, 3, 4, 5, 1, 0] rfl ?_
  exact hL11 401 (S 15 0 a) _ S hfS (by omega) (by omega) (by omega) (by omega) ⟨fun _ _ => rfl, Or.inr ⟨by omega, c1, hn9, fun y y0 y1 => ⟨y, y0, y1, rfl⟩, fun x' i' _ _ _ _ q _ => by omega⟩⟩ (by omega)

set_option maxHeartbeats 4000000 in
set_option maxRecDepth 100000 in
theorem d_X4_addHeight {g : wG} (hD : wD g) {S : wSt} {a : Int} (hRS : CI S) (a1 : 1 ≤ a) (a2 : a ≤ 40) (hh : S 12 0 4 = a - 1) (l : Launch) : Kt l yX4_addHeight wsX4_addHeight ({ frames := 3, cells := 0, slots := 0, locals := 77 } : Room) g S [vr g 12 0, vi a] (pV (fun S' => Fr fRt S S' ∧ (RLI S' ∧ (S' 12 0 4 = a ∨ S' 12 0 5 = 1)))) := by
  refine Kt.of (cc := cX4_addHeight) (nL := 4) (ret := none) (own := RX4) rfl hD (by decide) rfl (Nat.le_of_ble_eq_true rfl) ⟨rfl, rfl⟩ ?_
  intro E hC hR9
  have f11 : Cond.fieldLink RX4 11 "MirrorBench$RootList" "keys" "[J" ∈ wsX4_addHeight := by decide +kernel
  have f15 : Cond.fieldLink RX4 15 "MirrorBench$RootList" "ups" "[J" ∈ wsX4_addHeight := by decide +kernel
  have f18 : Cond.fieldLink RX4 18 "MirrorBench$RootList" "firsts" "[I" ∈ wsX4_addHeight := by decide +kernel
  have f22 : Cond.fieldLink RX4 22 "MirrorBench$RootList" "set" "LMirrorBench$Mirrors;" ∈ wsX4_addHeight := by decide +kernel
  have f26 : Cond.fieldLink RX4 26 "MirrorBench$RootList" "height" "I" ∈ wsX4_addHeight := by decide +kernel
  have f30 : Cond.fieldLink RX4 30 "MirrorBench$RootList" "full" "Z" ∈ wsX4_addHeight := by decide +kernel
  have f46 : Cond.fieldLink RX4 46 "MirrorBench$Mirrors" "size" "I" ∈ wsX4_addHeight := by decide +kernel
  have w3 : ∀ w ∈ wsX30, w ∈ wsX4_addHeight := by decide +kernel
  have w4 : ∀ w ∈ wsX40, w ∈ wsX4_addHeight := by decide +kernel
  show Wk E g 4 S 0 [(0, vr g 12 0), (1, vi a)] []
  have hfS : Fr fRt S S := Fr.rfl _ S
  have enS : S 3 16 2 = S 3 16 2 := hfS 3 16 2 (by unfold fRt; omega)
  have hn := hRS.n
  have hL := hRS.rl
  have hT := hRS.rl.2.2
  rw [hh] at hT
  have hF1 := hT.1
  have hFa := hT.2.2.1
  rw [show a - 1 + 1 = a by omega] at hFa
  have hm1 := hT.mono (q := 1) (r := a) (by omega) (by omega) (by omega)
  refine kw_aload_n hC dX4_addHeight_0 rfl 0 rfl ?_
  refine kg_12_3 hC w4 f18 dX4_addHeight_1 rfl (by decide) (by decide) ?_
  refine kw_iload_n hC dX4_addHeight_4 rfl 1 rfl ?_
  refine ka_15 hC dX4_addHeight_5 rfl (by decide) (by decide) (by omega) (by omega) ?_
  refine kw_istore_n (lv' := [(2, _), (0, _), (1, _)]) hC dX4_addHeight_6 rfl (by decide) rfl ?_
  refine kw_iconst hC dX4_addHeight_7 rfl ?_
  refine kw_istore_n (lv' := [(3, _), (2, _), (0, _), (1, _)]) hC dX4_addHeight_8 rfl (by decide) rfl ?_
  have hL9 : ∀ (n9 : Nat) (i : Int) (e9 : Int) (W9 : wSt), Fr fRt S W9 → (0 ≤ i) → (i ≤ S 3 16 2) → (∀ j, W9 12 0 j = S 12 0 j ∧ W9 14 0 j = S 14 0 j ∧ W9 15 0 j = S 15 0 j) → (∀ j, j < S 15 0 a → W9 13 0 j = S 13 0 j) → (e9 = -3 ∨ S 15 0 a ≤ e9) → (e9 ≤ 400) → (a = 1 → 0 ≤ e9 ∧ e9 ≤ i) → (a ≠ 1 → i = 0) → (e9 ≠ -3 → ∀ y, S 15 0 a ≤ y → y < e9 → KOK (S 3 16 2) a (W9 13 0 y)) → (e9 ≠ -3 → a = 1 → ∀ i8 : Int, 0 ≤ i8 → i8 < i → ∃ y, S 15 0 a ≤ y ∧ y < e9 ∧ W9 13 0 y = 1 * 64 ^ (5 - i8).toNat) → S 3 16 2 - i < (n9 : Int) → Wk E g 4 W9 9 [(0, vr g 12 0), (1, vi a), (2, vi e9), (3, vi i)] [] := by
    intro n9
    induction n9 with
    | zero => intro i e9 W9 hfW9 i0 i1 hko hlow her he4 hei hi0 hkk hown hm9; exact absurd hm9 (by omega)
    | succ n9 ih9 =>
      intro i e9 W9 hfW9 i0 i1 hko hlow her he4 hei hi0 hkk hown hm9
      have enW9 : W9 3 16 2 = S 3 16 2 := hfW9 3 16 2 (by unfold fRt; omega)
      refine kw_iload_n hC dX4_addHeight_9 rfl 3 rfl ?_
      refine kw_aload_n hC dX4_addHeight_10 rfl 0 rfl ?_
      refine kg_12_0 hC w4 f22 dX4_addHeight_11 rfl (by decide) (by decide) ?_
      refine kg_3_2 hC w3 f46 dX4_addHeight_14 rfl (by omega) (by omega) ?_
      refine kw_chi (z' := S 3 16 2) enW9 ?_
      refine kw_icmp_ge (tgt := 43) hC dX4_addHeight_17 rfl (by decide) (by omega) (by omega) ⟨fun c17 => ?_, fun c17 => ?_⟩
      · refine kw_iconst hC dX4_addHeight_43 rfl ?_
        refine kw_istore_n (lv' := [(3, _), (0, _), (1, _), (2, _)]) hC dX4_addHeight_44 rfl (by decide) rfl ?_
        have hL45 : ∀ (n45 : Nat) (low : Int) (e9 : Int) (W45 : wSt), Fr fRt S W45 → (1 ≤ low) → (low ≤ a) → (∀ j, W45 12 0 j = S 12 0 j ∧ W45 14 0 j = S 14 0 j ∧ W45 15 0 j = S 15 0 j) → (∀ j, j < S 15 0 a → W45 13 0 j = S 13 0 j) → (e9 = -3 ∨ S 15 0 a ≤ e9) → (e9 ≤ 400) → (e9 ≠ -3 → ∀ y, S 15 0 a ≤ y → y < e9 → KOK (S 3 16 2) a (W45 13 0 y)) → (e9 ≠ -3 → a = 1 → ∀ i8 : Int, 0 ≤ i8 → i8 < S 3 16 2 → ∃ y, S 15 0 a ≤ y ∧ y < e9 ∧ W45 13 0 y = 1 * 64 ^ (5 - i8).toNat) → (e9 ≠ -3 → ∀ lo x i, 1 ≤ lo → lo < low → S 15 0 lo ≤ x → x < S 15 0 (lo + 1) → 0 ≤ i → i < S 3 16 2 → dg (S 14 0 x) i = a → ∃ z, S 15 0 a ≤ z ∧ z < e9 ∧ W45 13 0 z = S 13 0 x + (a - lo) * 64 ^ (5 - i).toNat) → a - low < (n45 : Int) → Wk E g 4 W45 45 [(0, vr g 12 0), (1, vi a), (2, vi e9), (3, vi low)] [] := by
          intro n45
          induction n45 with
          | zero => intro low e9 W45 hfW45 l0 l1 hko hlow her he4 hkk hown hcl hm45; exact absurd hm45 (by omega)
          | succ n45 ih45 =>
            intro low e9 W45 hfW45 l0 l1 hko hlow her he4 hkk hown hcl hm45
            have enW45 : W45 3 16 2 = S 3 16 2 := hfW45 3 16 2 (by unfold fRt; omega)
            refine kw_iload_n hC dX4_addHeight_45 rfl 3 rfl ?_
            refine kw_iload_n hC dX4_addHeight_46 rfl 1 rfl ?_
            refine kw_icmp_ge (tgt := 70) hC dX4_addHeight_47 rfl (by decide) (by omega) (by omega) ⟨fun c47 => ?_, fun c47 => ?_⟩
            · refine kw_iload_n hC dX4_addHeight_70 rfl 2 rfl ?_
              refine kw_bipush hC dX4_addHeight_71 rfl (by decide) ?_
              refine kw_icmp_ne (tgt := 82) hC dX4_addHeight_73 rfl (by decide) (by omega) (by omega) ⟨fun c73 => ?_, fun c73 => ?_⟩
              · refine kw_aload_n hC dX4_addHeight_82 rfl 0 rfl ?_
                refine kg_12_3 hC w4 f18 dX4_addHeight_83 rfl (by decide) (by decide) ?_
                refine kw_iload_n hC dX4_addHeight_86 rfl 1 rfl ?_
                refine ka_15 hC dX4_addHeight_87 rfl (by decide) (by decide) (by omega) (by omega) ?_
                refine kw_chi (z' := S 15 0 a) (hko a).2.2 ?_
                refine kw_istore_n (lv' := [(3, _), (0, _), (1, _), (2, _)]) hC dX4_addHeight_88 rfl (by decide) rfl ?_
                have hL89 : ∀ (n89 : Nat) (x : Int) (W89 : wSt), Fr fRt S W89 → (S 15 0 a ≤ x) → (x ≤ e9) → (∀ j, W89 12 0 j = S 12 0 j ∧ W89 15 0 j = S 15 0 j) → (∀ j, W89 13 0 j = W45 13 0 j) → (∀ j, j < S 15 0 a → W89 14 0 j = S 14 0 j) → (∀ y, S 15 0 a ≤ y → y < x → (0 ≤ W89 14 0 y ∧ W89 14 0 y < 68719476736) ∧ ∀ i, 0 ≤ i → i < S 3 16 2 → dg (W89 14 0 y) i = upv (S 5 16) (S 3 16 2) (W45 13 0 y) a i) → e9 - x < (n89 : Int) → Wk E g 4 W89 89 [(0, vr g 12 0), (1, vi a), (2, vi e9), (3, vi x)] [] := by
                  intro n89
                  induction n89 with
                  | zero => intro x W89 hfW89 x0 x1 h12 h13 h14 hup hm89; exact absurd hm89 (by omega)
                  | succ n89 ih89 =>
                    intro x W89 hfW89 x0 x1 h12 h13 h14 hup hm89
                    have enW89 : W89 3 16 2 = S 3 16 2 := hfW89 3 16 2 (by unfold fRt; omega)
                    refine kw_iload_n hC dX4_addHeight_89 rfl 3 rfl ?_
                    refine kw_iload_n hC dX4_addHeight_90 rfl 2 rfl ?_
                    refine kw_icmp_ge (tgt := 117) hC dX4_addHeight_91 rfl (by decide) (by omega) (by omega) ⟨fun c91 => ?_, fun c91 => ?_⟩
                    · refine kw_aload_n hC dX4_addHeight_117 rfl 0 rfl ?_
                      refine kg_12_3 hC w4 f18 dX4_addHeight_118 rfl (by decide) (by decide) ?_
                      refine kw_iload_n hC dX4_addHeight_121 rfl 1 rfl ?_
                      refine kw_iconst hC dX4_addHeight_122 rfl ?_
                      refine kw_iadd hC dX4_addHeight_123 rfl ?_
                      refine kw_iload_n hC dX4_addHeight_124 rfl 2 rfl ?_
                      refine ks_15 hC dX4_addHeight_125 rfl (by decide) (by decide) (by omega) (by omega) ?_
                      refine kw_hv hfW89 (by unfold fRt; omega) (fun S5 hfS5 hv5 ho5 => ?_)
                      have enS5 : S5 3 16 2 = S 3 16 2 := hfS5 3 16 2 (by unfold fRt; omega)
                      have hvA := hv5
                      have hoA := ho5
                      refine kw_aload_n hC dX4_addHeight_126 rfl 0 rfl ?_
                      refine kw_iload_n hC dX4_addHeight_127 rfl 1 rfl ?_
                      refine kp_12_4 hC w4 f26 dX4_addHeight_128 rfl (by decide) (by decide) ?_
                      refine kw_hv hfS5 (by unfold fRt; omega) (fun S6 hfS6 hv6 ho6 => ?_)
                      have enS6 : S6 3 16 2 = S 3 16 2 := hfS6 3 16 2 (by unfold fRt; omega)
                      have hX : RLI S6 := by refine ⟨by rw [hv6]; omega, by rw [ho6 12 0 5 (by omega), hoA 12 0 5 (by omega), (h12 5).1]; exact hL.2.1, ?_⟩; rw [hv6, show S6 5 16 = S 5 16 from funext (fun j => hfS6 5 16 j (by unfold fRt; omega)), enS6]; exact hT.grow a1 a2 hn.2 (fun j hj => by rw [ho6 15 0 j (by omega), hoA 15 0 j (by omega)]; exact (h12 j).2) (by rw [ho6 15 0 _ (by omega)]; exact hvA) (fun x hx => by rw [ho6 13 0 x (by omega), hoA 13 0 x (by omega), h13 x]; exact hlow x hx) (fun x x0 hx => by rw [ho6 14 0 x (by omega), hoA 14 0 x (by omega)]; exact h14 x hx) (by omega) he4 (fun y y0 y1 => by rw [ho6 13 0 y (by omega), hoA 13 0 y (by omega), h13 y]; exact hkk (by omega) y y0 y1) (fun y y0 y1 => by rw [ho6 14 0 y (by omega), hoA 14 0 y (by omega), ho6 13 0 y (by omega), hoA 13 0 y (by omega), h13 y]; exact hup y y0 (by omega)) (fun ha i i0 i1 => by obtain ⟨y, y0, y1, y2⟩ := hown (by omega) ha i i0 i1; exact ⟨y, y0, y1, by rw [ho6 13 0 y (by omega), hoA 13 0 y (by omega), h13 y]; exact y2⟩) (fun lo x i l1 l2 x0 x1 i0 i1 he => by obtain ⟨z, z0, z1, z2⟩ := hcl (by omega) lo x i l1 (by omega) x0 x1 i0 i1 he; exact ⟨z, z0, z1, by rw [ho6 13 0 z (by omega), hoA 13 0 z (by omega), h13 z]; exact z2⟩)
                      exact hR9.2.2.2 rfl _ _ _ dX4_addHeight_131 ⟨rfl, hfS6, hX, Or.inl hv6⟩
                    · refine kw_aload_n hC dX4_addHeight_94 rfl 0 rfl ?_
                      refine kg_12_2 hC w4 f15 dX4_addHeight_95 rfl (by decide) (by decide) ?_
                      refine kw_iload_n hC dX4_addHeight_98 rfl 3 rfl ?_
                      refine kw_aload_n hC dX4_addHeight_99 rfl 0 rfl ?_
                      refine kw_aload_n hC dX4_addHeight_100 rfl 0 rfl ?_
                      refine kg_12_1 hC w4 f11 dX4_addHeight_101 rfl (by decide) (by decide) ?_
                      refine kw_iload_n hC dX4_addHeight_104 rfl 3 rfl ?_
                      refine ka_13 hC dX4_addHeight_105 rfl (by decide) (by decide) (by omega) (by omega) ?_
                      refine kw_chl (z' := W45 13 0 x) (h13 x) ?_
                      have hk9 := hkk (by omega) x (by omega) (by omega)
                      refine kw_iload_n hC dX4_addHeight_106 rfl 1 rfl ?_
                      refine kw_callV hC (d_X4_findUps hD (hRS.k13 hfW89 (fun j => (h12 j).1) (fun j => (h12 j).2) (fun x _ q => (h13 x).trans (hlow x (by rw [hh, show a - 1 + 1 = a by omega] at q; exact q))) (fun x x0 q => h14 x (by rw [hh, show a - 1 + 1 = a by omega] at q; exact q))) hk9.1.1 hk9.1.2 (by omega) (by omega)) gX4_addHeight_X4_findUps ⟨_, rfl⟩ rfl (by decide) (by decide) rfl ⟨rfl, rfl⟩ 2 (by decide +kernel) ⟨by decide, by decide⟩ rfl rfl (Nat.le_of_ble_eq_true rfl) dX4_addHeight_107 rfl (kd_l (fun r9 S9 hp9 => ?_))
                      obtain ⟨hu0, hu1, hS9⟩ := hp9
                      rw [hS9]
                      refine ks_14 hC dX4_addHeight_110 rfl (by decide) (by decide) (by omega) (by omega) ?_
                      refine kw_hv hfW89 (by unfold fRt; omega) (fun S7 hfS7 hv7 ho7 => ?_)
                      have enS7 : S7 3 16 2 = S 3 16 2 := hfS7 3 16 2 (by unfold fRt; omega)
                      have hup9 : ∀ y, S 15 0 a ≤ y → y < x + 1 → (0 ≤ S7 14 0 y ∧ S7 14 0 y < 68719476736) ∧ ∀ i, 0 ≤ i → i < S 3 16 2 → dg (S7 14 0 y) i = upv (S 5 16) (S 3 16 2) (W45 13 0 y) a i := fun y y0 y1 => by rcases Decidable.em (y = x) with q | q; exact (by rw [q, hv7]; refine ⟨hu0, fun i i0 i1 => ?_⟩; have h9 := hu1 i i0 (by rw [enW89]; exact i1); rw [enW89, show W89 5 16 = S 5 16 from funext (fun j => hfW89 5 16 j (by unfold fRt; omega))] at h9; exact h9); exact (by rw [ho7 14 0 y (by omega)]; exact hup y y0 (by omega))
                      refine kw_iinc (lv' := [(3, _), (0, _), (1, _), (2, _)]) hC dX4_addHeight_111 rfl 3 rfl (by decide) rfl ?_
                      refine kw_goto (tgt := 89) hC dX4_addHeight_114 rfl (by decide) ?_
                      refine kw_lv [1, 2, 3, 0] rfl ?_
                      exact ih89 (x + 1) S7 hfS7 (by omega) (by omega) (fun j => ⟨(ho7 12 0 j (by omega)).trans (h12 j).1, (ho7 15 0 j (by omega)).trans (h12 j).2⟩) (fun j => (ho7 13 0 j (by omega)).trans (h13 j)) (fun j hj => (ho7 14 0 j (by omega)).trans (h14 j hj)) hup9 (by omega)
                refine kw_lv [1, 2, 3, 0] rfl ?_
                exact hL89 401 _ W45 hfW45 (by omega) (by omega) (fun j => ⟨(hko j).1, (hko j).2.2⟩) (fun _ => rfl) (fun j _ => (hko j).2.1) (fun y _ _ => by omega) (by omega)
              · refine kw_aload_n hC dX4_addHeight_76 rfl 0 rfl ?_
                refine kw_iconst hC dX4_addHeight_77 rfl ?_
                refine kp_12_5 hC w4 f30 dX4_addHeight_78 rfl (by decide) (by decide) (by omega) ?_
                refine kw_hv hfW45 (by unfold fRt; omega) (fun S8 hfS8 hv8 ho8 => ?_)
                have enS8 : S8 3 16 2 = S 3 16 2 := hfS8 3 16 2 (by unfold fRt; omega)
                have hX : RLI S8 := by refine ⟨by rw [ho8 12 0 4 (by omega), (hko 4).1]; omega, Or.inr hv8, ?_⟩; rw [ho8 12 0 4 (by omega), (hko 4).1, show S8 5 16 = S 5 16 from funext (fun j => hfS8 5 16 j (by unfold fRt; omega)), enS8, show S8 15 0 = S 15 0 from funext (fun j => (ho8 15 0 j (by omega)).trans (hko j).2.2), hh]; exact hT.ext (by omega) (fun x _ q => (ho8 13 0 x (by omega)).trans (hlow x (by rw [show a - 1 + 1 = a by omega] at q; exact q))) (fun x _ _ => (ho8 14 0 x (by omega)).trans (hko x).2.1)
                exact hR9.2.2.2 rfl _ _ _ dX4_addHeight_81 ⟨rfl, hfS8, hX, Or.inr hv8⟩
            · refine kw_iload_n hC dX4_addHeight_50 rfl 2 rfl ?_
              refine kw_bipush hC dX4_addHeight_51 rfl (by decide) ?_
              refine kw_icmp_eq (tgt := 70) hC dX4_addHeight_53 rfl (by decide) (by omega) (by omega) ⟨fun c53 => ?_, fun c53 => ?_⟩
              · refine kw_iload_n hC dX4_addHeight_70 rfl 2 rfl ?_
                refine kw_bipush hC dX4_addHeight_71 rfl (by decide) ?_
                refine kw_icmp_ne (tgt := 82) hC dX4_addHeight_73 rfl (by decide) (by omega) (by omega) ⟨fun c73 => ?_, fun c73 => ?_⟩
                · refine kw_aload_n hC dX4_addHeight_82 rfl 0 rfl ?_
                  refine kg_12_3 hC w4 f18 dX4_addHeight_83 rfl (by decide) (by decide) ?_
                  refine kw_iload_n hC dX4_addHeight_86 rfl 1 rfl ?_
                  refine ka_15 hC dX4_addHeight_87 rfl (by decide) (by decide) (by omega) (by omega) ?_
                  refine kw_chi (z' := S 15 0 a) (hko a).2.2 ?_
                  refine kw_istore_n (lv' := [(3, _), (0, _), (1, _), (2, _)]) hC dX4_addHeight_88 rfl (by decide) rfl ?_
                  have hL89 : ∀ (n89 : Nat) (x : Int) (W89 : wSt), Fr fRt S W89 → (S 15 0 a ≤ x) → (x ≤ e9) → (∀ j, W89 12 0 j = S 12 0 j ∧ W89 15 0 j = S 15 0 j) → (∀ j, W89 13 0 j = W45 13 0 j) → (∀ j, j < S 15 0 a → W89 14 0 j = S 14 0 j) → (∀ y, S 15 0 a ≤ y → y < x → (0 ≤ W89 14 0 y ∧ W89 14 0 y < 68719476736) ∧ ∀ i, 0 ≤ i → i < S 3 16 2 → dg (W89 14 0 y) i = upv (S 5 16) (S 3 16 2) (W45 13 0 y) a i) → e9 - x < (n89 : Int) → Wk E g 4 W89 89 [(0, vr g 12 0), (1, vi a), (2, vi e9), (3, vi x)] [] := by
                    intro n89
                    induction n89 with
                    | zero => intro x W89 hfW89 x0 x1 h12 h13 h14 hup hm89; exact absurd hm89 (by omega)
                    | succ n89 ih89 =>
                      intro x W89 hfW89 x0 x1 h12 h13 h14 hup hm89
                      have enW89 : W89 3 16 2 = S 3 16 2 := hfW89 3 16 2 (by unfold fRt; omega)
                      refine kw_iload_n hC dX4_addHeight_89 rfl 3 rfl ?_
                      refine kw_iload_n hC dX4_addHeight_90 rfl 2 rfl ?_
                      refine kw_icmp_ge (tgt := 117) hC dX4_addHeight_91 rfl (by decide) (by omega) (by omega) ⟨fun c91 => ?_, fun c91 => ?_⟩
                      · refine kw_aload_n hC dX4_addHeight_117 rfl 0 rfl ?_
                        refine kg_12_3 hC w4 f18 dX4_addHeight_118 rfl (by decide) (by decide) ?_
                        refine kw_iload_n hC dX4_addHeight_121 rfl 1 rfl ?_
                        refine kw_iconst hC dX4_addHeight_122 rfl ?_
                        refine kw_iadd hC dX4_addHeight_123 rfl ?_
                        refine kw_iload_n hC dX4_addHeight_124 rfl 2 rfl ?_
                        refine ks_15 hC dX4_addHeight_125 rfl (by decide) (by decide) (by omega) (by omega) ?_
                        refine kw_hv hfW89 (by unfold fRt; omega) (fun S12 hfS12 hv12 ho12 => ?_)
                        have enS12 : S12 3 16 2 = S 3 16 2 := hfS12 3 16 2 (by unfold fRt; omega)
                        have hvA := hv12
                        have hoA := ho12
                        refine kw_aload_n hC dX4_addHeight_126 rfl 0 rfl ?_
                        refine kw_iload_n hC dX4_addHeight_127 rfl 1 rfl ?_
                        refine kp_12_4 hC w4 f26 dX4_addHeight_128 rfl (by decide) (by decide) ?_
                        refine kw_hv hfS12 (by unfold fRt; omega) (fun S13 hfS13 hv13 ho13 => ?_)
                        have enS13 : S13 3 16 2 = S 3 16 2 := hfS13 3 16 2 (by unfold fRt; omega)
                        have hX : RLI S13 := by refine ⟨by rw [hv13]; omega, by rw [ho13 12 0 5 (by omega), hoA 12 0 5 (by omega), (h12 5).1]; exact hL.2.1, ?_⟩; rw [hv13, show S13 5 16 = S 5 16 from funext (fun j => hfS13 5 16 j (by unfold fRt; omega)), enS13]; exact hT.grow a1 a2 hn.2 (fun j hj => by rw [ho13 15 0 j (by omega), hoA 15 0 j (by omega)]; exact (h12 j).2) (by rw [ho13 15 0 _ (by omega)]; exact hvA) (fun x hx => by rw [ho13 13 0 x (by omega), hoA 13 0 x (by omega), h13 x]; exact hlow x hx) (fun x x0 hx => by rw [ho13 14 0 x (by omega), hoA 14 0 x (by omega)]; exact h14 x hx) (by omega) he4 (fun y y0 y1 => by rw [ho13 13 0 y (by omega), hoA 13 0 y (by omega), h13 y]; exact hkk (by omega) y y0 y1) (fun y y0 y1 => by rw [ho13 14 0 y (by omega), hoA 14 0 y (by omega), ho13 13 0 y (by omega), hoA 13 0 y (by omega), h13 y]; exact hup y y0 (by omega)) (fun ha i i0 i1 => by obtain ⟨y, y0, y1, y2⟩ := hown (by omega) ha i i0 i1; exact ⟨y, y0, y1, by rw [ho13 13 0 y (by omega), hoA 13 0 y (by omega), h13 y]; exact y2⟩) (fun lo x i l1 l2 x0 x1 i0 i1 he => by obtain ⟨z, z0, z1, z2⟩ := hcl (by omega) lo x i l1 (by omega) x0 x1 i0 i1 he; exact ⟨z, z0, z1, by rw [ho13 13 0 z (by omega), hoA 13 0 z (by omega), h13 z]; exact z2⟩)
                        exact hR9.2.2.2 rfl _ _ _ dX4_addHeight_131 ⟨rfl, hfS13, hX, Or.inl hv13⟩
                      · refine kw_aload_n hC dX4_addHeight_94 rfl 0 rfl ?_
                        refine kg_12_2 hC w4 f15 dX4_addHeight_95 rfl (by decide) (by decide) ?_
                        refine kw_iload_n hC dX4_addHeight_98 rfl 3 rfl ?_
                        refine kw_aload_n hC dX4_addHeight_99 rfl 0 rfl ?_
                        refine kw_aload_n hC dX4_addHeight_100 rfl 0 rfl ?_
                        refine kg_12_1 hC w4 f11 dX4_addHeight_101 rfl (by decide) (by decide) ?_
                        refine kw_iload_n hC dX4_addHeight_104 rfl 3 rfl ?_
                        refine ka_13 hC dX4_addHeight_105 rfl (by decide) (by decide) (by omega) (by omega) ?_
                        refine kw_chl (z' := W45 13 0 x) (h13 x) ?_
                        have hk9 := hkk (by omega) x (by omega) (by omega)
                        refine kw_iload_n hC dX4_addHeight_106 rfl 1 rfl ?_
                        refine kw_callV hC (d_X4_findUps hD (hRS.k13 hfW89 (fun j => (h12 j).1) (fun j => (h12 j).2) (fun x _ q => (h13 x).trans (hlow x (by rw [hh, show a - 1 + 1 = a by omega] at q; exact q))) (fun x x0 q => h14 x (by rw [hh, show a - 1 + 1 = a by omega] at q; exact q))) hk9.1.1 hk9.1.2 (by omega) (by omega)) gX4_addHeight_X4_findUps ⟨_, rfl⟩ rfl (by decide) (by decide) rfl ⟨rfl, rfl⟩ 2 (by decide +kernel) ⟨by decide, by decide⟩ rfl rfl (Nat.le_of_ble_eq_true rfl) dX4_addHeight_107 rfl (kd_l (fun r9 S9 hp9 => ?_))
                        obtain ⟨hu0, hu1, hS9⟩ := hp9
                        rw [hS9]
                        refine ks_14 hC dX4_addHeight_110 rfl (by decide) (by decide) (by omega) (by omega) ?_
                        refine kw_hv hfW89 (by unfold fRt; omega) (fun S14 hfS14 hv14 ho14 => ?_)
                        have enS14 : S14 3 16 2 = S 3 16 2 := hfS14 3 16 2 (by unfold fRt; omega)
                        have hup9 : ∀ y, S 15 0 a ≤ y → y < x + 1 → (0 ≤ S14 14 0 y ∧ S14 14 0 y < 68719476736) ∧ ∀ i, 0 ≤ i → i < S 3 16 2 → dg (S14 14 0 y) i = upv (S 5 16) (S 3 16 2) (W45 13 0 y) a i := fun y y0 y1 => by rcases Decidable.em (y = x) with q | q; exact (by rw [q, hv14]; refine ⟨hu0, fun i i0 i1 => ?_⟩; have h9 := hu1 i i0 (by rw [enW89]; exact i1); rw [enW89, show W89 5 16 = S 5 16 from funext (fun j => hfW89 5 16 j (by unfold fRt; omega))] at h9; exact h9); exact (by rw [ho14 14 0 y (by omega)]; exact hup y y0 (by omega))
                        refine kw_iinc (lv' := [(3, _), (0, _), (1, _), (2, _)]) hC dX4_addHeight_111 rfl 3 rfl (by decide) rfl ?_
                        refine kw_goto (tgt := 89) hC dX4_addHeight_114 rfl (by decide) ?_
                        refine kw_lv [1, 2, 3, 0] rfl ?_
                        exact ih89 (x + 1) S14 hfS14 (by omega) (by omega) (fun j => ⟨(ho14 12 0 j (by omega)).trans (h12 j).1, (ho14 15 0 j (by omega)).trans (h12 j).2⟩) (fun j => (ho14 13 0 j (by omega)).trans (h13 j)) (fun j hj => (ho14 14 0 j (by omega)).trans (h14 j hj)) hup9 (by omega)
                  refine kw_lv [1, 2, 3, 0] rfl ?_
                  exact hL89 401 _ W45 hfW45 (by omega) (by omega) (fun j => ⟨(hko j).1, (hko j).2.2⟩) (fun _ => rfl) (fun j _ => (hko j).2.1) (fun y _ _ => by omega) (by omega)
                · refine kw_aload_n hC dX4_addHeight_76 rfl 0 rfl ?_
                  refine kw_iconst hC dX4_addHeight_77 rfl ?_
                  refine kp_12_5 hC w4 f30 dX4_addHeight_78 rfl (by decide) (by decide) (by omega) ?_
                  refine kw_hv hfW45 (by unfold fRt; omega) (fun S15 hfS15 hv15 ho15 => ?_)
                  have enS15 : S15 3 16 2 = S 3 16 2 := hfS15 3 16 2 (by unfold fRt; omega)
                  have hX : RLI S15 := by refine ⟨by rw [ho15 12 0 4 (by omega), (hko 4).1]; omega, Or.inr hv15, ?_⟩; rw [ho15 12 0 4 (by omega), (hko 4).1, show S15 5 16 = S 5 16 from funext (fun j => hfS15 5 16 j (by unfold fRt; omega)), enS15, show S15 15 0 = S 15 0 from funext (fun j => (ho15 15 0 j (by omega)).trans (hko j).2.2), hh]; exact hT.ext (by omega) (fun x _ q => (ho15 13 0 x (by omega)).trans (hlow x (by rw [show a - 1 + 1 = a by omega] at q; exact q))) (fun x _ _ => (ho15 14 0 x (by omega)).trans (hko x).2.1)
                  exact hR9.2.2.2 rfl _ _ _ dX4_addHeight_81 ⟨rfl, hfS15, hX, Or.inr hv15⟩
              · refine kw_aload_n hC dX4_addHeight_56 rfl 0 rfl ?_
                refine kw_iload_n hC dX4_addHeight_57 rfl 3 rfl ?_
                refine kw_iload_n hC dX4_addHeight_58 rfl 1 rfl ?_
                refine kw_iload_n hC dX4_addHeight_59 rfl 2 rfl ?_
                refine kw_callV hC (d_X4_insertTurned hD (hRS.k13 hfW45 (fun j => (hko j).1) (fun j => (hko j).2.2) (fun x _ q => hlow x (by rw [hh, show a - 1 + 1 = a by omega] at q; exact q)) (fun x _ _ => (hko x).2.1)) (by omega) (by omega) (by omega) (by rw [(hko 4).1]; omega) (by rw [(hko a).2.2]; omega) (by omega) (fun y y0 y1 => by rw [(hko a).2.2] at y0; rw [enW45]; exact hkk (by omega) y y0 y1)) gX4_addHeight_X4_insertTurned ⟨_, rfl⟩ rfl (by decide) (by decide) rfl ⟨rfl, rfl⟩ 3 (by decide +kernel) ⟨by decide, by decide⟩ rfl rfl (Nat.le_of_ble_eq_true rfl) dX4_addHeight_60 rfl (kd_i (fun r16 S16 hp16 => ?_))
                obtain ⟨hg16, hp16⟩ := hp16
                have hfS16 : Fr fRt S S16 := hfW45.trans (hg16.mono (fun k i j h => by unfold fK13 at h; unfold fRt; omega))
                have enS16 : S16 3 16 2 = S 3 16 2 := hfS16 3 16 2 (by unfold fRt; omega)
                obtain ⟨iA, iB⟩ := hp16
                have gI : ∀ k j, k ≠ 13 → S16 k 0 j = W45 k 0 j := fun k j hk => hg16 k 0 j (by unfold fK13; omega)
                rw [(hko a).2.2] at iA iB
                rw [enW45, (hko low).2.2, (hko (low + 1)).2.2] at iB
                have hko9 : ∀ j, S16 12 0 j = S 12 0 j ∧ S16 14 0 j = S 14 0 j ∧ S16 15 0 j = S 15 0 j := fun j => ⟨(gI 12 j (by decide)).trans (hko j).1, (gI 14 j (by decide)).trans (hko j).2.1, (gI 15 j (by decide)).trans (hko j).2.2⟩
                have hlow9 : ∀ j, j < S 15 0 a → S16 13 0 j = S 13 0 j := fun j hj => (iA j hj).trans (hlow j hj)
                have hkk9 : r16 ≠ -3 → ∀ y, S 15 0 a ≤ y → y < r16 → KOK (S 3 16 2) a (S16 13 0 y) := fun hr9 => (iB.resolve_left hr9).2.2.1
                have hown9 : r16 ≠ -3 → a = 1 → ∀ i9 : Int, 0 ≤ i9 → i9 < S 3 16 2 → ∃ y, S 15 0 a ≤ y ∧ y < r16 ∧ S16 13 0 y = 1 * 64 ^ (5 - i9).toNat := fun _ ha => by omega
                have hcl9 : r16 ≠ -3 → ∀ lo x i, 1 ≤ lo → lo < low + 1 → S 15 0 lo ≤ x → x < S 15 0 (lo + 1) → 0 ≤ i → i < S 3 16 2 → dg (S 14 0 x) i = a → ∃ z, S 15 0 a ≤ z ∧ z < r16 ∧ S16 13 0 z = S 13 0 x + (a - lo) * 64 ^ (5 - i).toNat := fun hr9 lo x i l0 l1 x0 x1 i0 i1 he => by obtain ⟨q1, q2, q3, q4, q5⟩ := iB.resolve_left hr9; rcases Decidable.em (lo = low) with e | e; exact (by rw [e] at x0 x1 ⊢; have hxa : x < S 15 0 a := (by have := hT.mono (q := low + 1) (r := a) (by omega) (by omega) (by omega); omega); obtain ⟨z, z0, z1, z2⟩ := q5 x i x0 x1 i0 i1 (Or.inl x1) (by rw [(hko x).2.1]; exact he); exact ⟨z, z0, z1, by rw [z2, hlow x hxa]⟩); obtain ⟨z, z0, z1, z2⟩ := hcl (by omega) lo x i l0 (by omega) x0 x1 i0 i1 he; obtain ⟨v, v0, v1, v2⟩ := q4 z z0 z1; exact ⟨v, v0, v1, v2.trans z2⟩
                have her9 : r16 = -3 ∨ S 15 0 a ≤ r16 := iB.imp id (fun q => by omega)
                have he49 : r16 ≤ 400 := by rcases iB with q | q; omega; exact q.2.1
                refine kw_istore_n (lv' := [(2, _), (0, _), (1, _), (3, _)]) hC dX4_addHeight_63 rfl (by decide) rfl ?_
                refine kw_iinc (lv' := [(3, _), (2, _), (0, _), (1, _)]) hC dX4_addHeight_64 rfl 3 rfl (by decide) rfl ?_
                refine kw_goto (tgt := 45) hC dX4_addHeight_67 rfl (by decide) ?_
                refine kw_lv [2, 3, 1, 0] rfl ?_
                exact ih45 (low + 1) _ S16 hfS16 (by omega) (by omega) hko9 hlow9 her9 he49 hkk9 hown9 hcl9 (by omega)
        refine kw_lv [1, 2, 3, 0] rfl ?_
        exact hL45 41 1 _ W9 hfW9 (by omega) (by omega) hko hlow (by omega) (by omega) hkk (fun q1 q2 i i0 i1 => hown q1 q2 i i0 (by omega)) (fun _ lo x i _ _ => by omega) (by omega)
      · refine kw_iload_n hC dX4_addHeight_20 rfl 1 rfl ?_
        refine kw_iconst hC dX4_addHeight_21 rfl ?_
        refine kw_icmp_ne (tgt := 43) hC dX4_addHeight_22 rfl (by decide) (by omega) (by omega) ⟨fun c22 => ?_, fun c22 => ?_⟩
        · refine kw_iconst hC dX4_addHeight_43 rfl ?_
          refine kw_istore_n (lv' := [(3, _), (0, _), (1, _), (2, _)]) hC dX4_addHeight_44 rfl (by decide) rfl ?_
          have hL45 : ∀ (n45 : Nat) (low : Int) (e9 : Int) (W45 : wSt), Fr fRt S W45 → (1 ≤ low) → (low ≤ a) → (∀ j, W45 12 0 j = S 12 0 j ∧ W45 14 0 j = S 14 0 j ∧ W45 15 0 j = S 15 0 j) → (∀ j, j < S 15 0 a → W45 13 0 j = S 13 0 j) → (e9 = -3 ∨ S 15 0 a ≤ e9) → (e9 ≤ 400) → (e9 ≠ -3 → ∀ y, S 15 0 a ≤ y → y < e9 → KOK (S 3 16 2) a (W45 13 0 y)) → (e9 ≠ -3 → a = 1 → ∀ i8 : Int, 0 ≤ i8 → i8 < S 3 16 2 → ∃ y, S 15 0 a ≤ y ∧ y < e9 ∧ W45 13 0 y = 1 * 64 ^ (5 - i8).toNat) → (e9 ≠ -3 → ∀ lo x i, 1 ≤ lo → lo < low → S 15 0 lo ≤ x → x < S 15 0 (lo + 1) → 0 ≤ i → i < S 3 16 2 → dg (S 14 0 x) i = a → ∃ z, S 15 0 a ≤ z ∧ z < e9 ∧ W45 13 0 z = S 13 0 x + (a - lo) * 64 ^ (5 - i).toNat) → a - low < (n45 : Int) → Wk E g 4 W45 45 [(0, vr g 12 0), (1, vi a), (2, vi e9), (3, vi low)] [] := by
            intro n45
            induction n45 with
            | zero => intro low e9 W45 hfW45 l0 l1 hko hlow her he4 hkk hown hcl hm45; exact absurd hm45 (by omega)
            | succ n45 ih45 =>
              intro low e9 W45 hfW45 l0 l1 hko hlow her he4 hkk hown hcl hm45
              have enW45 : W45 3 16 2 = S 3 16 2 := hfW45 3 16 2 (by unfold fRt; omega)
              refine kw_iload_n hC dX4_addHeight_45 rfl 3 rfl ?_
              refine kw_iload_n hC dX4_addHeight_46 rfl 1 rfl ?_
              refine kw_icmp_ge (tgt := 70) hC dX4_addHeight_47 rfl (by decide) (by omega) (by omega) ⟨fun c47 => ?_, fun c47 => ?_⟩
              · refine kw_iload_n hC dX4_addHeight_70 rfl 2 rfl ?_
                refine kw_bipush hC dX4_addHeight_71 rfl (by decide) ?_
                refine kw_icmp_ne (tgt := 82) hC dX4_addHeight_73 rfl (by decide) (by omega) (by omega) ⟨fun c73 => ?_, fun c73 => ?_⟩
                · refine kw_aload_n hC dX4_addHeight_82 rfl 0 rfl ?_
                  refine kg_12_3 hC w4 f18 dX4_addHeight_83 rfl (by decide) (by decide) ?_
                  refine kw_iload_n hC dX4_addHeight_86 rfl 1 rfl ?_
                  refine ka_15 hC dX4_addHeight_87 rfl (by decide) (by decide) (by omega) (by omega) ?_
                  refine kw_chi (z' := S 15 0 a) (hko a).2.2 ?_
                  refine kw_istore_n (lv' := [(3, _), (0, _), (1, _), (2, _)]) hC dX4_addHeight_88 rfl (by decide) rfl ?_
                  have hL89 : ∀ (n89 : Nat) (x : Int) (W89 : wSt), Fr fRt S W89 → (S 15 0 a ≤ x) → (x ≤ e9) → (∀ j, W89 12 0 j = S 12 0 j ∧ W89 15 0 j = S 15 0 j) → (∀ j, W89 13 0 j = W45 13 0 j) → (∀ j, j < S 15 0 a → W89 14 0 j = S 14 0 j) → (∀ y, S 15 0 a ≤ y → y < x → (0 ≤ W89 14 0 y ∧ W89 14 0 y < 68719476736) ∧ ∀ i, 0 ≤ i → i < S 3 16 2 → dg (W89 14 0 y) i = upv (S 5 16) (S 3 16 2) (W45 13 0 y) a i) → e9 - x < (n89 : Int) → Wk E g 4 W89 89 [(0, vr g 12 0), (1, vi a), (2, vi e9), (3, vi x)] [] := by
                    intro n89
                    induction n89 with
                    | zero => intro x W89 hfW89 x0 x1 h12 h13 h14 hup hm89; exact absurd hm89 (by omega)
                    | succ n89 ih89 =>
                      intro x W89 hfW89 x0 x1 h12 h13 h14 hup hm89
                      have enW89 : W89 3 16 2 = S 3 16 2 := hfW89 3 16 2 (by unfold fRt; omega)
                      refine kw_iload_n hC dX4_addHeight_89 rfl 3 rfl ?_
                      refine kw_iload_n hC dX4_addHeight_90 rfl 2 rfl ?_
                      refine kw_icmp_ge (tgt := 117) hC dX4_addHeight_91 rfl (by decide) (by omega) (by omega) ⟨fun c91 => ?_, fun c91 => ?_⟩
                      · refine kw_aload_n hC dX4_addHeight_117 rfl 0 rfl ?_
                        refine kg_12_3 hC w4 f18 dX4_addHeight_118 rfl (by decide) (by decide) ?_
                        refine kw_iload_n hC dX4_addHeight_121 rfl 1 rfl ?_
                        refine kw_iconst hC dX4_addHeight_122 rfl ?_
                        refine kw_iadd hC dX4_addHeight_123 rfl ?_
                        refine kw_iload_n hC dX4_addHeight_124 rfl 2 rfl ?_
                        refine ks_15 hC dX4_addHeight_125 rfl (by decide) (by decide) (by omega) (by omega) ?_
                        refine kw_hv hfW89 (by unfold fRt; omega) (fun S21 hfS21 hv21 ho21 => ?_)
                        have enS21 : S21 3 16 2 = S 3 16 2 := hfS21 3 16 2 (by unfold fRt; omega)
                        have hvA := hv21
                        have hoA := ho21
                        refine kw_aload_n hC dX4_addHeight_126 rfl 0 rfl ?_
                        refine kw_iload_n hC dX4_addHeight_127 rfl 1 rfl ?_
                        refine kp_12_4 hC w4 f26 dX4_addHeight_128 rfl (by decide) (by decide) ?_
                        refine kw_hv hfS21 (by unfold fRt; omega) (fun S22 hfS22 hv22 ho22 => ?_)
                        have enS22 : S22 3 16 2 = S 3 16 2 := hfS22 3 16 2 (by unfold fRt; omega)
                        have hX : RLI S22 := by refine ⟨by rw [hv22]; omega, by rw [ho22 12 0 5 (by omega), hoA 12 0 5 (by omega), (h12 5).1]; exact hL.2.1, ?_⟩; rw [hv22, show S22 5 16 = S 5 16 from funext (fun j => hfS22 5 16 j (by unfold fRt; omega)), enS22]; exact hT.grow a1 a2 hn.2 (fun j hj => by rw [ho22 15 0 j (by omega), hoA 15 0 j (by omega)]; exact (h12 j).2) (by rw [ho22 15 0 _ (by omega)]; exact hvA) (fun x hx => by rw [ho22 13 0 x (by omega), hoA 13 0 x (by omega), h13 x]; exact hlow x hx) (fun x x0 hx => by rw [ho22 14 0 x (by omega), hoA 14 0 x (by omega)]; exact h14 x hx) (by omega) he4 (fun y y0 y1 => by rw [ho22 13 0 y (by omega), hoA 13 0 y (by omega), h13 y]; exact hkk (by omega) y y0 y1) (fun y y0 y1 => by rw [ho22 14 0 y (by omega), hoA 14 0 y (by omega), ho22 13 0 y (by omega), hoA 13 0 y (by omega), h13 y]; exact hup y y0 (by omega)) (fun ha i i0 i1 => by obtain ⟨y, y0, y1, y2⟩ := hown (by omega) ha i i0 i1; exact ⟨y, y0, y1, by rw [ho22 13 0 y (by omega), hoA 13 0 y (by omega), h13 y]; exact y2⟩) (fun lo x i l1 l2 x0 x1 i0 i1 he => by obtain ⟨z, z0, z1, z2⟩ := hcl (by omega) lo x i l1 (by omega) x0 x1 i0 i1 he; exact ⟨z, z0, z1, by rw [ho22 13 0 z (by omega), hoA 13 0 z (by omega), h13 z]; exact z2⟩)
                        exact hR9.2.2.2 rfl _ _ _ dX4_addHeight_131 ⟨rfl, hfS22, hX, Or.inl hv22⟩
                      · refine kw_aload_n hC dX4_addHeight_94 rfl 0 rfl ?_
                        refine kg_12_2 hC w4 f15 dX4_addHeight_95 rfl (by decide) (by decide) ?_
                        refine kw_iload_n hC dX4_addHeight_98 rfl 3 rfl ?_
                        refine kw_aload_n hC dX4_addHeight_99 rfl 0 rfl ?_
                        refine kw_aload_n hC dX4_addHeight_100 rfl 0 rfl ?_
                        refine kg_12_1 hC w4 f11 dX4_addHeight_101 rfl (by decide) (by decide) ?_
                        refine kw_iload_n hC dX4_addHeight_104 rfl 3 rfl ?_
                        refine ka_13 hC dX4_addHeight_105 rfl (by decide) (by decide) (by omega) (by omega) ?_
                        refine kw_chl (z' := W45 13 0 x) (h13 x) ?_
                        have hk9 := hkk (by omega) x (by omega) (by omega)
                        refine kw_iload_n hC dX4_addHeight_106 rfl 1 rfl ?_
                        refine kw_callV hC (d_X4_findUps hD (hRS.k13 hfW89 (fun j => (h12 j).1) (fun j => (h12 j).2) (fun x _ q => (h13 x).trans (hlow x (by rw [hh, show a - 1 + 1 = a by omega] at q; exact q))) (fun x x0 q => h14 x (by rw [hh, show a - 1 + 1 = a by omega] at q; exact q))) hk9.1.1 hk9.1.2 (by omega) (by omega)) gX4_addHeight_X4_findUps ⟨_, rfl⟩ rfl (by decide) (by decide) rfl ⟨rfl, rfl⟩ 2 (by decide +kernel) ⟨by decide, by decide⟩ rfl rfl (Nat.le_of_ble_eq_true rfl) dX4_addHeight_107 rfl (kd_l (fun r9 S9 hp9 => ?_))
                        obtain ⟨hu0, hu1, hS9⟩ := hp9
                        rw [hS9]
                        refine ks_14 hC dX4_addHeight_110 rfl (by decide) (by decide) (by omega) (by omega) ?_
                        refine kw_hv hfW89 (by unfold fRt; omega) (fun S23 hfS23 hv23 ho23 => ?_)
                        have enS23 : S23 3 16 2 = S 3 16 2 := hfS23 3 16 2 (by unfold fRt; omega)
                        have hup9 : ∀ y, S 15 0 a ≤ y → y < x + 1 → (0 ≤ S23 14 0 y ∧ S23 14 0 y < 68719476736) ∧ ∀ i, 0 ≤ i → i < S 3 16 2 → dg (S23 14 0 y) i = upv (S 5 16) (S 3 16 2) (W45 13 0 y) a i := fun y y0 y1 => by rcases Decidable.em (y = x) with q | q; exact (by rw [q, hv23]; refine ⟨hu0, fun i i0 i1 => ?_⟩; have h9 := hu1 i i0 (by rw [enW89]; exact i1); rw [enW89, show W89 5 16 = S 5 16 from funext (fun j => hfW89 5 16 j (by unfold fRt; omega))] at h9; exact h9); exact (by rw [ho23 14 0 y (by omega)]; exact hup y y0 (by omega))
                        refine kw_iinc (lv' := [(3, _), (0, _), (1, _), (2, _)]) hC dX4_addHeight_111 rfl 3 rfl (by decide) rfl ?_
                        refine kw_goto (tgt := 89) hC dX4_addHeight_114 rfl (by decide) ?_
                        refine kw_lv [1, 2, 3, 0] rfl ?_
                        exact ih89 (x + 1) S23 hfS23 (by omega) (by omega) (fun j => ⟨(ho23 12 0 j (by omega)).trans (h12 j).1, (ho23 15 0 j (by omega)).trans (h12 j).2⟩) (fun j => (ho23 13 0 j (by omega)).trans (h13 j)) (fun j hj => (ho23 14 0 j (by omega)).trans (h14 j hj)) hup9 (by omega)
                  refine kw_lv [1, 2, 3, 0] rfl ?_
                  exact hL89 401 _ W45 hfW45 (by omega) (by omega) (fun j => ⟨(hko j).1, (hko j).2.2⟩) (fun _ => rfl) (fun j _ => (hko j).2.1) (fun y _ _ => by omega) (by omega)
                · refine kw_aload_n hC dX4_addHeight_76 rfl 0 rfl ?_
                  refine kw_iconst hC dX4_addHeight_77 rfl ?_
                  refine kp_12_5 hC w4 f30 dX4_addHeight_78 rfl (by decide) (by decide) (by omega) ?_
                  refine kw_hv hfW45 (by unfold fRt; omega) (fun S24 hfS24 hv24 ho24 => ?_)
                  have enS24 : S24 3 16 2 = S 3 16 2 := hfS24 3 16 2 (by unfold fRt; omega)
                  have hX : RLI S24 := by refine ⟨by rw [ho24 12 0 4 (by omega), (hko 4).1]; omega, Or.inr hv24, ?_⟩; rw [ho24 12 0 4 (by omega), (hko 4).1, show S24 5 16 = S 5 16 from funext (fun j => hfS24 5 16 j (by unfold fRt; omega)), enS24, show S24 15 0 = S 15 0 from funext (fun j => (ho24 15 0 j (by omega)).trans (hko j).2.2), hh]; exact hT.ext (by omega) (fun x _ q => (ho24 13 0 x (by omega)).trans (hlow x (by rw [show a - 1 + 1 = a by omega] at q; exact q))) (fun x _ _ => (ho24 14 0 x (by omega)).trans (hko x).2.1)
                  exact hR9.2.2.2 rfl _ _ _ dX4_addHeight_81 ⟨rfl, hfS24, hX, Or.inr hv24⟩
              · refine kw_iload_n hC dX4_addHeight_50 rfl 2 rfl ?_
                refine kw_bipush hC dX4_addHeight_51 rfl (by decide) ?_
                refine kw_icmp_eq (tgt := 70) hC dX4_addHeight_53 rfl (by decide) (by omega) (by omega) ⟨fun c53 => ?_, fun c53 => ?_⟩
                · refine kw_iload_n hC dX4_addHeight_70 rfl 2 rfl ?_
                  refine kw_bipush hC dX4_addHeight_71 rfl (by decide) ?_
                  refine kw_icmp_ne (tgt := 82) hC dX4_addHeight_73 rfl (by decide) (by omega) (by omega) ⟨fun c73 => ?_, fun c73 => ?_⟩
                  · refine kw_aload_n hC dX4_addHeight_82 rfl 0 rfl ?_
                    refine kg_12_3 hC w4 f18 dX4_addHeight_83 rfl (by decide) (by decide) ?_
                    refine kw_iload_n hC dX4_addHeight_86 rfl 1 rfl ?_
                    refine ka_15 hC dX4_addHeight_87 rfl (by decide) (by decide) (by omega) (by omega) ?_
                    refine kw_chi (z' := S 15 0 a) (hko a).2.2 ?_
                    refine kw_istore_n (lv' := [(3, _), (0, _), (1, _), (2, _)]) hC dX4_addHeight_88 rfl (by decide) rfl ?_
                    have hL89 : ∀ (n89 : Nat) (x : Int) (W89 : wSt), Fr fRt S W89 → (S 15 0 a ≤ x) → (x ≤ e9) → (∀ j, W89 12 0 j = S 12 0 j ∧ W89 15 0 j = S 15 0 j) → (∀ j, W89 13 0 j = W45 13 0 j) → (∀ j, j < S 15 0 a → W89 14 0 j = S 14 0 j) → (∀ y, S 15 0 a ≤ y → y < x → (0 ≤ W89 14 0 y ∧ W89 14 0 y < 68719476736) ∧ ∀ i, 0 ≤ i → i < S 3 16 2 → dg (W89 14 0 y) i = upv (S 5 16) (S 3 16 2) (W45 13 0 y) a i) → e9 - x < (n89 : Int) → Wk E g 4 W89 89 [(0, vr g 12 0), (1, vi a), (2, vi e9), (3, vi x)] [] := by
                      intro n89
                      induction n89 with
                      | zero => intro x W89 hfW89 x0 x1 h12 h13 h14 hup hm89; exact absurd hm89 (by omega)
                      | succ n89 ih89 =>
                        intro x W89 hfW89 x0 x1 h12 h13 h14 hup hm89
                        have enW89 : W89 3 16 2 = S 3 16 2 := hfW89 3 16 2 (by unfold fRt; omega)
                        refine kw_iload_n hC dX4_addHeight_89 rfl 3 rfl ?_
                        refine kw_iload_n hC dX4_addHeight_90 rfl 2 rfl ?_
                        refine kw_icmp_ge (tgt := 117) hC dX4_addHeight_91 rfl (by decide) (by omega) (by omega) ⟨fun c91 => ?_, fun c91 => ?_⟩
                        · refine kw_aload_n hC dX4_addHeight_117 rfl 0 rfl ?_
                          refine kg_12_3 hC w4 f18 dX4_addHeight_118 rfl (by decide) (by decide) ?_
                          refine kw_iload_n hC dX4_addHeight_121 rfl 1 rfl ?_
                          refine kw_iconst hC dX4_addHeight_122 rfl ?_
                          refine kw_iadd hC dX4_addHeight_123 rfl ?_
                          refine kw_iload_n hC dX4_addHeight_124 rfl 2 rfl ?_
                          refine ks_15 hC dX4_addHeight_125 rfl (by decide) (by decide) (by omega) (by omega) ?_
                          refine kw_hv hfW89 (by unfold fRt; omega) (fun S28 hfS28 hv28 ho28 => ?_)
                          have enS28 : S28 3 16 2 = S 3 16 2 := hfS28 3 16 2 (by unfold fRt; omega)
                          have hvA := hv28
                          have hoA := ho28
                          refine kw_aload_n hC dX4_addHeight_126 rfl 0 rfl ?_
                          refine kw_iload_n hC dX4_addHeight_127 rfl 1 rfl ?_
                          refine kp_12_4 hC w4 f26 dX4_addHeight_128 rfl (by decide) (by decide) ?_
                          refine kw_hv hfS28 (by unfold fRt; omega) (fun S29 hfS29 hv29 ho29 => ?_)
                          have enS29 : S29 3 16 2 = S 3 16 2 := hfS29 3 16 2 (by unfold fRt; omega)
                          have hX : RLI S29 := by refine ⟨by rw [hv29]; omega, by rw [ho29 12 0 5 (by omega), hoA 12 0 5 (by omega), (h12 5).1]; exact hL.2.1, ?_⟩; rw [hv29, show S29 5 16 = S 5 16 from funext (fun j => hfS29 5 16 j (by unfold fRt; omega)), enS29]; exact hT.grow a1 a2 hn.2 (fun j hj => by rw [ho29 15 0 j (by omega), hoA 15 0 j (by omega)]; exact (h12 j).2) (by rw [ho29 15 0 _ (by omega)]; exact hvA) (fun x hx => by rw [ho29 13 0 x (by omega), hoA 13 0 x (by omega), h13 x]; exact hlow x hx) (fun x x0 hx => by rw [ho29 14 0 x (by omega), hoA 14 0 x (by omega)]; exact h14 x hx) (by omega) he4 (fun y y0 y1 => by rw [ho29 13 0 y (by omega), hoA 13 0 y (by omega), h13 y]; exact hkk (by omega) y y0 y1) (fun y y0 y1 => by rw [ho29 14 0 y (by omega), hoA 14 0 y (by omega), ho29 13 0 y (by omega), hoA 13 0 y (by omega), h13 y]; exact hup y y0 (by omega)) (fun ha i i0 i1 => by obtain ⟨y, y0, y1, y2⟩ := hown (by omega) ha i i0 i1; exact ⟨y, y0, y1, by rw [ho29 13 0 y (by omega), hoA 13 0 y (by omega), h13 y]; exact y2⟩) (fun lo x i l1 l2 x0 x1 i0 i1 he => by obtain ⟨z, z0, z1, z2⟩ := hcl (by omega) lo x i l1 (by omega) x0 x1 i0 i1 he; exact ⟨z, z0, z1, by rw [ho29 13 0 z (by omega), hoA 13 0 z (by omega), h13 z]; exact z2⟩)
                          exact hR9.2.2.2 rfl _ _ _ dX4_addHeight_131 ⟨rfl, hfS29, hX, Or.inl hv29⟩
                        · refine kw_aload_n hC dX4_addHeight_94 rfl 0 rfl ?_
                          refine kg_12_2 hC w4 f15 dX4_addHeight_95 rfl (by decide) (by decide) ?_
                          refine kw_iload_n hC dX4_addHeight_98 rfl 3 rfl ?_
                          refine kw_aload_n hC dX4_addHeight_99 rfl 0 rfl ?_
                          refine kw_aload_n hC dX4_addHeight_100 rfl 0 rfl ?_
                          refine kg_12_1 hC w4 f11 dX4_addHeight_101 rfl (by decide) (by decide) ?_
                          refine kw_iload_n hC dX4_addHeight_104 rfl 3 rfl ?_
                          refine ka_13 hC dX4_addHeight_105 rfl (by decide) (by decide) (by omega) (by omega) ?_
                          refine kw_chl (z' := W45 13 0 x) (h13 x) ?_
                          have hk9 := hkk (by omega) x (by omega) (by omega)
                          refine kw_iload_n hC dX4_addHeight_106 rfl 1 rfl ?_
                          refine kw_callV hC (d_X4_findUps hD (hRS.k13 hfW89 (fun j => (h12 j).1) (fun j => (h12 j).2) (fun x _ q => (h13 x).trans (hlow x (by rw [hh, show a - 1 + 1 = a by omega] at q; exact q))) (fun x x0 q => h14 x (by rw [hh, show a - 1 + 1 = a by omega] at q; exact q))) hk9.1.1 hk9.1.2 (by omega) (by omega)) gX4_addHeight_X4_findUps ⟨_, rfl⟩ rfl (by decide) (by decide) rfl ⟨rfl, rfl⟩ 2 (by decide +kernel) ⟨by decide, by decide⟩ rfl rfl (Nat.le_of_ble_eq_true rfl) dX4_addHeight_107 rfl (kd_l (fun r9 S9 hp9 => ?_))
                          obtain ⟨hu0, hu1, hS9⟩ := hp9
                          rw [hS9]
                          refine ks_14 hC dX4_addHeight_110 rfl (by decide) (by decide) (by omega) (by omega) ?_
                          refine kw_hv hfW89 (by unfold fRt; omega) (fun S30 hfS30 hv30 ho30 => ?_)
                          have enS30 : S30 3 16 2 = S 3 16 2 := hfS30 3 16 2 (by unfold fRt; omega)
                          have hup9 : ∀ y, S 15 0 a ≤ y → y < x + 1 → (0 ≤ S30 14 0 y ∧ S30 14 0 y < 68719476736) ∧ ∀ i, 0 ≤ i → i < S 3 16 2 → dg (S30 14 0 y) i = upv (S 5 16) (S 3 16 2) (W45 13 0 y) a i := fun y y0 y1 => by rcases Decidable.em (y = x) with q | q; exact (by rw [q, hv30]; refine ⟨hu0, fun i i0 i1 => ?_⟩; have h9 := hu1 i i0 (by rw [enW89]; exact i1); rw [enW89, show W89 5 16 = S 5 16 from funext (fun j => hfW89 5 16 j (by unfold fRt; omega))] at h9; exact h9); exact (by rw [ho30 14 0 y (by omega)]; exact hup y y0 (by omega))
                          refine kw_iinc (lv' := [(3, _), (0, _), (1, _), (2, _)]) hC dX4_addHeight_111 rfl 3 rfl (by decide) rfl ?_
                          refine kw_goto (tgt := 89) hC dX4_addHeight_114 rfl (by decide) ?_
                          refine kw_lv [1, 2, 3, 0] rfl ?_
                          exact ih89 (x + 1) S30 hfS30 (by omega) (by omega) (fun j => ⟨(ho30 12 0 j (by omega)).trans (h12 j).1, (ho30 15 0 j (by omega)).trans (h12 j).2⟩) (fun j => (ho30 13 0 j (by omega)).trans (h13 j)) (fun j hj => (ho30 14 0 j (by omega)).trans (h14 j hj)) hup9 (by omega)
                    refine kw_lv [1, 2, 3, 0] rfl ?_
                    exact hL89 401 _ W45 hfW45 (by omega) (by omega) (fun j => ⟨(hko j).1, (hko j).2.2⟩) (fun _ => rfl) (fun j _ => (hko j).2.1) (fun y _ _ => by omega) (by omega)
                  · refine kw_aload_n hC dX4_addHeight_76 rfl 0 rfl ?_
                    refine kw_iconst hC dX4_addHeight_77 rfl ?_
                    refine kp_12_5 hC w4 f30 dX4_addHeight_78 rfl (by decide) (by decide) (by omega) ?_
                    refine kw_hv hfW45 (by unfold fRt; omega) (fun S31 hfS31 hv31 ho31 => ?_)
                    have enS31 : S31 3 16 2 = S 3 16 2 := hfS31 3 16 2 (by unfold fRt; omega)
                    have hX : RLI S31 := by refine ⟨by rw [ho31 12 0 4 (by omega), (hko 4).1]; omega, Or.inr hv31, ?_⟩; rw [ho31 12 0 4 (by omega), (hko 4).1, show S31 5 16 = S 5 16 from funext (fun j => hfS31 5 16 j (by unfold fRt; omega)), enS31, show S31 15 0 = S 15 0 from funext (fun j => (ho31 15 0 j (by omega)).trans (hko j).2.2), hh]; exact hT.ext (by omega) (fun x _ q => (ho31 13 0 x (by omega)).trans (hlow x (by rw [show a - 1 + 1 = a by omega] at q; exact q))) (fun x _ _ => (ho31 14 0 x (by omega)).trans (hko x).2.1)
                    exact hR9.2.2.2 rfl _ _ _ dX4_addHeight_81 ⟨rfl, hfS31, hX, Or.inr hv31⟩
                · refine kw_aload_n hC dX4_addHeight_56 rfl 0 rfl ?_
                  refine kw_iload_n hC dX4_addHeight_57 rfl 3 rfl ?_
                  refine kw_iload_n hC dX4_addHeight_58 rfl 1 rfl ?_
                  refine kw_iload_n hC dX4_addHeight_59 rfl 2 rfl ?_
                  refine kw_callV hC (d_X4_insertTurned hD (hRS.k13 hfW45 (fun j => (hko j).1) (fun j => (hko j).2.2) (fun x _ q => hlow x (by rw [hh, show a - 1 + 1 = a by omega] at q; exact q)) (fun x _ _ => (hko x).2.1)) (by omega) (by omega) (by omega) (by rw [(hko 4).1]; omega) (by rw [(hko a).2.2]; omega) (by omega) (fun y y0 y1 => by rw [(hko a).2.2] at y0; rw [enW45]; exact hkk (by omega) y y0 y1)) gX4_addHeight_X4_insertTurned ⟨_, rfl⟩ rfl (by decide) (by decide) rfl ⟨rfl, rfl⟩ 3 (by decide +kernel) ⟨by decide, by decide⟩ rfl rfl (Nat.le_of_ble_eq_true rfl) dX4_addHeight_60 rfl (kd_i (fun r32 S32 hp32 => ?_))
                  obtain ⟨hg32, hp32⟩ := hp32
                  have hfS32 : Fr fRt S S32 := hfW45.trans (hg32.mono (fun k i j h => by unfold fK13 at h; unfold fRt; omega))
                  have enS32 : S32 3 16 2 = S 3 16 2 := hfS32 3 16 2 (by unfold fRt; omega)
                  obtain ⟨iA, iB⟩ := hp32
                  have gI : ∀ k j, k ≠ 13 → S32 k 0 j = W45 k 0 j := fun k j hk => hg32 k 0 j (by unfold fK13; omega)
                  rw [(hko a).2.2] at iA iB
                  rw [enW45, (hko low).2.2, (hko (low + 1)).2.2] at iB
                  have hko9 : ∀ j, S32 12 0 j = S 12 0 j ∧ S32 14 0 j = S 14 0 j ∧ S32 15 0 j = S 15 0 j := fun j => ⟨(gI 12 j (by decide)).trans (hko j).1, (gI 14 j (by decide)).trans (hko j).2.1, (gI 15 j (by decide)).trans (hko j).2.2⟩
                  have hlow9 : ∀ j, j < S 15 0 a → S32 13 0 j = S 13 0 j := fun j hj => (iA j hj).trans (hlow j hj)
                  have hkk9 : r32 ≠ -3 → ∀ y, S 15 0 a ≤ y → y < r32 → KOK (S 3 16 2) a (S32 13 0 y) := fun hr9 => (iB.resolve_left hr9).2.2.1
                  have hown9 : r32 ≠ -3 → a = 1 → ∀ i9 : Int, 0 ≤ i9 → i9 < S 3 16 2 → ∃ y, S 15 0 a ≤ y ∧ y < r32 ∧ S32 13 0 y = 1 * 64 ^ (5 - i9).toNat := fun _ ha => by omega
                  have hcl9 : r32 ≠ -3 → ∀ lo x i, 1 ≤ lo → lo < low + 1 → S 15 0 lo ≤ x → x < S 15 0 (lo + 1) → 0 ≤ i → i < S 3 16 2 → dg (S 14 0 x) i = a → ∃ z, S 15 0 a ≤ z ∧ z < r32 ∧ S32 13 0 z = S 13 0 x + (a - lo) * 64 ^ (5 - i).toNat := fun hr9 lo x i l0 l1 x0 x1 i0 i1 he => by obtain ⟨q1, q2, q3, q4, q5⟩ := iB.resolve_left hr9; rcases Decidable.em (lo = low) with e | e; exact (by rw [e] at x0 x1 ⊢; have hxa : x < S 15 0 a := (by have := hT.mono (q := low + 1) (r := a) (by omega) (by omega) (by omega); omega); obtain ⟨z, z0, z1, z2⟩ := q5 x i x0 x1 i0 i1 (Or.inl x1) (by rw [(hko x).2.1]; exact he); exact ⟨z, z0, z1, by rw [z2, hlow x hxa]⟩); obtain ⟨z, z0, z1, z2⟩ := hcl (by omega) lo x i l0 (by omega) x0 x1 i0 i1 he; obtain ⟨v, v0, v1, v2⟩ := q4 z z0 z1; exact ⟨v, v0, v1, v2.trans z2⟩
                  have her9 : r32 = -3 ∨ S 15 0 a ≤ r32 := iB.imp id (fun q => by omega)
                  have he49 : r32 ≤ 400 := by rcases iB with q | q; omega; exact q.2.1
                  refine kw_istore_n (lv' := [(2, _), (0, _), (1, _), (3, _)]) hC dX4_addHeight_63 rfl (by decide) rfl ?_
                  refine kw_iinc (lv' := [(3, _), (2, _), (0, _), (1, _)]) hC dX4_addHeight_64 rfl 3 rfl (by decide) rfl ?_
                  refine kw_goto (tgt := 45) hC dX4_addHeight_67 rfl (by decide) ?_
                  refine kw_lv [2, 3, 1, 0] rfl ?_
                  exact ih45 (low + 1) _ S32 hfS32 (by omega) (by omega) hko9 hlow9 her9 he49 hkk9 hown9 hcl9 (by omega)
          refine kw_lv [1, 2, 3, 0] rfl ?_
          exact hL45 41 1 _ W9 hfW9 (by omega) (by omega) hko hlow (by omega) (by omega) hkk (fun q1 q2 i i0 i1 => hown q1 q2 i i0 (by omega)) (fun _ lo x i _ _ => by omega) (by omega)
        · have ha1 : a = 1 := by omega
          have hFa0 : S 15 0 a = 0 := by rw [ha1]; exact hF1
          refine kw_aload_n hC dX4_addHeight_25 rfl 0 rfl ?_
          refine kw_iconst hC dX4_addHeight_26 rfl ?_
          refine kw_iload_n hC dX4_addHeight_27 rfl 3 rfl ?_
          refine kw_callS hC (d_X4_pack hD (by omega) (by omega) (by omega) (by omega)) gX4_addHeight_X4_pack rfl ⟨rfl, rfl⟩ 2 (by decide +kernel) ⟨by decide, by decide⟩ rfl rfl (Nat.le_of_ble_eq_true rfl) dX4_addHeight_28 rfl (kd_le ?_)
          have hk1 : KOK (S 3 16 2) 1 (1 * 64 ^ (5 - i).toNat) := by have := (KOK.zero (S 3 16 2)).add (m := 1) (c := i) (by omega) (by omega) (by omega) (by omega) (by omega); rw [Int.zero_add, Int.zero_add] at this; exact this
          refine kw_iconst hC dX4_addHeight_31 rfl ?_
          refine kw_iload_n hC dX4_addHeight_32 rfl 2 rfl ?_
          refine kw_callV hC (d_X4_insert hD (hk1.1.1) (hk1.1.2) (by omega) (by omega) (by omega) (fun y y0 y1 => (hkk (by omega) y (by omega) y1).1)) gX4_addHeight_X4_insert ⟨_, rfl⟩ rfl (by decide) (by decide) rfl ⟨rfl, rfl⟩ 3 (by decide +kernel) ⟨by decide, by decide⟩ rfl rfl (Nat.le_of_ble_eq_true rfl) dX4_addHeight_33 rfl (kd_i (fun r33 S33 hp33 => ?_))
          obtain ⟨hg33, hp33⟩ := hp33
          have hfS33 : Fr fRt S S33 := hfW9.trans (hg33.mono (fun k i j h => by unfold fK13 at h; unfold fRt; omega))
          have enS33 : S33 3 16 2 = S 3 16 2 := hfS33 3 16 2 (by unfold fRt; omega)
          obtain ⟨iA, iB⟩ := hp33
          have gI : ∀ k j, k ≠ 13 → S33 k 0 j = W9 k 0 j := fun k j hk => hg33 k 0 j (by unfold fK13; omega)
          have iB2 := iB.resolve_left (fun q => by omega)
          have hrE1 : i + 1 ≤ S 3 16 2 := by omega
          have hrF : S 3 16 2 - (i + 1) < (n9 : Int) := by omega
          have hrD : 0 ≤ i + 1 := by omega
          have hrE := hrE1
          have hrG : 0 ≤ e9 ∧ e9 ≤ i := hei ha1
          have hrA : r33 = -3 ∨ S 15 0 a ≤ r33 := by have p1 := iB2.1; clear iB iB2 iA; omega
          have hrB : r33 ≤ 400 := iB2.2.1
          have hrC : a = 1 → 0 ≤ r33 ∧ r33 ≤ i + 1 := fun _ => by have p1 := iB2.1; clear iB iB2 iA; omega
          obtain ⟨p1, p2, ⟨y9, y90, y91, y92⟩, p4, p5⟩ := iB2
          have hkk9 : r33 ≠ -3 → ∀ y, S 15 0 a ≤ y → y < r33 → KOK (S 3 16 2) a (S33 13 0 y) := fun _ y y0 y1 => by rcases p5 y (by omega) y1 with q | ⟨w, w0, w1, w2⟩; exact (by rw [q, ha1]; exact hk1); exact (by rw [w2]; exact hkk (by omega) w (by omega) w1)
          have hown9 : r33 ≠ -3 → a = 1 → ∀ i9 : Int, 0 ≤ i9 → i9 < i + 1 → ∃ y, S 15 0 a ≤ y ∧ y < r33 ∧ S33 13 0 y = 1 * 64 ^ (5 - i9).toNat := fun _ ha i9 i0 i1 => by rcases Decidable.em (i9 = i) with q | q; exact ⟨y9, by omega, y91, by rw [q]; exact y92⟩; obtain ⟨w, w0, w1, w2⟩ := hown (by omega) ha i9 i0 (by omega); obtain ⟨v, v0, v1, v2⟩ := p4 w (by omega) w1; exact ⟨v, by omega, v1, v2.trans w2⟩
          have hko9 : ∀ j, S33 12 0 j = S 12 0 j ∧ S33 14 0 j = S 14 0 j ∧ S33 15 0 j = S 15 0 j := fun j => ⟨(gI 12 j (by decide)).trans (hko j).1, (gI 14 j (by decide)).trans (hko j).2.1, (gI 15 j (by decide)).trans (hko j).2.2⟩
          have hlow9 : ∀ j, j < S 15 0 a → S33 13 0 j = S 13 0 j := fun j hj => (iA j (by rw [ha1, hF1] at hj; exact hj)).trans (hlow j hj)
          refine kw_istore_n (lv' := [(2, _), (0, _), (1, _), (3, _)]) hC dX4_addHeight_36 rfl (by decide) rfl ?_
          refine kw_iinc (lv' := [(3, _), (2, _), (0, _), (1, _)]) hC dX4_addHeight_37 rfl 3 rfl (by decide) rfl ?_
          refine kw_goto (tgt := 9) hC dX4_addHeight_40 rfl (by decide) ?_
          refine kw_lv [2, 3, 1, 0] rfl ?_
          exact ih9 (i + 1) _ S33 hfS33 hrD hrE hko9 hlow9 hrA hrB hrC (fun q => absurd ha1 q) hkk9 hown9 hrF
  refine kw_lv [2, 3, 1, 0] rfl ?_
  exact hL9 7 0 _ S hfS (by omega) (by omega) (fun _ => ⟨rfl, rfl, rfl⟩) (fun _ _ => rfl) (by omega) (by omega) (fun q => by rw [q, hF1]; omega) (by omega) (fun _ y _ _ => by omega) (fun _ _ i _ _ => by omega) (by omega)
