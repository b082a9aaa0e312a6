set_option maxHeartbeats 4000000 in
set_option maxRecDepth 100000 in
theorem d_X8_downs {g : wG} (hD : wD g) {S : wSt} {a b : Int} (ha : -2147483648 ≤ a ∧ a ≤ 2147483647) (hb : -2147483648 ≤ b ∧ b ≤ 2147483647) (hRS : RI S) (l : Launch) : Kt l yX8_downs wsX8_downs ({ frames := 4, cells := 0, slots := 0, locals := 93 } : Room) g S [vr g 30 0, vi a, vi b] (pI (fun _ S' => RI S' ∧ Fr tW S S')) := by
  refine Kt.of (cc := cX8_downs) (nL := 6) (ret := (some .int)) (own := RX8) rfl hD (by decide) rfl (Nat.le_of_ble_eq_true rfl) ⟨rfl, rfl⟩ ?_
  intro E hC hR9
  have f11 : Cond.fieldLink RX8 11 "MirrorBenchModel" "mirrors" "I" ∈ wsX8_downs := by decide +kernel
  have f81 : Cond.fieldLink RX8 81 "MirrorBenchModel" "isGreat" "Z" ∈ wsX8_downs := by decide +kernel
  have w8 : ∀ w ∈ wsX80, w ∈ wsX8_downs := by decide +kernel
  show Wk E g 6 S 0 [(0, vr g 30 0), (1, vi a), (2, vi b)] []
  have hfS : Fr tR S S := Fr.rfl _ S
  have hRS := hRS.fr hfS
  have hnS := hRS.n
  have enS : S 30 0 0 = S 30 0 0 := hfS 30 0 0 (by unfold tR; omega)
  refine kw_iload_n hC dX8_downs_0 rfl 1 rfl ?_
  refine kw_callS hC (d_X8_isSlot hD (by omega)) gX8_downs_X8_isSlot rfl ⟨rfl, rfl⟩ 1 (by decide +kernel) ⟨by decide, by decide⟩ rfl rfl (Nat.le_of_ble_eq_true rfl) dX8_downs_1 rfl (kd_ie ?_)
  refine kw_ifne_b (tgt := 9) hC dX8_downs_4 rfl (by decide) ⟨fun c4 => ?_, fun c4 => ?_⟩
  · refine kw_aload_n hC dX8_downs_9 rfl 0 rfl ?_
    refine kw_iload_n hC dX8_downs_10 rfl 1 rfl ?_
    refine kw_callV hC (d_X8_load hD (by omega) (by omega) hRS) gX8_downs_X8_load ⟨_, rfl⟩ rfl (by decide) (by decide) rfl ⟨rfl, rfl⟩ 1 (by decide +kernel) ⟨by decide, by decide⟩ rfl rfl (Nat.le_of_ble_eq_true rfl) dX8_downs_11 rfl (kd_v (fun S2 hp2 => ?_))
    obtain ⟨hg2, hp2⟩ := hp2
    have hfS2 : Fr tR S S2 := hfS.trans (hg2.mono (fun k i j h => by unfold fL at h; unfold tR; omega))
    have hRS2 := hRS.fr hfS2
    have hnS2 := hRS2.n
    have enS2 : S2 30 0 0 = S 30 0 0 := hfS2 30 0 0 (by unfold tR; omega)
    obtain ⟨q14, qW⟩ := hp2
    have hwv : WV (S2 53 0) (S2 30 0 14) (S2 30 0 0) := ldWV hRS (by omega) (by omega) q14 qW (by omega)
    have hl2 := hRS.ln a (by omega) (by omega)
    refine kw_aload_n hC dX8_downs_14 rfl 0 rfl ?_
    refine kw_callV hC (d_X8_shortOf hD hRS2 hwv (by omega) (by omega)) gX8_downs_X8_shortOf ⟨_, rfl⟩ rfl (by decide) (by decide) rfl ⟨rfl, rfl⟩ 0 (by decide +kernel) ⟨by decide, by decide⟩ rfl rfl (Nat.le_of_ble_eq_true rfl) dX8_downs_15 rfl (kd_i (fun r3 S3 hp3 => ?_))
    obtain ⟨hg3, hp3⟩ := hp3
    have hfS3 : Fr tR S S3 := hfS2.trans (hg3.mono (fun k i j h => by unfold fS at h; unfold tR; omega))
    have hRS3 := hRS.fr hfS3
    have hnS3 := hRS3.n
    have enS3 : S3 30 0 0 = S 30 0 0 := hfS3 30 0 0 (by unfold tR; omega)
    obtain ⟨hb3, ⟨r0, r1⟩, hrv, hgw⟩ := hp3
    replace hrv : WV (S3 47 0) (S3 30 0 8) (S3 30 0 0) := hrv.eq (fun _ _ _ => rfl) rfl (by omega)
    refine kw_if_ne (tgt := 24) hC dX8_downs_18 rfl (by decide) (by omega) ⟨fun c18 => ?_, fun c18 => ?_⟩
    · refine kw_iconst hC dX8_downs_24 rfl ?_
      refine kw_istore_n (lv' := [(3, _), (0, _), (1, _), (2, _)]) hC dX8_downs_25 rfl (by decide) rfl ?_
      refine kw_iconst hC dX8_downs_26 rfl ?_
      refine kw_istore (lv' := [(4, _), (3, _), (0, _), (1, _), (2, _)]) hC dX8_downs_27 rfl (by decide) rfl ?_
      have hL29 : ∀ (n29 : Nat) (s : Int) (z : Int) (W29 : wSt), Fr tR S W29 → (0 ≤ s) → (s ≤ W29 30 0 0) → (s ≤ 6) → (WV (W29 47 0) (W29 30 0 8) (W29 30 0 0)) → (0 ≤ W29 30 0 8) → (W29 30 0 8 ≤ 100) → (W29 30 0 16 = 0 ∨ W29 30 0 16 = 1) → 6 - s < (n29 : Int) → Wk E g 6 W29 29 [(0, vr g 30 0), (1, vi a), (2, vi b), (3, vi z), (4, vi s)] [] := by
        intro n29
        induction n29 with
        | zero => intro s z W29 hfW29 s0 s1 s6 hrv r0 r1 hgw hm29; exact absurd hm29 (by omega)
        | succ n29 ih29 =>
          intro s z W29 hfW29 s0 s1 s6 hrv r0 r1 hgw hm29
          have hRW29 := hRS.fr hfW29
          have hnW29 := hRW29.n
          have enW29 : W29 30 0 0 = S 30 0 0 := hfW29 30 0 0 (by unfold tR; omega)
          refine kw_iload hC dX8_downs_29 rfl 4 rfl ?_
          refine kw_aload_n hC dX8_downs_31 rfl 0 rfl ?_
          refine kg_30_0 hC w8 f11 dX8_downs_32 rfl (by decide) (by decide) ?_
          refine kw_icmp_ge (tgt := 91) hC dX8_downs_35 rfl (by decide) (by omega) (by omega) ⟨fun c35 => ?_, fun c35 => ?_⟩
          · refine kw_iload_n hC dX8_downs_91 rfl 3 rfl ?_
            exact hR9.1 rfl _ _ _ _ dX8_downs_92 (by first | exact ⟨_, rfl, hp9.2.1, (tR_tW hfW29).trans (fV_tW hp9.2.2.1)⟩ | exact ⟨_, rfl, hRW29, tR_tW hfW29⟩)
          · refine kw_iload_n hC dX8_downs_38 rfl 2 rfl ?_
            refine kw_if_eq (tgt := 51) hC dX8_downs_39 rfl (by decide) (by omega) ⟨fun c39 => ?_, fun c39 => ?_⟩
            · refine kw_aload_n hC dX8_downs_51 rfl 0 rfl ?_
              refine kw_iload hC dX8_downs_52 rfl 4 rfl ?_
              refine kw_callV hC (d_X8_behind hD (by omega) hRW29 hrv (by omega) (by omega) hgw) gX8_downs_X8_behind ⟨_, rfl⟩ rfl (by decide) (by decide) rfl ⟨rfl, rfl⟩ 1 (by decide +kernel) ⟨by decide, by decide⟩ rfl rfl (Nat.le_of_ble_eq_true rfl) dX8_downs_54 rfl (kd_i (fun r7 S7 hp7 => ?_))
              obtain ⟨hg7, hp7⟩ := hp7
              have hfS7 : Fr tR S S7 := hfW29.trans (hg7.mono (fun k i j h => by unfold fT at h; unfold tR; omega))
              have hRS7 := hRS.fr hfS7
              have hnS7 := hRS7.n
              have enS7 : S7 30 0 0 = S 30 0 0 := hfS7 30 0 0 (by unfold tR; omega)
              obtain ⟨⟨k07, k17⟩, hgw, -⟩ := hp7
              have e8_7 : S7 30 0 8 = W29 30 0 8 := hg7 30 0 8 (by unfold fT; omega)
              replace hrv : WV (S7 47 0) (S7 30 0 8) (S7 30 0 0) := hrv.eq (fun j _ _ => hg7 47 0 j (by unfold fT; omega)) e8_7 (hg7 30 0 0 (by unfold fT; omega))
              refine kw_istore (lv' := [(5, _), (0, _), (1, _), (2, _), (3, _), (4, _)]) hC dX8_downs_57 rfl (by decide) rfl ?_
              refine kw_aload_n hC dX8_downs_59 rfl 1 rfl ?_
              refine kg_30_16 hC w8 f81 dX8_downs_60 rfl (by decide) (by decide) ?_
              refine kw_if_eq (tgt := 69) hC dX8_downs_63 rfl (by decide) (by omega) ⟨fun c63 => ?_, fun c63 => ?_⟩
              · refine kw_iload_n hC dX8_downs_69 rfl 4 rfl ?_
                refine kw_iload hC dX8_downs_70 rfl 0 rfl ?_
                refine kw_if_lt (tgt := 82) hC dX8_downs_72 rfl (by decide) (by omega) ⟨fun c72 => ?_, fun c72 => ?_⟩
                · refine kw_iconst hC dX8_downs_82 rfl ?_
                  refine kw_iorX hC dX8_downs_83 rfl ?_
                  refine kw_istore_n (lv' := [(3, _), (5, _), (0, _), (1, _), (2, _), (4, _)]) hC dX8_downs_84 rfl (by decide) rfl ?_
                  refine kw_iinc (lv' := [(4, _), (3, _), (5, _), (0, _), (1, _), (2, _)]) hC dX8_downs_85 rfl 5 rfl (by decide) rfl ?_
                  refine kw_goto (tgt := 29) hC dX8_downs_88 rfl (by decide) ?_
                  refine kw_lv [3, 4, 5, 1, 0] rfl ?_
                  exact ih29 (s + 1) _ S7 hfS7 (by omega) (by omega) (by omega) hrv (by omega) (by omega) hgw (by omega)
                · refine kw_iconst hC dX8_downs_75 rfl ?_
                  refine kw_iload hC dX8_downs_76 rfl 5 rfl ?_
                  refine kw_ishlX hC dX8_downs_78 rfl ?_
                  refine kw_goto (tgt := 83) hC dX8_downs_79 rfl (by decide) ?_
                  refine kw_iorX hC dX8_downs_83 rfl ?_
                  refine kw_istore_n (lv' := [(3, _), (5, _), (0, _), (1, _), (2, _), (4, _)]) hC dX8_downs_84 rfl (by decide) rfl ?_
                  refine kw_iinc (lv' := [(4, _), (3, _), (5, _), (0, _), (1, _), (2, _)]) hC dX8_downs_85 rfl 5 rfl (by decide) rfl ?_
                  refine kw_goto (tgt := 29) hC dX8_downs_88 rfl (by decide) ?_
                  refine kw_lv [3, 4, 5, 1, 0] rfl ?_
                  exact ih29 (s + 1) _ S7 hfS7 (by omega) (by omega) (by omega) hrv (by omega) (by omega) hgw (by omega)
              · refine kw_bipush hC dX8_downs_66 rfl (by decide) ?_
                exact hR9.1 rfl _ _ _ _ dX8_downs_68 (by first | exact ⟨_, rfl, hp9.2.1, (tR_tW hfS7).trans (fV_tW hp9.2.2.1)⟩ | exact ⟨_, rfl, hRS7, tR_tW hfS7⟩)
            · refine kw_aload_n hC dX8_downs_42 rfl 0 rfl ?_
              refine kw_iload hC dX8_downs_43 rfl 4 rfl ?_
              refine kw_callV hC (d_X8_ahead hD (by omega) hRW29 hrv (by omega) (by omega) hgw) gX8_downs_X8_ahead ⟨_, rfl⟩ rfl (by decide) (by decide) rfl ⟨rfl, rfl⟩ 1 (by decide +kernel) ⟨by decide, by decide⟩ rfl rfl (Nat.le_of_ble_eq_true rfl) dX8_downs_45 rfl (kd_i (fun r10 S10 hp10 => ?_))
              obtain ⟨hg10, hp10⟩ := hp10
              have hfS10 : Fr tR S S10 := hfW29.trans (hg10.mono (fun k i j h => by unfold fT at h; unfold tR; omega))
              have hRS10 := hRS.fr hfS10
              have hnS10 := hRS10.n
              have enS10 : S10 30 0 0 = S 30 0 0 := hfS10 30 0 0 (by unfold tR; omega)
              obtain ⟨⟨k010, k110⟩, hgw⟩ := hp10
              have e8_10 : S10 30 0 8 = W29 30 0 8 := hg10 30 0 8 (by unfold fT; omega)
              replace hrv : WV (S10 47 0) (S10 30 0 8) (S10 30 0 0) := hrv.eq (fun j _ _ => hg10 47 0 j (by unfold fT; omega)) e8_10 (hg10 30 0 0 (by unfold fT; omega))
              refine kw_goto (tgt := 57) hC dX8_downs_48 rfl (by decide) ?_
              refine kw_istore (lv' := [(5, _), (0, _), (1, _), (2, _), (3, _), (4, _)]) hC dX8_downs_57 rfl (by decide) rfl ?_
              refine kw_aload_n hC dX8_downs_59 rfl 1 rfl ?_
              refine kg_30_16 hC w8 f81 dX8_downs_60 rfl (by decide) (by decide) ?_
              refine kw_if_eq (tgt := 69) hC dX8_downs_63 rfl (by decide) (by omega) ⟨fun c63 => ?_, fun c63 => ?_⟩
              · refine kw_iload_n hC dX8_downs_69 rfl 4 rfl ?_
                refine kw_iload hC dX8_downs_70 rfl 0 rfl ?_
                refine kw_if_lt (tgt := 82) hC dX8_downs_72 rfl (by decide) (by omega) ⟨fun c72 => ?_, fun c72 => ?_⟩
                · refine kw_iconst hC dX8_downs_82 rfl ?_
                  refine kw_iorX hC dX8_downs_83 rfl ?_
                  refine kw_istore_n (lv' := [(3, _), (5, _), (0, _), (1, _), (2, _), (4, _)]) hC dX8_downs_84 rfl (by decide) rfl ?_
                  refine kw_iinc (lv' := [(4, _), (3, _), (5, _), (0, _), (1, _), (2, _)]) hC dX8_downs_85 rfl 5 rfl (by decide) rfl ?_
                  refine kw_goto (tgt := 29) hC dX8_downs_88 rfl (by decide) ?_
                  refine kw_lv [3, 4, 5, 1, 0] rfl ?_
                  exact ih29 (s + 1) _ S10 hfS10 (by omega) (by omega) (by omega) hrv (by omega) (by omega) hgw (by omega)
                · refine kw_iconst hC dX8_downs_75 rfl ?_
                  refine kw_iload hC dX8_downs_76 rfl 5 rfl ?_
                  refine kw_ishlX hC dX8_downs_78 rfl ?_
                  refine kw_goto (tgt := 83) hC dX8_downs_79 rfl (by decide) ?_
                  refine kw_iorX hC dX8_downs_83 rfl ?_
                  refine kw_istore_n (lv' := [(3, _), (5, _), (0, _), (1, _), (2, _), (4, _)]) hC dX8_downs_84 rfl (by decide) rfl ?_
                  refine kw_iinc (lv' := [(4, _), (3, _), (5, _), (0, _), (1, _), (2, _)]) hC dX8_downs_85 rfl 5 rfl (by decide) rfl ?_
                  refine kw_goto (tgt := 29) hC dX8_downs_88 rfl (by decide) ?_
                  refine kw_lv [3, 4, 5, 1, 0] rfl ?_
                  exact ih29 (s + 1) _ S10 hfS10 (by omega) (by omega) (by omega) hrv (by omega) (by omega) hgw (by omega)
              · refine kw_bipush hC dX8_downs_66 rfl (by decide) ?_
                exact hR9.1 rfl _ _ _ _ dX8_downs_68 (by first | exact ⟨_, rfl, hp9.2.1, (tR_tW hfS10).trans (fV_tW hp9.2.2.1)⟩ | exact ⟨_, rfl, hRS10, tR_tW hfS10⟩)
      refine kw_lv [2, 3, 4, 1, 0] rfl ?_
      exact hL29 7 0 _ S3 hfS3 (by omega) (by omega) (by omega) hrv (by omega) (by omega) hgw (by omega)
    · refine kw_bipush hC dX8_downs_21 rfl (by decide) ?_
      exact hR9.1 rfl _ _ _ _ dX8_downs_23 (by first | exact ⟨_, rfl, hp9.2.1, (tR_tW hfS3).trans (fV_tW hp9.2.2.1)⟩ | exact ⟨_, rfl, hRS3, tR_tW hfS3⟩)
  · refine kw_iconst hC dX8_downs_7 rfl ?_
    exact hR9.1 rfl _ _ _ _ dX8_downs_8 (by first | exact ⟨_, rfl, hp9.2.1, (tR_tW hfS).trans (fV_tW hp9.2.2.1)⟩ | exact ⟨_, rfl, hRS, tR_tW hfS⟩)

set_option maxHeartbeats 4000000 in
set_option maxRecDepth 100000 in
theorem d_X8_doneBy {g : wG} (hD : wD g) {S : wSt} (hRS : RI S) (hwv : WV (S 53 0) (S 30 0 14) (S 30 0 0)) (w0 : 0 ≤ S 30 0 14) (w1 : S 30 0 14 ≤ 200) (hgw : S 30 0 16 = 0 ∨ S 30 0 16 = 1) (l : Launch) : Kt l yX8_doneBy wsX8_doneBy ({ frames := 2, cells := 0, slots := 0, locals := 49 } : Room) g S [vr g 30 0] (pI (fun r S' => Fr fT S S' ∧ ((r = 0 ∨ r = 1) ∧ (S' 30 0 16 = 0 ∨ S' 30 0 16 = 1)))) := by
  refine Kt.of (cc := cX8_doneBy) (nL := 2) (ret := (some .boolean)) (own := RX8) rfl hD (by decide) rfl (Nat.le_of_ble_eq_true rfl) ⟨rfl, rfl⟩ ?_
  intro E hC hR9
  have f57 : Cond.fieldLink RX8 57 "MirrorBenchModel" "wMany" "I" ∈ wsX8_doneBy := by decide +kernel
  have f60 : Cond.fieldLink RX8 60 "MirrorBenchModel" "w" "[I" ∈ wsX8_doneBy := by decide +kernel
  have f81 : Cond.fieldLink RX8 81 "MirrorBenchModel" "isGreat" "Z" ∈ wsX8_doneBy := by decide +kernel
  have w8 : ∀ w ∈ wsX80, w ∈ wsX8_doneBy := by decide +kernel
  show Wk E g 2 S 0 [(0, vr g 30 0)] []
  have hfS : Fr fT S S := Fr.rfl _ S
  have hRS := hRS.fr (hfS.mono (fun k i j h => by unfold fT at h; unfold tR; omega))
  have hnS := hRS.n
  have enS : S 30 0 0 = S 30 0 0 := hfS 30 0 0 (by unfold fT; omega)
  refine kw_aload_n hC dX8_doneBy_0 rfl 0 rfl ?_
  refine kg_30_14 hC w8 f57 dX8_doneBy_1 rfl (by decide) (by decide) ?_
  refine kw_iconst hC dX8_doneBy_4 rfl ?_
  refine kw_isub hC dX8_doneBy_5 rfl ?_
  refine kw_istore_n (lv' := [(1, _), (0, _)]) hC dX8_doneBy_6 rfl (by decide) rfl ?_
  have hL7 : ∀ (n7 : Nat) (x : Int) (W7 : wSt), Fr fT S W7 → (-1 ≤ x) → (x < S 30 0 14) → (W7 30 0 16 = 0 ∨ W7 30 0 16 = 1) → x + 1 < (n7 : Int) → Wk E g 2 W7 7 [(0, vr g 30 0), (1, vi x)] [] := by
    intro n7
    induction n7 with
    | zero => intro x W7 hfW7 hx0 hx1 hgw hm7; exact absurd hm7 (by omega)
    | succ n7 ih7 =>
      intro x W7 hfW7 hx0 hx1 hgw hm7
      have hRW7 := hRS.fr (hfW7.mono (fun k i j h => by unfold fT at h; unfold tR; omega))
      have hnW7 := hRW7.n
      have enW7 : W7 30 0 0 = S 30 0 0 := hfW7 30 0 0 (by unfold fT; omega)
      have e53 : ∀ j, W7 53 0 j = S 53 0 j := fun j => hfW7 53 0 j (by unfold fT; omega)
      refine kw_iload_n hC dX8_doneBy_7 rfl 1 rfl ?_
      refine kw_if_lt (tgt := 36) hC dX8_doneBy_8 rfl (by decide) (by omega) ⟨fun c8 => ?_, fun c8 => ?_⟩
      · refine kw_iconst hC dX8_doneBy_36 rfl ?_
        exact hR9.2.1 rfl _ _ _ _ dX8_doneBy_37 (by omega) ⟨_, rfl, hfW7, by omega, hgw⟩
      · refine kw_aload_n hC dX8_doneBy_11 rfl 0 rfl ?_
        refine kw_aload_n hC dX8_doneBy_12 rfl 0 rfl ?_
        refine kg_30_13 hC w8 f60 dX8_doneBy_13 rfl (by decide) (by decide) ?_
        refine kw_iload_n hC dX8_doneBy_16 rfl 1 rfl ?_
        refine ka_53 hC dX8_doneBy_17 rfl (by decide) (by decide) (by omega) (by omega) ?_
        refine kw_chi (z' := S 53 0 x) (e53 x) ?_
        have hl := hwv x (by omega) (by omega)
        refine kw_callV hC (d_X8_turn hD (by omega) (by omega) hRW7) gX8_doneBy_X8_turn ⟨_, rfl⟩ rfl (by decide) (by decide) rfl ⟨rfl, rfl⟩ 1 (by decide +kernel) ⟨by decide, by decide⟩ rfl rfl (Nat.le_of_ble_eq_true rfl) dX8_doneBy_18 rfl (kd_v (fun S2 hp2 => ?_))
        obtain ⟨hg2, hp2⟩ := hp2
        have hfS2 : Fr fT S S2 := hfW7.trans hg2
        have hRS2 := hRS.fr (hfS2.mono (fun k i j h => by unfold fT at h; unfold tR; omega))
        have hnS2 := hRS2.n
        have enS2 : S2 30 0 0 = S 30 0 0 := hfS2 30 0 0 (by unfold fT; omega)
        obtain ⟨-, -, hgw, -⟩ := hp2
        refine kw_aload_n hC dX8_doneBy_21 rfl 0 rfl ?_
        refine kg_30_16 hC w8 f81 dX8_doneBy_22 rfl (by decide) (by decide) ?_
        refine kw_if_eq (tgt := 30) hC dX8_doneBy_25 rfl (by decide) (by omega) ⟨fun c25 => ?_, fun c25 => ?_⟩
        · refine kw_iinc (lv' := [(1, _), (0, _)]) hC dX8_doneBy_30 rfl 1 rfl (by decide) rfl ?_
          refine kw_goto (tgt := 7) hC dX8_doneBy_33 rfl (by decide) ?_
          refine kw_lv [1, 0] rfl ?_
          exact ih7 (x + -1) S2 hfS2 (by omega) (by omega) hgw (by omega)
        · refine kw_iconst hC dX8_doneBy_28 rfl ?_
          exact hR9.2.1 rfl _ _ _ _ dX8_doneBy_29 (by omega) ⟨_, rfl, hfS2, by omega, hgw⟩
  refine kw_lv [1, 0] rfl ?_
  exact hL7 201 (S 30 0 14 - 1) S hfS (by omega) (by omega) hgw (by omega)

set_option maxHeartbeats 4000000 in
set_option maxRecDepth 100000 in
theorem d_X8_does {g : wG} (hD : wD g) {S : wSt} {a b c : Int} (ha : -2147483648 ≤ a ∧ a ≤ 2147483647) (hb : -2147483648 ≤ b ∧ b ≤ 2147483647) (hc : -2147483648 ≤ c ∧ c ≤ 2147483647) (hRS : RI S) (l : Launch) : Kt l yX8_does wsX8_does ({ frames := 3, cells := 0, slots := 0, locals := 70 } : Room) g S [vr g 30 0, vi a, vi b, vi c] (pL (fun _ S' => RI S' ∧ Fr tW S S')) := by
  refine Kt.of (cc := cX8_does) (nL := 4) (ret := (some .long)) (own := RX8) rfl hD (by decide) rfl (Nat.le_of_ble_eq_true rfl) ⟨rfl, rfl⟩ ?_
  intro E hC hR9
  have f77 : Cond.fieldLink RX8 77 "MirrorBenchModel" "root" "[J" ∈ wsX8_does := by decide +kernel
  have f81 : Cond.fieldLink RX8 81 "MirrorBenchModel" "isGreat" "Z" ∈ wsX8_does := by decide +kernel
  have l141 : Cond.constantLong RX8 141 (Int64.ofInt (-10000000000001)) ∈ wsX8_does := by decide +kernel
  have l146 : Cond.constantLong RX8 146 (Int64.ofInt (-10000000000004)) ∈ wsX8_does := by decide +kernel
  have w8 : ∀ w ∈ wsX80, w ∈ wsX8_does := by decide +kernel
  show Wk E g 4 S 0 [(0, vr g 30 0), (1, vi a), (2, vi b), (3, vi c)] []
  have hfS : Fr tR S S := Fr.rfl _ S
  have hRS := hRS.fr hfS
  have hnS := hRS.n
  have enS : S 30 0 0 = S 30 0 0 := hfS 30 0 0 (by unfold tR; omega)
  refine kw_iload_n hC dX8_does_0 rfl 1 rfl ?_
  refine kw_callS hC (d_X8_isSlot hD (by omega)) gX8_does_X8_isSlot rfl ⟨rfl, rfl⟩ 1 (by decide +kernel) ⟨by decide, by decide⟩ rfl rfl (Nat.le_of_ble_eq_true rfl) dX8_does_1 rfl (kd_ie ?_)
  refine kw_ifeq_b (tgt := 25) hC dX8_does_4 rfl (by decide) ⟨fun c4 => ?_, fun c4 => ?_⟩
  · refine kw_ldc2 (z := -10000000000001) hC dX8_does_25 rfl l141 ?_
    exact hR9.2.2.1 rfl _ _ _ _ dX8_does_28 (by first | exact ⟨_, rfl, hp9.2.1, (tR_tW hfS).trans (fV_tW hp9.2.2.1)⟩ | exact ⟨_, rfl, hRS, tR_tW hfS⟩)
  · refine kw_aload_n hC dX8_does_7 rfl 0 rfl ?_
    refine kw_iload_n hC dX8_does_8 rfl 2 rfl ?_
    refine kw_i2l hC dX8_does_9 rfl (by omega) ?_
    refine kw_callV hC (d_X8_isMirror hD (by omega) (by omega) (by omega)) gX8_does_X8_isMirror ⟨_, rfl⟩ rfl (by decide) (by decide) rfl ⟨rfl, rfl⟩ 1 (by decide +kernel) ⟨by decide, by decide⟩ rfl rfl (Nat.le_of_ble_eq_true rfl) dX8_does_10 rfl (kd_ie ?_)
    refine kw_ifeq_b (tgt := 25) hC dX8_does_13 rfl (by decide) ⟨fun c13 => ?_, fun c13 => ?_⟩
    · refine kw_ldc2 (z := -10000000000001) hC dX8_does_25 rfl l141 ?_
      exact hR9.2.2.1 rfl _ _ _ _ dX8_does_28 (by first | exact ⟨_, rfl, hp9.2.1, (tR_tW hfS).trans (fV_tW hp9.2.2.1)⟩ | exact ⟨_, rfl, hRS, tR_tW hfS⟩)
    · refine kw_aload_n hC dX8_does_16 rfl 0 rfl ?_
      refine kw_iload_n hC dX8_does_17 rfl 3 rfl ?_
      refine kw_i2l hC dX8_does_18 rfl (by omega) ?_
      refine kw_callV hC (d_X8_isMirror hD (by omega) (by omega) (by omega)) gX8_does_X8_isMirror ⟨_, rfl⟩ rfl (by decide) (by decide) rfl ⟨rfl, rfl⟩ 1 (by decide +kernel) ⟨by decide, by decide⟩ rfl rfl (Nat.le_of_ble_eq_true rfl) dX8_does_19 rfl (kd_ie ?_)
      refine kw_ifne_b (tgt := 29) hC dX8_does_22 rfl (by decide) ⟨fun c22 => ?_, fun c22 => ?_⟩
      · refine kw_aload_n hC dX8_does_29 rfl 0 rfl ?_
        refine kw_iload_n hC dX8_does_30 rfl 1 rfl ?_
        refine kw_callV hC (d_X8_load hD (by omega) (by omega) hRS) gX8_does_X8_load ⟨_, rfl⟩ rfl (by decide) (by decide) rfl ⟨rfl, rfl⟩ 1 (by decide +kernel) ⟨by decide, by decide⟩ rfl rfl (Nat.le_of_ble_eq_true rfl) dX8_does_31 rfl (kd_v (fun S4 hp4 => ?_))
        obtain ⟨hg4, hp4⟩ := hp4
        have hfS4 : Fr tR S S4 := hfS.trans (hg4.mono (fun k i j h => by unfold fL at h; unfold tR; omega))
        have hRS4 := hRS.fr hfS4
        have hnS4 := hRS4.n
        have enS4 : S4 30 0 0 = S 30 0 0 := hfS4 30 0 0 (by unfold tR; omega)
        obtain ⟨q14, qW⟩ := hp4
        have hwv : WV (S4 53 0) (S4 30 0 14) (S4 30 0 0) := ldWV hRS (by omega) (by omega) q14 qW (by omega)
        have hl4 := hRS.ln a (by omega) (by omega)
        refine kw_aload_n hC dX8_does_34 rfl 0 rfl ?_
        refine kw_iconst hC dX8_does_35 rfl ?_
        refine kp_30_16 hC w8 f81 dX8_does_36 rfl (by decide) (by decide) (by omega) ?_
        refine kw_hv hfS4 (by unfold tR; omega) (fun S5 hfS5 hv5 ho5 => ?_)
        have hRS5 := hRS.fr hfS5
        have hnS5 := hRS5.n
        have enS5 : S5 30 0 0 = S 30 0 0 := hfS5 30 0 0 (by unfold tR; omega)
        have e14_5 : S5 30 0 14 = S4 30 0 14 := ho5 30 0 14 (by omega)
        replace hwv : WV (S5 53 0) (S5 30 0 14) (S5 30 0 0) := hwv.eq (fun j _ _ => ho5 53 0 j (by omega)) e14_5 (ho5 30 0 0 (by omega))
        have hgw : S5 30 0 16 = 0 ∨ S5 30 0 16 = 1 := Or.inl hv5
        refine kw_aload_n hC dX8_does_39 rfl 0 rfl ?_
        refine kw_iload_n hC dX8_does_40 rfl 2 rfl ?_
        refine kw_callV hC (d_X8_own hD (by omega)) gX8_does_X8_own ⟨_, rfl⟩ rfl (by decide) (by decide) rfl ⟨rfl, rfl⟩ 1 (by decide +kernel) ⟨by decide, by decide⟩ rfl rfl (Nat.le_of_ble_eq_true rfl) dX8_does_41 rfl (kd_v (fun S6 hp6 => ?_))
        obtain ⟨hg6, hp6⟩ := hp6
        have hfS6 : Fr tR S S6 := hfS5.trans (hg6.mono (fun k i j h => by unfold fO at h; unfold tR; omega))
        have hRS6 := hRS.fr hfS6
        have hnS6 := hRS6.n
        have enS6 : S6 30 0 0 = S 30 0 0 := hfS6 30 0 0 (by unfold tR; omega)
        have e14_6 : S6 30 0 14 = S5 30 0 14 := hg6 30 0 14 (by unfold fO; omega)
        replace hwv : WV (S6 53 0) (S6 30 0 14) (S6 30 0 0) := hwv.eq (fun j _ _ => hg6 53 0 j (by unfold fO; omega)) e14_6 (hg6 30 0 0 (by unfold fO; omega))
        have e166 : S6 30 0 16 = S5 30 0 16 := hg6 30 0 16 (by unfold fO; omega)
        refine kw_aload_n hC dX8_does_44 rfl 0 rfl ?_
        refine kw_callV hC (d_X8_doneBy hD hRS6 hwv (by omega) (by omega) (by omega)) gX8_does_X8_doneBy ⟨_, rfl⟩ rfl (by decide) (by decide) rfl ⟨rfl, rfl⟩ 0 (by decide +kernel) ⟨by decide, by decide⟩ rfl rfl (Nat.le_of_ble_eq_true rfl) dX8_does_45 rfl (kd_i (fun r7 S7 hp7 => ?_))
        obtain ⟨hg7, hp7⟩ := hp7
        have hfS7 : Fr tR S S7 := hfS6.trans (hg7.mono (fun k i j h => by unfold fT at h; unfold tR; omega))
        have hRS7 := hRS.fr hfS7
        have hnS7 := hRS7.n
        have enS7 : S7 30 0 0 = S 30 0 0 := hfS7 30 0 0 (by unfold tR; omega)
        obtain ⟨hb7, hgw⟩ := hp7
        have e14_7 : S7 30 0 14 = S6 30 0 14 := hg7 30 0 14 (by unfold fT; omega)
        replace hwv : WV (S7 53 0) (S7 30 0 14) (S7 30 0 0) := hwv.eq (fun j _ _ => hg7 53 0 j (by unfold fT; omega)) e14_7 (hg7 30 0 0 (by unfold fT; omega))
        refine kw_if_eq (tgt := 60) hC dX8_does_48 rfl (by decide) (by omega) ⟨fun c48 => ?_, fun c48 => ?_⟩
        · refine kw_ldc2 (z := -10000000000004) hC dX8_does_60 rfl l146 ?_
          exact hR9.2.2.1 rfl _ _ _ _ dX8_does_63 (by first | exact ⟨_, rfl, hp9.2.1, (tR_tW hfS7).trans (fV_tW hp9.2.2.1)⟩ | exact ⟨_, rfl, hRS7, tR_tW hfS7⟩)
        · refine kw_aload_n hC dX8_does_51 rfl 0 rfl ?_
          refine kg_30_15 hC w8 f77 dX8_does_52 rfl (by decide) (by decide) ?_
          refine kw_iload_n hC dX8_does_55 rfl 3 rfl ?_
          refine ka_55 hC dX8_does_56 rfl (by decide) (by decide) (by omega) (by omega) ?_
          refine kw_goto (tgt := 63) hC dX8_does_57 rfl (by decide) ?_
          exact hR9.2.2.1 rfl _ _ _ _ dX8_does_63 (by first | exact ⟨_, rfl, hp9.2.1, (tR_tW hfS7).trans (fV_tW hp9.2.2.1)⟩ | exact ⟨_, rfl, hRS7, tR_tW hfS7⟩)
      · refine kw_ldc2 (z := -10000000000001) hC dX8_does_25 rfl l141 ?_
        exact hR9.2.2.1 rfl _ _ _ _ dX8_does_28 (by first | exact ⟨_, rfl, hp9.2.1, (tR_tW hfS).trans (fV_tW hp9.2.2.1)⟩ | exact ⟨_, rfl, hRS, tR_tW hfS⟩)

set_option maxHeartbeats 4000000 in
set_option maxRecDepth 100000 in
theorem d_X8_order {g : wG} (hD : wD g) {S : wSt} {a : Int} (ha : -2147483648 ≤ a ∧ a ≤ 2147483647) (hRS : RI S) (l : Launch) : Kt l yX8_order wsX8_order ({ frames := 3, cells := 0, slots := 0, locals := 70 } : Room) g S [vr g 30 0, vi a] (pI (fun _ S' => RI S' ∧ Fr tW S S')) := by
  refine Kt.of (cc := cX8_order) (nL := 6) (ret := (some .int)) (own := RX8) rfl hD (by decide) rfl (Nat.le_of_ble_eq_true rfl) ⟨rfl, rfl⟩ ?_
  intro E hC hR9
  have f11 : Cond.fieldLink RX8 11 "MirrorBenchModel" "mirrors" "I" ∈ wsX8_order := by decide +kernel
  have f77 : Cond.fieldLink RX8 77 "MirrorBenchModel" "root" "[J" ∈ wsX8_order := by decide +kernel
  have f81 : Cond.fieldLink RX8 81 "MirrorBenchModel" "isGreat" "Z" ∈ wsX8_order := by decide +kernel
  have f148 : Cond.fieldLink RX8 148 "MirrorBenchModel" "images" "[J" ∈ wsX8_order := by decide +kernel
  have w8 : ∀ w ∈ wsX80, w ∈ wsX8_order := by decide +kernel
  show Wk E g 6 S 0 [(0, vr g 30 0), (1, vi a)] []
  have hfS : Fr tR S S := Fr.rfl _ S
  have hRS := hRS.fr hfS
  have hnS := hRS.n
  have enS : S 30 0 0 = S 30 0 0 := hfS 30 0 0 (by unfold tR; omega)
  refine kw_iload_n hC dX8_order_0 rfl 1 rfl ?_
  refine kw_callS hC (d_X8_isSlot hD (by omega)) gX8_order_X8_isSlot rfl ⟨rfl, rfl⟩ 1 (by decide +kernel) ⟨by decide, by decide⟩ rfl rfl (Nat.le_of_ble_eq_true rfl) dX8_order_1 rfl (kd_ie ?_)
  refine kw_ifne_b (tgt := 9) hC dX8_order_4 rfl (by decide) ⟨fun c4 => ?_, fun c4 => ?_⟩
  · refine kw_aload_n hC dX8_order_9 rfl 0 rfl ?_
    refine kw_iload_n hC dX8_order_10 rfl 1 rfl ?_
    refine kw_callV hC (d_X8_load hD (by omega) (by omega) hRS) gX8_order_X8_load ⟨_, rfl⟩ rfl (by decide) (by decide) rfl ⟨rfl, rfl⟩ 1 (by decide +kernel) ⟨by decide, by decide⟩ rfl rfl (Nat.le_of_ble_eq_true rfl) dX8_order_11 rfl (kd_v (fun S2 hp2 => ?_))
    obtain ⟨hg2, hp2⟩ := hp2
    have hfS2 : Fr tR S S2 := hfS.trans (hg2.mono (fun k i j h => by unfold fL at h; unfold tR; omega))
    have hRS2 := hRS.fr hfS2
    have hnS2 := hRS2.n
    have enS2 : S2 30 0 0 = S 30 0 0 := hfS2 30 0 0 (by unfold tR; omega)
    obtain ⟨q14, qW⟩ := hp2
    have hwv : WV (S2 53 0) (S2 30 0 14) (S2 30 0 0) := ldWV hRS (by omega) (by omega) q14 qW (by omega)
    have hl2 := hRS.ln a (by omega) (by omega)
    refine kw_aload_n hC dX8_order_14 rfl 0 rfl ?_
    refine kw_iconst hC dX8_order_15 rfl ?_
    refine kp_30_16 hC w8 f81 dX8_order_16 rfl (by decide) (by decide) (by omega) ?_
    refine kw_hv hfS2 (by unfold tR; omega) (fun S3 hfS3 hv3 ho3 => ?_)
    have hRS3 := hRS.fr hfS3
    have hnS3 := hRS3.n
    have enS3 : S3 30 0 0 = S 30 0 0 := hfS3 30 0 0 (by unfold tR; omega)
    have e14_3 : S3 30 0 14 = S2 30 0 14 := ho3 30 0 14 (by omega)
    replace hwv : WV (S3 53 0) (S3 30 0 14) (S3 30 0 0) := hwv.eq (fun j _ _ => ho3 53 0 j (by omega)) e14_3 (ho3 30 0 0 (by omega))
    have hgw : S3 30 0 16 = 0 ∨ S3 30 0 16 = 1 := Or.inl hv3
    refine kw_iconst hC dX8_order_19 rfl ?_
    refine kw_istore_n (lv' := [(2, _), (0, _), (1, _)]) hC dX8_order_20 rfl (by decide) rfl ?_
    have hL21 : ∀ (n21 : Nat) (i : Int) (W21 : wSt), Fr tR S W21 → (0 ≤ i) → (i ≤ W21 30 0 0) → (i ≤ 6) → (WV (W21 53 0) (W21 30 0 14) (W21 30 0 0)) → (0 ≤ W21 30 0 14) → (W21 30 0 14 ≤ 100) → (W21 30 0 16 = 0 ∨ W21 30 0 16 = 1) → 6 - i < (n21 : Int) → Wk E g 6 W21 21 [(0, vr g 30 0), (1, vi a), (2, vi i)] [] := by
      intro n21
      induction n21 with
      | zero => intro i W21 hfW21 i0 i1 i6 hwv w0 w1 hgw hm21; exact absurd hm21 (by omega)
      | succ n21 ih21 =>
        intro i W21 hfW21 i0 i1 i6 hwv w0 w1 hgw hm21
        have hRW21 := hRS.fr hfW21
        have hnW21 := hRW21.n
        have enW21 : W21 30 0 0 = S 30 0 0 := hfW21 30 0 0 (by unfold tR; omega)
        refine kw_iload_n hC dX8_order_21 rfl 2 rfl ?_
        refine kw_aload_n hC dX8_order_22 rfl 0 rfl ?_
        refine kg_30_0 hC w8 f11 dX8_order_23 rfl (by decide) (by decide) ?_
        refine kw_icmp_ge (tgt := 70) hC dX8_order_26 rfl (by decide) (by omega) (by omega) ⟨fun c26 => ?_, fun c26 => ?_⟩
        · refine kw_iconst hC dX8_order_70 rfl ?_
          refine kw_istore_n (lv' := [(2, _), (0, _), (1, _)]) hC dX8_order_71 rfl (by decide) rfl ?_
          have hL72 : ∀ (n72 : Nat) (n : Int) (W72 : wSt), Fr tR S W72 → (1 ≤ n) → (n ≤ 31) → (WV (W72 53 0) (W72 30 0 14) (W72 30 0 0)) → (0 ≤ W72 30 0 14) → (W72 30 0 14 ≤ 100) → (W72 30 0 16 = 0 ∨ W72 30 0 16 = 1) → 31 - n < (n72 : Int) → Wk E g 6 W72 72 [(0, vr g 30 0), (1, vi a), (2, vi n)] [] := by
            intro n72
            induction n72 with
            | zero => intro n W72 hfW72 n0 n1 hwv w0 w1 hgw hm72; exact absurd hm72 (by omega)
            | succ n72 ih72 =>
              intro n W72 hfW72 n0 n1 hwv w0 w1 hgw hm72
              have hRW72 := hRS.fr hfW72
              have hnW72 := hRW72.n
              have enW72 : W72 30 0 0 = S 30 0 0 := hfW72 30 0 0 (by unfold tR; omega)
              refine kw_iload_n hC dX8_order_72 rfl 2 rfl ?_
              refine kw_bipush hC dX8_order_73 rfl (by decide) ?_
              refine kw_icmp_gt (tgt := 211) hC dX8_order_75 rfl (by decide) (by omega) (by omega) ⟨fun c75 => ?_, fun c75 => ?_⟩
              · refine kw_bipush hC dX8_order_211 rfl (by decide) ?_
                exact hR9.1 rfl _ _ _ _ dX8_order_213 (by first | exact ⟨_, rfl, hp9.2.1, (tR_tW hfW72).trans (fV_tW hp9.2.2.1)⟩ | exact ⟨_, rfl, hRW72, tR_tW hfW72⟩)
              · refine kw_iconst hC dX8_order_78 rfl ?_
                refine kw_istore_n (lv' := [(3, _), (0, _), (1, _), (2, _)]) hC dX8_order_79 rfl (by decide) rfl ?_
                refine kw_iconst hC dX8_order_80 rfl ?_
                refine kw_istore (lv' := [(4, _), (3, _), (0, _), (1, _), (2, _)]) hC dX8_order_81 rfl (by decide) rfl ?_
                have hL83 : ∀ (n83 : Nat) (i : Int) (z : Int) (W83 : wSt), Fr tR S W83 → (0 ≤ i) → (i ≤ W83 30 0 0) → (i ≤ 6) → (z = 0 ∨ z = 1) → (WV (W83 53 0) (W83 30 0 14) (W83 30 0 0)) → (0 ≤ W83 30 0 14) → (W83 30 0 14 ≤ 100) → (W83 30 0 16 = 0 ∨ W83 30 0 16 = 1) → 6 - i < (n83 : Int) → Wk E g 6 W83 83 [(0, vr g 30 0), (1, vi a), (2, vi n), (3, vi z), (4, vi i)] [] := by
                  intro n83
                  induction n83 with
                  | zero => intro i z W83 hfW83 i0 i1 i6 hz hwv w0 w1 hgw hm83; exact absurd hm83 (by omega)
                  | succ n83 ih83 =>
                    intro i z W83 hfW83 i0 i1 i6 hz hwv w0 w1 hgw hm83
                    have hRW83 := hRS.fr hfW83
                    have hnW83 := hRW83.n
                    have enW83 : W83 30 0 0 = S 30 0 0 := hfW83 30 0 0 (by unfold tR; omega)
                    refine kw_iload hC dX8_order_83 rfl 4 rfl ?_
                    refine kw_aload_n hC dX8_order_85 rfl 0 rfl ?_
                    refine kg_30_0 hC w8 f11 dX8_order_86 rfl (by decide) (by decide) ?_
                    refine kw_icmp_ge (tgt := 199) hC dX8_order_89 rfl (by decide) (by omega) (by omega) ⟨fun c89 => ?_, fun c89 => ?_⟩
                    · refine kw_iload_n hC dX8_order_199 rfl 3 rfl ?_
                      refine kw_if_eq (tgt := 205) hC dX8_order_200 rfl (by decide) (by omega) ⟨fun c200 => ?_, fun c200 => ?_⟩
                      · refine kw_iinc (lv' := [(2, _), (0, _), (1, _), (3, _), (4, _)]) hC dX8_order_205 rfl 2 rfl (by decide) rfl ?_
                        refine kw_goto (tgt := 72) hC dX8_order_208 rfl (by decide) ?_
                        refine kw_lv [1, 2, 0] rfl ?_
                        exact ih72 (n + 1) W83 hfW83 (by omega) (by omega) hwv (by omega) (by omega) (by omega) (by omega)
                      · refine kw_iload_n hC dX8_order_203 rfl 2 rfl ?_
                        exact hR9.1 rfl _ _ _ _ dX8_order_204 (by first | exact ⟨_, rfl, hp9.2.1, (tR_tW hfW83).trans (fV_tW hp9.2.2.1)⟩ | exact ⟨_, rfl, hRW83, tR_tW hfW83⟩)
                    · refine kw_iconst hC dX8_order_92 rfl ?_
                      refine kw_istore (lv' := [(5, _), (0, _), (1, _), (2, _), (3, _), (4, _)]) hC dX8_order_93 rfl (by decide) rfl ?_
                      have hL95 : ∀ (n95 : Nat) (y : Int) (W95 : wSt), Fr tR S W95 → (0 ≤ y) → (y ≤ 6) → (WV (W95 53 0) (W95 30 0 14) (W95 30 0 0)) → (0 ≤ W95 30 0 14) → (W95 30 0 14 ≤ 100) → (W95 30 0 16 = 0 ∨ W95 30 0 16 = 1) → 6 - y < (n95 : Int) → Wk E g 6 W95 95 [(0, vr g 30 0), (1, vi a), (2, vi n), (3, vi z), (4, vi i), (5, vi y)] [] := by
                        intro n95
                        induction n95 with
                        | zero => intro y W95 hfW95 y0 y1 hwv w0 w1 hgw hm95; exact absurd hm95 (by omega)
                        | succ n95 ih95 =>
                          intro y W95 hfW95 y0 y1 hwv w0 w1 hgw hm95
                          have hRW95 := hRS.fr hfW95
                          have hnW95 := hRW95.n
                          have enW95 : W95 30 0 0 = S 30 0 0 := hfW95 30 0 0 (by unfold tR; omega)
                          refine kw_iload hC dX8_order_95 rfl 5 rfl ?_
                          refine kw_bipush hC dX8_order_97 rfl (by decide) ?_
                          refine kw_icmp_ge (tgt := 128) hC dX8_order_99 rfl (by decide) (by omega) (by omega) ⟨fun c99 => ?_, fun c99 => ?_⟩
                          · refine kw_aload_n hC dX8_order_128 rfl 0 rfl ?_
                            refine kw_callV hC (d_X8_doneBy hD hRW95 hwv (by omega) (by omega) (by omega)) gX8_order_X8_doneBy ⟨_, rfl⟩ rfl (by decide) (by decide) rfl ⟨rfl, rfl⟩ 0 (by decide +kernel) ⟨by decide, by decide⟩ rfl rfl (Nat.le_of_ble_eq_true rfl) dX8_order_129 rfl (kd_i (fun r9 S9 hp9 => ?_))
                            obtain ⟨hg9, hp9⟩ := hp9
                            have hfS9 : Fr tR S S9 := hfW95.trans (hg9.mono (fun k i j h => by unfold fT at h; unfold tR; omega))
                            have hRS9 := hRS.fr hfS9
                            have hnS9 := hRS9.n
                            have enS9 : S9 30 0 0 = S 30 0 0 := hfS9 30 0 0 (by unfold tR; omega)
                            obtain ⟨hb9, hgw⟩ := hp9
                            have e14_9 : S9 30 0 14 = W95 30 0 14 := hg9 30 0 14 (by unfold fT; omega)
                            replace hwv : WV (S9 53 0) (S9 30 0 14) (S9 30 0 0) := hwv.eq (fun j _ _ => hg9 53 0 j (by unfold fT; omega)) e14_9 (hg9 30 0 0 (by unfold fT; omega))
                            refine kw_if_ne (tgt := 138) hC dX8_order_132 rfl (by decide) (by omega) ⟨fun c132 => ?_, fun c132 => ?_⟩
                            · refine kw_iconst hC dX8_order_138 rfl ?_
                              refine kw_istore (lv' := [(5, _), (0, _), (1, _), (2, _), (3, _), (4, _)]) hC dX8_order_139 rfl (by decide) rfl ?_
                              have hL141 : ∀ (n141 : Nat) (y : Int) (W141 : wSt), Fr tR S W141 → (0 ≤ y) → (y ≤ 6) → (WV (W141 53 0) (W141 30 0 14) (W141 30 0 0)) → (0 ≤ W141 30 0 14) → (W141 30 0 14 ≤ 100) → (W141 30 0 16 = 0 ∨ W141 30 0 16 = 1) → 6 - y < (n141 : Int) → Wk E g 6 W141 141 [(0, vr g 30 0), (1, vi a), (2, vi n), (3, vi z), (4, vi i), (5, vi y)] [] := by
                                intro n141
                                induction n141 with
                                | zero => intro y W141 hfW141 y0 y1 hwv w0 w1 hgw hm141; exact absurd hm141 (by omega)
                                | succ n141 ih141 =>
                                  intro y W141 hfW141 y0 y1 hwv w0 w1 hgw hm141
                                  have hRW141 := hRS.fr hfW141
                                  have hnW141 := hRW141.n
                                  have enW141 : W141 30 0 0 = S 30 0 0 := hfW141 30 0 0 (by unfold tR; omega)
                                  refine kw_iload hC dX8_order_141 rfl 5 rfl ?_
                                  refine kw_bipush hC dX8_order_143 rfl (by decide) ?_
                                  refine kw_icmp_ge (tgt := 174) hC dX8_order_145 rfl (by decide) (by omega) (by omega) ⟨fun c145 => ?_, fun c145 => ?_⟩
                                  · refine kw_iload_n hC dX8_order_174 rfl 3 rfl ?_
                                    refine kw_if_eq (tgt := 191) hC dX8_order_175 rfl (by decide) (by omega) ⟨fun c175 => ?_, fun c175 => ?_⟩
                                    · refine kw_iconst hC dX8_order_191 rfl ?_
                                      refine kw_istore_n (lv' := [(3, _), (0, _), (1, _), (2, _), (4, _), (5, _)]) hC dX8_order_192 rfl (by decide) rfl ?_
                                      refine kw_iinc (lv' := [(4, _), (3, _), (0, _), (1, _), (2, _), (5, _)]) hC dX8_order_193 rfl 4 rfl (by decide) rfl ?_
                                      refine kw_goto (tgt := 83) hC dX8_order_196 rfl (by decide) ?_
                                      refine kw_lv [2, 3, 4, 1, 0] rfl ?_
                                      exact ih83 (i + 1) _ W141 hfW141 (by omega) (by omega) (by omega) (by omega) hwv (by omega) (by omega) (by omega) (by omega)
                                    · refine kw_aload_n hC dX8_order_178 rfl 0 rfl ?_
                                      refine kw_iload hC dX8_order_179 rfl 4 rfl ?_
                                      refine kw_callV hC (d_X8_isOwn hD (by omega) (by omega) (by omega)) gX8_order_X8_isOwn ⟨_, rfl⟩ rfl (by decide) (by decide) rfl ⟨rfl, rfl⟩ 1 (by decide +kernel) ⟨by decide, by decide⟩ rfl rfl (Nat.le_of_ble_eq_true rfl) dX8_order_181 rfl (kd_ie ?_)
                                      refine kw_ifeq_b (tgt := 191) hC dX8_order_184 rfl (by decide) ⟨fun c184 => ?_, fun c184 => ?_⟩
                                      · refine kw_iconst hC dX8_order_191 rfl ?_
                                        refine kw_istore_n (lv' := [(3, _), (0, _), (1, _), (2, _), (4, _), (5, _)]) hC dX8_order_192 rfl (by decide) rfl ?_
                                        refine kw_iinc (lv' := [(4, _), (3, _), (0, _), (1, _), (2, _), (5, _)]) hC dX8_order_193 rfl 4 rfl (by decide) rfl ?_
                                        refine kw_goto (tgt := 83) hC dX8_order_196 rfl (by decide) ?_
                                        refine kw_lv [2, 3, 4, 1, 0] rfl ?_
                                        exact ih83 (i + 1) _ W141 hfW141 (by omega) (by omega) (by omega) (by omega) hwv (by omega) (by omega) (by omega) (by omega)
                                      · refine kw_iconst hC dX8_order_187 rfl ?_
                                        refine kw_goto (tgt := 192) hC dX8_order_188 rfl (by decide) ?_
                                        refine kw_istore_n (lv' := [(3, _), (0, _), (1, _), (2, _), (4, _), (5, _)]) hC dX8_order_192 rfl (by decide) rfl ?_
                                        refine kw_iinc (lv' := [(4, _), (3, _), (0, _), (1, _), (2, _), (5, _)]) hC dX8_order_193 rfl 4 rfl (by decide) rfl ?_
                                        refine kw_goto (tgt := 83) hC dX8_order_196 rfl (by decide) ?_
                                        refine kw_lv [2, 3, 4, 1, 0] rfl ?_
                                        exact ih83 (i + 1) _ W141 hfW141 (by omega) (by omega) (by omega) (by omega) hwv (by omega) (by omega) (by omega) (by omega)
                                  · refine kw_aload_n hC dX8_order_148 rfl 0 rfl ?_
                                    refine kg_30_17 hC w8 f148 dX8_order_149 rfl (by decide) (by decide) ?_
                                    refine kw_bipush hC dX8_order_152 rfl (by decide) ?_
                                    refine kw_iload hC dX8_order_154 rfl 4 rfl ?_
                                    refine kw_imul hC dX8_order_156 rfl ?_
                                    refine kw_iload hC dX8_order_157 rfl 5 rfl ?_
                                    refine kw_iadd hC dX8_order_159 rfl ?_
                                    refine kw_aload_n hC dX8_order_160 rfl 0 rfl ?_
                                    refine kg_30_15 hC w8 f77 dX8_order_161 rfl (by decide) (by decide) ?_
                                    refine kw_iload hC dX8_order_164 rfl 5 rfl ?_
                                    refine ka_55 hC dX8_order_166 rfl (by decide) (by decide) (by omega) (by omega) ?_
                                    refine ks_57 hC dX8_order_167 rfl (by decide) (by decide) (by omega) (by omega) ?_
                                    refine kw_hv hfW141 (by unfold tR; omega) (fun S14 hfS14 hv14 ho14 => ?_)
                                    have hRS14 := hRS.fr hfS14
                                    have hnS14 := hRS14.n
                                    have enS14 : S14 30 0 0 = S 30 0 0 := hfS14 30 0 0 (by unfold tR; omega)
                                    have e14_14 : S14 30 0 14 = W141 30 0 14 := ho14 30 0 14 (by omega)
                                    replace hwv : WV (S14 53 0) (S14 30 0 14) (S14 30 0 0) := hwv.eq (fun j _ _ => ho14 53 0 j (by omega)) e14_14 (ho14 30 0 0 (by omega))
                                    have e1614 : S14 30 0 16 = W141 30 0 16 := ho14 30 0 16 (by omega)
                                    refine kw_iinc (lv' := [(5, _), (0, _), (1, _), (2, _), (3, _), (4, _)]) hC dX8_order_168 rfl 5 rfl (by decide) rfl ?_
                                    refine kw_goto (tgt := 141) hC dX8_order_171 rfl (by decide) ?_
                                    refine kw_lv [1, 2, 3, 4, 5, 0] rfl ?_
                                    exact ih141 (y + 1) S14 hfS14 (by omega) (by omega) hwv (by omega) (by omega) (by omega) (by omega)
                              refine kw_lv [1, 2, 3, 4, 5, 0] rfl ?_
                              exact hL141 7 0 S9 hfS9 (by omega) (by omega) hwv (by omega) (by omega) (by omega) (by omega)
                            · refine kw_bipush hC dX8_order_135 rfl (by decide) ?_
                              exact hR9.1 rfl _ _ _ _ dX8_order_137 (by first | exact ⟨_, rfl, hp9.2.1, (tR_tW hfS9).trans (fV_tW hp9.2.2.1)⟩ | exact ⟨_, rfl, hRS9, tR_tW hfS9⟩)
                          · refine kw_aload_n hC dX8_order_102 rfl 0 rfl ?_
                            refine kg_30_15 hC w8 f77 dX8_order_103 rfl (by decide) (by decide) ?_
                            refine kw_iload hC dX8_order_106 rfl 5 rfl ?_
                            refine kw_aload_n hC dX8_order_108 rfl 0 rfl ?_
                            refine kg_30_17 hC w8 f148 dX8_order_109 rfl (by decide) (by decide) ?_
                            refine kw_bipush hC dX8_order_112 rfl (by decide) ?_
                            refine kw_iload hC dX8_order_114 rfl 4 rfl ?_
                            refine kw_imul hC dX8_order_116 rfl ?_
                            refine kw_iload hC dX8_order_117 rfl 5 rfl ?_
                            refine kw_iadd hC dX8_order_119 rfl ?_
                            refine ka_57 hC dX8_order_120 rfl (by decide) (by decide) (by omega) (by omega) ?_
                            refine ks_55 hC dX8_order_121 rfl (by decide) (by decide) (by omega) (by omega) ?_
                            refine kw_hv hfW95 (by unfold tR; omega) (fun S15 hfS15 hv15 ho15 => ?_)
                            have hRS15 := hRS.fr hfS15
                            have hnS15 := hRS15.n
                            have enS15 : S15 30 0 0 = S 30 0 0 := hfS15 30 0 0 (by unfold tR; omega)
                            have e14_15 : S15 30 0 14 = W95 30 0 14 := ho15 30 0 14 (by omega)
                            replace hwv : WV (S15 53 0) (S15 30 0 14) (S15 30 0 0) := hwv.eq (fun j _ _ => ho15 53 0 j (by omega)) e14_15 (ho15 30 0 0 (by omega))
                            have e1615 : S15 30 0 16 = W95 30 0 16 := ho15 30 0 16 (by omega)
                            refine kw_iinc (lv' := [(5, _), (0, _), (1, _), (2, _), (3, _), (4, _)]) hC dX8_order_122 rfl 5 rfl (by decide) rfl ?_
                            refine kw_goto (tgt := 95) hC dX8_order_125 rfl (by decide) ?_
                            refine kw_lv [1, 2, 3, 4, 5, 0] rfl ?_
                            exact ih95 (y + 1) S15 hfS15 (by omega) (by omega) hwv (by omega) (by omega) (by omega) (by omega)
                      refine kw_lv [1, 2, 3, 4, 5, 0] rfl ?_
                      exact hL95 7 0 W83 hfW83 (by omega) (by omega) hwv (by omega) (by omega) (by omega) (by omega)
                refine kw_lv [2, 3, 4, 1, 0] rfl ?_
                exact hL83 7 0 _ W72 hfW72 (by omega) (by omega) (by omega) (by omega) hwv (by omega) (by omega) (by omega) (by omega)
          refine kw_lv [1, 2, 0] rfl ?_
          exact hL72 31 1 W21 hfW21 (by omega) (by omega) hwv (by omega) (by omega) (by omega) (by omega)
        · refine kw_iconst hC dX8_order_29 rfl ?_
          refine kw_istore_n (lv' := [(3, _), (0, _), (1, _), (2, _)]) hC dX8_order_30 rfl (by decide) rfl ?_
          have hL31 : ∀ (n31 : Nat) (y : Int) (W31 : wSt), Fr tR S W31 → (0 ≤ y) → (y ≤ 6) → (WV (W31 53 0) (W31 30 0 14) (W31 30 0 0)) → (0 ≤ W31 30 0 14) → (W31 30 0 14 ≤ 100) → (W31 30 0 16 = 0 ∨ W31 30 0 16 = 1) → 6 - y < (n31 : Int) → Wk E g 6 W31 31 [(0, vr g 30 0), (1, vi a), (2, vi i), (3, vi y)] [] := by
            intro n31
            induction n31 with
            | zero => intro y W31 hfW31 y0 y1 hwv w0 w1 hgw hm31; exact absurd hm31 (by omega)
            | succ n31 ih31 =>
              intro y W31 hfW31 y0 y1 hwv w0 w1 hgw hm31
              have hRW31 := hRS.fr hfW31
              have hnW31 := hRW31.n
              have enW31 : W31 30 0 0 = S 30 0 0 := hfW31 30 0 0 (by unfold tR; omega)
              refine kw_iload_n hC dX8_order_31 rfl 3 rfl ?_
              refine kw_bipush hC dX8_order_32 rfl (by decide) ?_
              refine kw_icmp_ge (tgt := 64) hC dX8_order_34 rfl (by decide) (by omega) (by omega) ⟨fun c34 => ?_, fun c34 => ?_⟩
              · refine kw_iinc (lv' := [(2, _), (0, _), (1, _), (3, _)]) hC dX8_order_64 rfl 2 rfl (by decide) rfl ?_
                refine kw_goto (tgt := 21) hC dX8_order_67 rfl (by decide) ?_
                refine kw_lv [1, 2, 0] rfl ?_
                exact ih21 (i + 1) W31 hfW31 (by omega) (by omega) (by omega) hwv (by omega) (by omega) (by omega) (by omega)
              · refine kw_aload_n hC dX8_order_37 rfl 0 rfl ?_
                refine kg_30_17 hC w8 f148 dX8_order_38 rfl (by decide) (by decide) ?_
                refine kw_bipush hC dX8_order_41 rfl (by decide) ?_
                refine kw_iload_n hC dX8_order_43 rfl 2 rfl ?_
                refine kw_imul hC dX8_order_44 rfl ?_
                refine kw_iload_n hC dX8_order_45 rfl 3 rfl ?_
                refine kw_iadd hC dX8_order_46 rfl ?_
                refine kw_iload_n hC dX8_order_47 rfl 3 rfl ?_
                refine kw_iload_n hC dX8_order_48 rfl 2 rfl ?_
                refine kw_icmp_ne (tgt := 56) hC dX8_order_49 rfl (by decide) (by omega) (by omega) ⟨fun c49 => ?_, fun c49 => ?_⟩
                · refine kw_lconst (z := 0) hC dX8_order_56 rfl rfl ?_
                  refine ks_57 hC dX8_order_57 rfl (by decide) (by decide) (by omega) (by omega) ?_
                  refine kw_hv hfW31 (by unfold tR; omega) (fun S18 hfS18 hv18 ho18 => ?_)
                  have hRS18 := hRS.fr hfS18
                  have hnS18 := hRS18.n
                  have enS18 : S18 30 0 0 = S 30 0 0 := hfS18 30 0 0 (by unfold tR; omega)
                  have e14_18 : S18 30 0 14 = W31 30 0 14 := ho18 30 0 14 (by omega)
                  replace hwv : WV (S18 53 0) (S18 30 0 14) (S18 30 0 0) := hwv.eq (fun j _ _ => ho18 53 0 j (by omega)) e14_18 (ho18 30 0 0 (by omega))
                  have e1618 : S18 30 0 16 = W31 30 0 16 := ho18 30 0 16 (by omega)
                  refine kw_iinc (lv' := [(3, _), (0, _), (1, _), (2, _)]) hC dX8_order_58 rfl 3 rfl (by decide) rfl ?_
                  refine kw_goto (tgt := 31) hC dX8_order_61 rfl (by decide) ?_
                  refine kw_lv [1, 2, 3, 0] rfl ?_
                  exact ih31 (y + 1) S18 hfS18 (by omega) (by omega) hwv (by omega) (by omega) (by omega) (by omega)
                · refine kw_lconst (z := 1) hC dX8_order_52 rfl rfl ?_
                  refine kw_goto (tgt := 57) hC dX8_order_53 rfl (by decide) ?_
                  refine ks_57 hC dX8_order_57 rfl (by decide) (by decide) (by omega) (by omega) ?_
                  refine kw_hv hfW31 (by unfold tR; omega) (fun S19 hfS19 hv19 ho19 => ?_)
                  have hRS19 := hRS.fr hfS19
                  have hnS19 := hRS19.n
                  have enS19 : S19 30 0 0 = S 30 0 0 := hfS19 30 0 0 (by unfold tR; omega)
                  have e14_19 : S19 30 0 14 = W31 30 0 14 := ho19 30 0 14 (by omega)
                  replace hwv : WV (S19 53 0) (S19 30 0 14) (S19 30 0 0) := hwv.eq (fun j _ _ => ho19 53 0 j (by omega)) e14_19 (ho19 30 0 0 (by omega))
                  have e1619 : S19 30 0 16 = W31 30 0 16 := ho19 30 0 16 (by omega)
                  refine kw_iinc (lv' := [(3, _), (0, _), (1, _), (2, _)]) hC dX8_order_58 rfl 3 rfl (by decide) rfl ?_
                  refine kw_goto (tgt := 31) hC dX8_order_61 rfl (by decide) ?_
                  refine kw_lv [1, 2, 3, 0] rfl ?_
                  exact ih31 (y + 1) S19 hfS19 (by omega) (by omega) hwv (by omega) (by omega) (by omega) (by omega)
          refine kw_lv [1, 2, 3, 0] rfl ?_
          exact hL31 7 0 W21 hfW21 (by omega) (by omega) hwv (by omega) (by omega) (by omega) (by omega)
    refine kw_lv [1, 2, 0] rfl ?_
    exact hL21 7 0 S3 hfS3 (by omega) (by omega) (by omega) hwv (by omega) (by omega) (by omega) (by omega)
  · refine kw_iconst hC dX8_order_7 rfl ?_
    exact hR9.1 rfl _ _ _ _ dX8_order_8 (by first | exact ⟨_, rfl, hp9.2.1, (tR_tW hfS).trans (fV_tW hp9.2.2.1)⟩ | exact ⟨_, rfl, hRS, tR_tW hfS⟩)

set_option maxHeartbeats 4000000 in
set_option maxRecDepth 100000 in
theorem d_X8_below {g : wG} (hD : wD g) {S : wSt} {a b : Int} (ha : -2147483648 ≤ a ∧ a ≤ 2147483647) (hb : -2147483648 ≤ b ∧ b ≤ 2147483647) (hRS : RI S) (l : Launch) : Kt l yX8_below wsX8_below ({ frames := 4, cells := 0, slots := 0, locals := 93 } : Room) g S [vr g 30 0, vi a, vi b] (pI (fun _ S' => RI S' ∧ Fr tW S S')) := by
  refine Kt.of (cc := cX8_below) (nL := 5) (ret := (some .int)) (own := RX8) rfl hD (by decide) rfl (Nat.le_of_ble_eq_true rfl) ⟨rfl, rfl⟩ ?_
  intro E hC hR9
  have f57 : Cond.fieldLink RX8 57 "MirrorBenchModel" "wMany" "I" ∈ wsX8_below := by decide +kernel
  have f60 : Cond.fieldLink RX8 60 "MirrorBenchModel" "w" "[I" ∈ wsX8_below := by decide +kernel
  have f81 : Cond.fieldLink RX8 81 "MirrorBenchModel" "isGreat" "Z" ∈ wsX8_below := by decide +kernel
  have f92 : Cond.fieldLink RX8 92 "MirrorBenchModel" "rMany" "I" ∈ wsX8_below := by decide +kernel
  have f95 : Cond.fieldLink RX8 95 "MirrorBenchModel" "r" "[I" ∈ wsX8_below := by decide +kernel
  have f126 : Cond.fieldLink RX8 126 "MirrorBenchModel" "vMany" "I" ∈ wsX8_below := by decide +kernel
  have f129 : Cond.fieldLink RX8 129 "MirrorBenchModel" "v" "[I" ∈ wsX8_below := by decide +kernel
  have w8 : ∀ w ∈ wsX80, w ∈ wsX8_below := by decide +kernel
  show Wk E g 5 S 0 [(0, vr g 30 0), (1, vi a), (2, vi b)] []
  have hfS : Fr tR S S := Fr.rfl _ S
  have hRS := hRS.fr hfS
  have hnS := hRS.n
  have enS : S 30 0 0 = S 30 0 0 := hfS 30 0 0 (by unfold tR; omega)
  refine kw_iload_n hC dX8_below_0 rfl 1 rfl ?_
  refine kw_callS hC (d_X8_isSlot hD (by omega)) gX8_below_X8_isSlot rfl ⟨rfl, rfl⟩ 1 (by decide +kernel) ⟨by decide, by decide⟩ rfl rfl (Nat.le_of_ble_eq_true rfl) dX8_below_1 rfl (kd_ie ?_)
  refine kw_ifeq_b (tgt := 14) hC dX8_below_4 rfl (by decide) ⟨fun c4 => ?_, fun c4 => ?_⟩
  · refine kw_iconst hC dX8_below_14 rfl ?_
    exact hR9.1 rfl _ _ _ _ dX8_below_15 (by first | exact ⟨_, rfl, hp9.2.1, (tR_tW hfS).trans (fV_tW hp9.2.2.1)⟩ | exact ⟨_, rfl, hRS, tR_tW hfS⟩)
  · refine kw_iload_n hC dX8_below_7 rfl 2 rfl ?_
    refine kw_callS hC (d_X8_isSlot hD (by omega)) gX8_below_X8_isSlot rfl ⟨rfl, rfl⟩ 1 (by decide +kernel) ⟨by decide, by decide⟩ rfl rfl (Nat.le_of_ble_eq_true rfl) dX8_below_8 rfl (kd_ie ?_)
    refine kw_ifne_b (tgt := 16) hC dX8_below_11 rfl (by decide) ⟨fun c11 => ?_, fun c11 => ?_⟩
    · refine kw_aload_n hC dX8_below_16 rfl 0 rfl ?_
      refine kw_iload_n hC dX8_below_17 rfl 1 rfl ?_
      refine kw_callV hC (d_X8_load hD (by omega) (by omega) hRS) gX8_below_X8_load ⟨_, rfl⟩ rfl (by decide) (by decide) rfl ⟨rfl, rfl⟩ 1 (by decide +kernel) ⟨by decide, by decide⟩ rfl rfl (Nat.le_of_ble_eq_true rfl) dX8_below_18 rfl (kd_v (fun S3 hp3 => ?_))
      obtain ⟨hg3, hp3⟩ := hp3
      have hfS3 : Fr tR S S3 := hfS.trans (hg3.mono (fun k i j h => by unfold fL at h; unfold tR; omega))
      have hRS3 := hRS.fr hfS3
      have hnS3 := hRS3.n
      have enS3 : S3 30 0 0 = S 30 0 0 := hfS3 30 0 0 (by unfold tR; omega)
      obtain ⟨q14, qW⟩ := hp3
      have hwv : WV (S3 53 0) (S3 30 0 14) (S3 30 0 0) := ldWV hRS (by omega) (by omega) q14 qW (by omega)
      have hl3 := hRS.ln a (by omega) (by omega)
      refine kw_aload_n hC dX8_below_21 rfl 0 rfl ?_
      refine kw_callV hC (d_X8_shortOf hD hRS3 hwv (by omega) (by omega)) gX8_below_X8_shortOf ⟨_, rfl⟩ rfl (by decide) (by decide) rfl ⟨rfl, rfl⟩ 0 (by decide +kernel) ⟨by decide, by decide⟩ rfl rfl (Nat.le_of_ble_eq_true rfl) dX8_below_22 rfl (kd_i (fun r4 S4 hp4 => ?_))
      obtain ⟨hg4, hp4⟩ := hp4
      have hfS4 : Fr tR S S4 := hfS3.trans (hg4.mono (fun k i j h => by unfold fS at h; unfold tR; omega))
      have hRS4 := hRS.fr hfS4
      have hnS4 := hRS4.n
      have enS4 : S4 30 0 0 = S 30 0 0 := hfS4 30 0 0 (by unfold tR; omega)
      obtain ⟨hb4, ⟨r0, r1⟩, hrv, hgw⟩ := hp4
      replace hrv : WV (S4 47 0) (S4 30 0 8) (S4 30 0 0) := hrv.eq (fun _ _ _ => rfl) rfl (by omega)
      refine kw_if_ne (tgt := 31) hC dX8_below_25 rfl (by decide) (by omega) ⟨fun c25 => ?_, fun c25 => ?_⟩
      · refine kw_aload_n hC dX8_below_31 rfl 0 rfl ?_
        refine kw_callV hC (d_X8_rToW hD (by omega) (by omega)) gX8_below_X8_rToW ⟨_, rfl⟩ rfl (by decide) (by decide) rfl ⟨rfl, rfl⟩ 0 (by decide +kernel) ⟨by decide, by decide⟩ rfl rfl (Nat.le_of_ble_eq_true rfl) dX8_below_32 rfl (kd_v (fun S6 hp6 => ?_))
        obtain ⟨hg6, hp6⟩ := hp6
        have hfS6 : Fr tR S S6 := hfS4.trans (hg6.mono (fun k i j h => by unfold fL at h; unfold tR; omega))
        have hRS6 := hRS.fr hfS6
        have hnS6 := hRS6.n
        have enS6 : S6 30 0 0 = S 30 0 0 := hfS6 30 0 0 (by unfold tR; omega)
        obtain ⟨q14, qW⟩ := hp6
        have hwv : WV (S6 53 0) (S6 30 0 14) (S6 30 0 0) := hrv.eq (fun j j0 j1 => qW j j0 (by omega)) q14 (by omega)
        have e8_6 : S6 30 0 8 = S4 30 0 8 := hg6 30 0 8 (by unfold fL; omega)
        refine kw_aload_n hC dX8_below_35 rfl 0 rfl ?_
        refine kw_callV hC (d_X8_wToV hD (by omega) (by omega)) gX8_below_X8_wToV ⟨_, rfl⟩ rfl (by decide) (by decide) rfl ⟨rfl, rfl⟩ 0 (by decide +kernel) ⟨by decide, by decide⟩ rfl rfl (Nat.le_of_ble_eq_true rfl) dX8_below_36 rfl (kd_v (fun S7 hp7 => ?_))
        obtain ⟨hg7, hp7⟩ := hp7
        have hfS7 : Fr tR S S7 := hfS6.trans (hg7.mono (fun k i j h => by unfold fX at h; unfold tR; omega))
        have hRS7 := hRS.fr hfS7
        have hnS7 := hRS7.n
        have enS7 : S7 30 0 0 = S 30 0 0 := hfS7 30 0 0 (by unfold tR; omega)
        obtain ⟨q12, qV⟩ := hp7
        have hvv : WV (S7 51 0) (S7 30 0 12) (S7 30 0 0) := hwv.eq (fun j j0 j1 => qV j j0 j1) q12 (by omega)
        have e14_7 : S7 30 0 14 = S6 30 0 14 := hg7 30 0 14 (by unfold fX; omega)
        replace hwv : WV (S7 53 0) (S7 30 0 14) (S7 30 0 0) := hwv.eq (fun j _ _ => hg7 53 0 j (by unfold fX; omega)) e14_7 (hg7 30 0 0 (by unfold fX; omega))
        refine kw_aload_n hC dX8_below_39 rfl 0 rfl ?_
        refine kw_iload_n hC dX8_below_40 rfl 2 rfl ?_
        refine kw_callV hC (d_X8_load hD (by omega) (by omega) hRS7) gX8_below_X8_load ⟨_, rfl⟩ rfl (by decide) (by decide) rfl ⟨rfl, rfl⟩ 1 (by decide +kernel) ⟨by decide, by decide⟩ rfl rfl (Nat.le_of_ble_eq_true rfl) dX8_below_41 rfl (kd_v (fun S8 hp8 => ?_))
        obtain ⟨hg8, hp8⟩ := hp8
        have hfS8 : Fr tR S S8 := hfS7.trans (hg8.mono (fun k i j h => by unfold fL at h; unfold tR; omega))
        have hRS8 := hRS.fr hfS8
        have hnS8 := hRS8.n
        have enS8 : S8 30 0 0 = S 30 0 0 := hfS8 30 0 0 (by unfold tR; omega)
        obtain ⟨q14, qW⟩ := hp8
        have hwv : WV (S8 53 0) (S8 30 0 14) (S8 30 0 0) := ldWV hRS7 (by omega) (by omega) q14 qW (by omega)
        have hl8 := hRS7.ln b (by omega) (by omega)
        have e12_8 : S8 30 0 12 = S7 30 0 12 := hg8 30 0 12 (by unfold fL; omega)
        replace hvv : WV (S8 51 0) (S8 30 0 12) (S8 30 0 0) := hvv.eq (fun j _ _ => hg8 51 0 j (by unfold fL; omega)) e12_8 (hg8 30 0 0 (by unfold fL; omega))
        refine kw_aload_n hC dX8_below_44 rfl 0 rfl ?_
        refine kw_callV hC (d_X8_shortOf hD hRS8 hwv (by omega) (by omega)) gX8_below_X8_shortOf ⟨_, rfl⟩ rfl (by decide) (by decide) rfl ⟨rfl, rfl⟩ 0 (by decide +kernel) ⟨by decide, by decide⟩ rfl rfl (Nat.le_of_ble_eq_true rfl) dX8_below_45 rfl (kd_i (fun r9 S9 hp9 => ?_))
        obtain ⟨hg9, hp9⟩ := hp9
        have hfS9 : Fr tR S S9 := hfS8.trans (hg9.mono (fun k i j h => by unfold fS at h; unfold tR; omega))
        have hRS9 := hRS.fr hfS9
        have hnS9 := hRS9.n
        have enS9 : S9 30 0 0 = S 30 0 0 := hfS9 30 0 0 (by unfold tR; omega)
        obtain ⟨hb9, ⟨r0, r1⟩, hrv, hgw⟩ := hp9
        replace hrv : WV (S9 47 0) (S9 30 0 8) (S9 30 0 0) := hrv.eq (fun _ _ _ => rfl) rfl (by omega)
        have e12_9 : S9 30 0 12 = S8 30 0 12 := hg9 30 0 12 (by unfold fS; omega)
        replace hvv : WV (S9 51 0) (S9 30 0 12) (S9 30 0 0) := hvv.eq (fun j _ _ => hg9 51 0 j (by unfold fS; omega)) e12_9 (hg9 30 0 0 (by unfold fS; omega))
        refine kw_if_ne (tgt := 54) hC dX8_below_48 rfl (by decide) (by omega) ⟨fun c48 => ?_, fun c48 => ?_⟩
        · refine kw_aload_n hC dX8_below_54 rfl 0 rfl ?_
          refine kw_callV hC (d_X8_rToW hD (by omega) (by omega)) gX8_below_X8_rToW ⟨_, rfl⟩ rfl (by decide) (by decide) rfl ⟨rfl, rfl⟩ 0 (by decide +kernel) ⟨by decide, by decide⟩ rfl rfl (Nat.le_of_ble_eq_true rfl) dX8_below_55 rfl (kd_v (fun S11 hp11 => ?_))
          obtain ⟨hg11, hp11⟩ := hp11
          have hfS11 : Fr tR S S11 := hfS9.trans (hg11.mono (fun k i j h => by unfold fL at h; unfold tR; omega))
          have hRS11 := hRS.fr hfS11
          have hnS11 := hRS11.n
          have enS11 : S11 30 0 0 = S 30 0 0 := hfS11 30 0 0 (by unfold tR; omega)
          obtain ⟨q14, qW⟩ := hp11
          have hwv : WV (S11 53 0) (S11 30 0 14) (S11 30 0 0) := hrv.eq (fun j j0 j1 => qW j j0 (by omega)) q14 (by omega)
          have e12_11 : S11 30 0 12 = S9 30 0 12 := hg11 30 0 12 (by unfold fL; omega)
          replace hvv : WV (S11 51 0) (S11 30 0 12) (S11 30 0 0) := hvv.eq (fun j _ _ => hg11 51 0 j (by unfold fL; omega)) e12_11 (hg11 30 0 0 (by unfold fL; omega))
          have e1611 : S11 30 0 16 = S9 30 0 16 := hg11 30 0 16 (by unfold fL; omega)
          refine kw_aload_n hC dX8_below_58 rfl 0 rfl ?_
          refine kw_aload_n hC dX8_below_59 rfl 0 rfl ?_
          refine kg_30_12 hC w8 f126 dX8_below_60 rfl (by decide) (by decide) ?_
          refine kp_30_8 hC w8 f92 dX8_below_63 rfl (by decide) (by decide) ?_
          refine kw_hv hfS11 (by unfold tR; omega) (fun S12 hfS12 hv12 ho12 => ?_)
          have hRS12 := hRS.fr hfS12
          have hnS12 := hRS12.n
          have enS12 : S12 30 0 0 = S 30 0 0 := hfS12 30 0 0 (by unfold tR; omega)
          have e12_12 : S12 30 0 12 = S11 30 0 12 := ho12 30 0 12 (by omega)
          replace hvv : WV (S12 51 0) (S12 30 0 12) (S12 30 0 0) := hvv.eq (fun j _ _ => ho12 51 0 j (by omega)) e12_12 (ho12 30 0 0 (by omega))
          have e14_12 : S12 30 0 14 = S11 30 0 14 := ho12 30 0 14 (by omega)
          replace hwv : WV (S12 53 0) (S12 30 0 14) (S12 30 0 0) := hwv.eq (fun j _ _ => ho12 53 0 j (by omega)) e14_12 (ho12 30 0 0 (by omega))
          have e1612 : S12 30 0 16 = S11 30 0 16 := ho12 30 0 16 (by omega)
          have q8 := hv12
          refine kw_iconst hC dX8_below_66 rfl ?_
          refine kw_istore_n (lv' := [(3, _), (0, _), (1, _), (2, _)]) hC dX8_below_67 rfl (by decide) rfl ?_
          have hL68 : ∀ (n68 : Nat) (x : Int) (W68 : wSt), Fr tR S W68 → (0 ≤ x) → (x ≤ W68 30 0 12) → (WV (W68 47 0) x (W68 30 0 0)) → (W68 30 0 8 = W68 30 0 12) → (WV (W68 51 0) (W68 30 0 12) (W68 30 0 0)) → (0 ≤ W68 30 0 12) → (W68 30 0 12 ≤ 100) → (WV (W68 53 0) (W68 30 0 14) (W68 30 0 0)) → (0 ≤ W68 30 0 14) → (W68 30 0 14 ≤ 100) → (W68 30 0 16 = 0 ∨ W68 30 0 16 = 1) → W68 30 0 12 - x < (n68 : Int) → Wk E g 5 W68 68 [(0, vr g 30 0), (1, vi a), (2, vi b), (3, vi x)] [] := by
            intro n68
            induction n68 with
            | zero => intro x W68 hfW68 x0 x1 hr8 e8 hvv v0 v1 hwv w0 w1 hgw hm68; exact absurd hm68 (by omega)
            | succ n68 ih68 =>
              intro x W68 hfW68 x0 x1 hr8 e8 hvv v0 v1 hwv w0 w1 hgw hm68
              have hRW68 := hRS.fr hfW68
              have hnW68 := hRW68.n
              have enW68 : W68 30 0 0 = S 30 0 0 := hfW68 30 0 0 (by unfold tR; omega)
              refine kw_iload_n hC dX8_below_68 rfl 3 rfl ?_
              refine kw_aload_n hC dX8_below_69 rfl 0 rfl ?_
              refine kg_30_12 hC w8 f126 dX8_below_70 rfl (by decide) (by decide) ?_
              refine kw_icmp_ge (tgt := 94) hC dX8_below_73 rfl (by decide) (by omega) (by omega) ⟨fun c73 => ?_, fun c73 => ?_⟩
              · refine kw_aload_n hC dX8_below_94 rfl 0 rfl ?_
                refine kg_30_14 hC w8 f57 dX8_below_95 rfl (by decide) (by decide) ?_
                refine kw_iconst hC dX8_below_98 rfl ?_
                refine kw_isub hC dX8_below_99 rfl ?_
                refine kw_istore_n (lv' := [(3, _), (0, _), (1, _), (2, _)]) hC dX8_below_100 rfl (by decide) rfl ?_
                have hrv : WV (W68 47 0) (W68 30 0 8) (W68 30 0 0) := hr8.eq (fun _ _ _ => rfl) (by omega) rfl
                have hL101 : ∀ (n101 : Nat) (x : Int) (W101 : wSt), Fr tR S W101 → (-1 ≤ x) → (x < W101 30 0 14) → (WV (W101 47 0) (W101 30 0 8) (W101 30 0 0)) → (0 ≤ W101 30 0 8) → (W101 30 0 8 ≤ 100) → (WV (W101 53 0) (W101 30 0 14) (W101 30 0 0)) → (0 ≤ W101 30 0 14) → (W101 30 0 14 ≤ 100) → (W101 30 0 16 = 0 ∨ W101 30 0 16 = 1) → x + 1 < (n101 : Int) → Wk E g 5 W101 101 [(0, vr g 30 0), (1, vi a), (2, vi b), (3, vi x)] [] := by
                  intro n101
                  induction n101 with
                  | zero => intro x W101 hfW101 x0 x1 hrv r0 r1 hwv w0 w1 hgw hm101; exact absurd hm101 (by omega)
                  | succ n101 ih101 =>
                    intro x W101 hfW101 x0 x1 hrv r0 r1 hwv w0 w1 hgw hm101
                    have hRW101 := hRS.fr hfW101
                    have hnW101 := hRW101.n
                    have enW101 : W101 30 0 0 = S 30 0 0 := hfW101 30 0 0 (by unfold tR; omega)
                    refine kw_iload_n hC dX8_below_101 rfl 3 rfl ?_
                    refine kw_if_lt (tgt := 144) hC dX8_below_102 rfl (by decide) (by omega) ⟨fun c102 => ?_, fun c102 => ?_⟩
                    · refine kw_aload_n hC dX8_below_144 rfl 0 rfl ?_
                      refine kg_30_8 hC w8 f92 dX8_below_145 rfl (by decide) (by decide) ?_
                      refine kw_nri ?_
                      refine kw_if_ne (tgt := 155) hC dX8_below_148 rfl (by decide) (ni_r _) ⟨fun c148 => ?_, fun c148 => ?_⟩
                      · refine kw_iconst hC dX8_below_155 rfl ?_
                        exact hR9.1 rfl _ _ _ _ dX8_below_156 (by first | exact ⟨_, rfl, hp9.2.1, (tR_tW hfW101).trans (fV_tW hp9.2.2.1)⟩ | exact ⟨_, rfl, hRW101, tR_tW hfW101⟩)
                      · refine kw_iconst hC dX8_below_151 rfl ?_
                        refine kw_goto (tgt := 156) hC dX8_below_152 rfl (by decide) ?_
                        exact hR9.1 rfl _ _ _ _ dX8_below_156 (by first | exact ⟨_, rfl, hp9.2.1, (tR_tW hfW101).trans (fV_tW hp9.2.2.1)⟩ | exact ⟨_, rfl, hRW101, tR_tW hfW101⟩)
                    · refine kw_aload_n hC dX8_below_105 rfl 0 rfl ?_
                      refine kw_aload_n hC dX8_below_106 rfl 0 rfl ?_
                      refine kg_30_13 hC w8 f60 dX8_below_107 rfl (by decide) (by decide) ?_
                      refine kw_iload_n hC dX8_below_110 rfl 3 rfl ?_
                      refine ka_53 hC dX8_below_111 rfl (by decide) (by decide) (by omega) (by omega) ?_
                      have hwx := hwv x (by omega) (by omega)
                      refine kw_callV hC (d_X8_behind hD (by omega) hRW101 hrv (by omega) (by omega) hgw) gX8_below_X8_behind ⟨_, rfl⟩ rfl (by decide) (by decide) rfl ⟨rfl, rfl⟩ 1 (by decide +kernel) ⟨by decide, by decide⟩ rfl rfl (Nat.le_of_ble_eq_true rfl) dX8_below_112 rfl (kd_i (fun r16 S16 hp16 => ?_))
                      obtain ⟨hg16, hp16⟩ := hp16
                      have hfS16 : Fr tR S S16 := hfW101.trans (hg16.mono (fun k i j h => by unfold fT at h; unfold tR; omega))
                      have hRS16 := hRS.fr hfS16
                      have hnS16 := hRS16.n
                      have enS16 : S16 30 0 0 = S 30 0 0 := hfS16 30 0 0 (by unfold tR; omega)
                      obtain ⟨⟨k016, k116⟩, hgw, -⟩ := hp16
                      have e8_16 : S16 30 0 8 = W101 30 0 8 := hg16 30 0 8 (by unfold fT; omega)
                      replace hrv : WV (S16 47 0) (S16 30 0 8) (S16 30 0 0) := hrv.eq (fun j _ _ => hg16 47 0 j (by unfold fT; omega)) e8_16 (hg16 30 0 0 (by unfold fT; omega))
                      have e14_16 : S16 30 0 14 = W101 30 0 14 := hg16 30 0 14 (by unfold fT; omega)
                      replace hwv : WV (S16 53 0) (S16 30 0 14) (S16 30 0 0) := hwv.eq (fun j _ _ => hg16 53 0 j (by unfold fT; omega)) e14_16 (hg16 30 0 0 (by unfold fT; omega))
                      refine kw_istore (lv' := [(4, _), (0, _), (1, _), (2, _), (3, _)]) hC dX8_below_115 rfl (by decide) rfl ?_
                      refine kw_aload_n hC dX8_below_117 rfl 1 rfl ?_
                      refine kg_30_16 hC w8 f81 dX8_below_118 rfl (by decide) (by decide) ?_
                      refine kw_if_eq (tgt := 127) hC dX8_below_121 rfl (by decide) (by omega) ⟨fun c121 => ?_, fun c121 => ?_⟩
                      · refine kw_iload hC dX8_below_127 rfl 0 rfl ?_
                        refine kw_if_lt (tgt := 138) hC dX8_below_129 rfl (by decide) (by omega) ⟨fun c129 => ?_, fun c129 => ?_⟩
                        · refine kw_iinc (lv' := [(3, _), (4, _), (0, _), (1, _), (2, _)]) hC dX8_below_138 rfl 4 rfl (by decide) rfl ?_
                          refine kw_goto (tgt := 101) hC dX8_below_141 rfl (by decide) ?_
                          refine kw_lv [2, 3, 4, 0] rfl ?_
                          exact ih101 (x + -1) S16 hfS16 (by omega) (by omega) hrv (by omega) (by omega) hwv (by omega) (by omega) (by omega) (by omega)
                        · refine kw_aload_n hC dX8_below_132 rfl 1 rfl ?_
                          refine kw_iload hC dX8_below_133 rfl 0 rfl ?_
                          refine kw_callV hC (d_X8_goesFromR hD (by omega) (by omega) (by omega)) gX8_below_X8_goesFromR ⟨_, rfl⟩ rfl (by decide) (by decide) rfl ⟨rfl, rfl⟩ 1 (by decide +kernel) ⟨by decide, by decide⟩ rfl rfl (Nat.le_of_ble_eq_true rfl) dX8_below_135 rfl (kd_v (fun S19 hp19 => ?_))
                          obtain ⟨hg19, hp19⟩ := hp19
                          have hfS19 : Fr tR S S19 := hfS16.trans (hg19.mono (fun k i j h => by unfold fG at h; unfold tR; omega))
                          have hRS19 := hRS.fr hfS19
                          have hnS19 := hRS19.n
                          have enS19 : S19 30 0 0 = S 30 0 0 := hfS19 30 0 0 (by unfold tR; omega)
                          obtain ⟨q8, qr1, qr2⟩ := hp19
                          replace hrv : WV (S19 47 0) (S19 30 0 8) (S19 30 0 0) := (q8 ▸ WV.del hrv qr1 qr2 (by omega)).eq (fun _ _ _ => rfl) rfl (hg19 30 0 0 (by unfold fG; omega))
                          have e14_19 : S19 30 0 14 = S16 30 0 14 := hg19 30 0 14 (by unfold fG; omega)
                          replace hwv : WV (S19 53 0) (S19 30 0 14) (S19 30 0 0) := hwv.eq (fun j _ _ => hg19 53 0 j (by unfold fG; omega)) e14_19 (hg19 30 0 0 (by unfold fG; omega))
                          have e1619 : S19 30 0 16 = S16 30 0 16 := hg19 30 0 16 (by unfold fG; omega)
                          refine kw_iinc (lv' := [(3, _), (4, _), (0, _), (1, _), (2, _)]) hC dX8_below_138 rfl 4 rfl (by decide) rfl ?_
                          refine kw_goto (tgt := 101) hC dX8_below_141 rfl (by decide) ?_
                          refine kw_lv [2, 3, 4, 0] rfl ?_
                          exact ih101 (x + -1) S19 hfS19 (by omega) (by omega) hrv (by omega) (by omega) hwv (by omega) (by omega) (by omega) (by omega)
                      · refine kw_bipush hC dX8_below_124 rfl (by decide) ?_
                        exact hR9.1 rfl _ _ _ _ dX8_below_126 (by first | exact ⟨_, rfl, hp9.2.1, (tR_tW hfS16).trans (fV_tW hp9.2.2.1)⟩ | exact ⟨_, rfl, hRS16, tR_tW hfS16⟩)
                refine kw_lv [1, 2, 3, 0] rfl ?_
                exact hL101 101 _ W68 hfW68 (by omega) (by omega) hrv (by omega) (by omega) hwv (by omega) (by omega) (by omega) (by omega)
              · refine kw_aload_n hC dX8_below_76 rfl 0 rfl ?_
                refine kg_30_7 hC w8 f95 dX8_below_77 rfl (by decide) (by decide) ?_
                refine kw_iload_n hC dX8_below_80 rfl 3 rfl ?_
                refine kw_aload_n hC dX8_below_81 rfl 0 rfl ?_
                refine kg_30_11 hC w8 f129 dX8_below_82 rfl (by decide) (by decide) ?_
                refine kw_iload_n hC dX8_below_85 rfl 3 rfl ?_
                refine ka_51 hC dX8_below_86 rfl (by decide) (by decide) (by omega) (by omega) ?_
                have hvx := hvv x (by omega) (by omega)
                refine ks_47 hC dX8_below_87 rfl (by decide) (by decide) (by omega) (by omega) ?_
                refine kw_hv hfW68 (by unfold tR; omega) (fun S20 hfS20 hv20 ho20 => ?_)
                have hRS20 := hRS.fr hfS20
                have hnS20 := hRS20.n
                have enS20 : S20 30 0 0 = S 30 0 0 := hfS20 30 0 0 (by unfold tR; omega)
                have e12_20 : S20 30 0 12 = W68 30 0 12 := ho20 30 0 12 (by omega)
                replace hvv : WV (S20 51 0) (S20 30 0 12) (S20 30 0 0) := hvv.eq (fun j _ _ => ho20 51 0 j (by omega)) e12_20 (ho20 30 0 0 (by omega))
                have e14_20 : S20 30 0 14 = W68 30 0 14 := ho20 30 0 14 (by omega)
                replace hwv : WV (S20 53 0) (S20 30 0 14) (S20 30 0 0) := hwv.eq (fun j _ _ => ho20 53 0 j (by omega)) e14_20 (ho20 30 0 0 (by omega))
                have e8_20 : S20 30 0 8 = W68 30 0 8 := ho20 30 0 8 (by omega)
                have e1620 : S20 30 0 16 = W68 30 0 16 := ho20 30 0 16 (by omega)
                have hr9 : WV (S20 47 0) (x + 1) (S20 30 0 0) := (hr8.add (fun j hj => ho20 47 0 j (by omega)) (by rw [hv20]; exact hvx)).eq (fun _ _ _ => rfl) rfl (ho20 30 0 0 (by omega))
                refine kw_iinc (lv' := [(3, _), (0, _), (1, _), (2, _)]) hC dX8_below_88 rfl 3 rfl (by decide) rfl ?_
                refine kw_goto (tgt := 68) hC dX8_below_91 rfl (by decide) ?_
                refine kw_lv [1, 2, 3, 0] rfl ?_
                exact ih68 (x + 1) S20 hfS20 (by omega) (by omega) hr9 (by omega) hvv (by omega) (by omega) hwv (by omega) (by omega) (by omega) (by omega)
          refine kw_lv [1, 2, 3, 0] rfl ?_
          exact hL68 101 0 S12 hfS12 (by omega) (by omega) (fun j _ _ => by omega) (by omega) hvv (by omega) (by omega) hwv (by omega) (by omega) (by omega) (by omega)
        · refine kw_bipush hC dX8_below_51 rfl (by decide) ?_
          exact hR9.1 rfl _ _ _ _ dX8_below_53 (by first | exact ⟨_, rfl, hp9.2.1, (tR_tW hfS9).trans (fV_tW hp9.2.2.1)⟩ | exact ⟨_, rfl, hRS9, tR_tW hfS9⟩)
      · refine kw_bipush hC dX8_below_28 rfl (by decide) ?_
        exact hR9.1 rfl _ _ _ _ dX8_below_30 (by first | exact ⟨_, rfl, hp9.2.1, (tR_tW hfS4).trans (fV_tW hp9.2.2.1)⟩ | exact ⟨_, rfl, hRS4, tR_tW hfS4⟩)
    · refine kw_iconst hC dX8_below_14 rfl ?_
      exact hR9.1 rfl _ _ _ _ dX8_below_15 (by first | exact ⟨_, rfl, hp9.2.1, (tR_tW hfS).trans (fV_tW hp9.2.2.1)⟩ | exact ⟨_, rfl, hRS, tR_tW hfS⟩)

set_option maxHeartbeats 4000000 in
set_option maxRecDepth 100000 in
theorem d_X8_isAbove {g : wG} (hD : wD g) {S : wSt} (m0 : 0 ≤ S 30 0 0) (m1 : S 30 0 0 ≤ 6) (l : Launch) : Kt l yX8_isAbove wsX8_isAbove ({ frames := 0, cells := 0, slots := 0, locals := 0 } : Room) g S [vr g 30 0] (pI (fun r S' => r = bz (∀ j, 0 ≤ j → j < S 30 0 0 → 0 ≤ nl (S 55 0 j)) ∧ S' = S)) := by
  refine Kt.of (cc := cX8_isAbove) (nL := 3) (ret := (some .boolean)) (own := RX8) rfl hD (by decide) rfl (Nat.le_of_ble_eq_true rfl) ⟨rfl, rfl⟩ ?_
  intro E hC hR9
  have f11 : Cond.fieldLink RX8 11 "MirrorBenchModel" "mirrors" "I" ∈ wsX8_isAbove := by decide +kernel
  have f77 : Cond.fieldLink RX8 77 "MirrorBenchModel" "root" "[J" ∈ wsX8_isAbove := by decide +kernel
  have w8 : ∀ w ∈ wsX80, w ∈ wsX8_isAbove := by decide +kernel
  show Wk E g 3 S 0 [(0, vr g 30 0)] []
  refine kw_iconst hC dX8_isAbove_0 rfl ?_
  refine kw_chi (z' := bz (∀ j, 0 ≤ j → j < 0 → 0 ≤ nl (S 55 0 j))) (bz_t (fun j _ _ => by omega)).symm ?_
  refine kw_istore_n (lv' := [(1, _), (0, _)]) hC dX8_isAbove_1 rfl (by decide) rfl ?_
  refine kw_iconst hC dX8_isAbove_2 rfl ?_
  refine kw_istore_n (lv' := [(2, _), (1, _), (0, _)]) hC dX8_isAbove_3 rfl (by decide) rfl ?_
  have hL4 : ∀ (n4 : Nat) (x : Int), (0 ≤ x) → (x ≤ S 30 0 0) → S 30 0 0 - x < (n4 : Int) → Wk E g 3 S 4 [(0, vr g 30 0), (1, vi (bz (∀ j, 0 ≤ j → j < x → 0 ≤ nl (S 55 0 j)))), (2, vi x)] [] := by
    intro n4
    induction n4 with
    | zero => intro x hx0 hx1 hm4; exact absurd hm4 (by omega)
    | succ n4 ih4 =>
      intro x hx0 hx1 hm4
      refine kw_iload_n hC dX8_isAbove_4 rfl 2 rfl ?_
      refine kw_aload_n hC dX8_isAbove_5 rfl 0 rfl ?_
      refine kg_30_0 hC w8 f11 dX8_isAbove_6 rfl (by decide) (by decide) ?_
      refine kw_icmp_ge (tgt := 39) hC dX8_isAbove_9 rfl (by decide) (by omega) (by omega) ⟨fun c9 => ?_, fun c9 => ?_⟩
      · refine kw_iload_n hC dX8_isAbove_39 rfl 1 rfl ?_
        exact hR9.2.1 rfl _ _ _ _ dX8_isAbove_40 (bz_r _) ⟨_, rfl, by rw [show x = S 30 0 0 by omega], rfl⟩
      · refine kw_iload_n hC dX8_isAbove_12 rfl 1 rfl ?_
        refine kw_ifeq_b (tgt := 31) hC dX8_isAbove_13 rfl (by decide) ⟨fun c13 => ?_, fun c13 => ?_⟩
        · refine kw_iconst hC dX8_isAbove_31 rfl ?_
          refine kw_chi (z' := bz (∀ j, 0 ≤ j → j < x + 1 → 0 ≤ nl (S 55 0 j))) (by first | exact (bz_f (fun q => c13 (fun j j0 j1 => q j j0 (by omega)))).symm | exact (bz_f (fun q => by have := q x (by omega) (by omega); omega)).symm | exact (bz_t (ext_p (fun j z => 0 ≤ z) (f := fun j => nl (S 55 0 j)) c13 (fun _ _ => rfl) (by show 0 ≤ nl (S 55 0 x); omega))).symm) ?_
          refine kw_istore_n (lv' := [(1, _), (0, _), (2, _)]) hC dX8_isAbove_32 rfl (by decide) rfl ?_
          refine kw_iinc (lv' := [(2, _), (1, _), (0, _)]) hC dX8_isAbove_33 rfl 2 rfl (by decide) rfl ?_
          refine kw_goto (tgt := 4) hC dX8_isAbove_36 rfl (by decide) ?_
          refine kw_lv [2, 1, 0] rfl ?_
          exact ih4 (x + 1) (by omega) (by omega) (by omega)
        · refine kw_aload_n hC dX8_isAbove_16 rfl 0 rfl ?_
          refine kg_30_15 hC w8 f77 dX8_isAbove_17 rfl (by decide) (by decide) ?_
          refine kw_iload_n hC dX8_isAbove_20 rfl 2 rfl ?_
          refine ka_55 hC dX8_isAbove_21 rfl (by decide) (by decide) (by omega) (by omega) ?_
          refine kw_nrl ?_
          refine kw_lconst (z := 0) hC dX8_isAbove_22 rfl rfl ?_
          refine kw_lcmp hC dX8_isAbove_23 rfl (nl_r _) (by omega) ?_
          refine kw_if_lt (tgt := 31) hC dX8_isAbove_24 rfl (by decide) (cz_r _ _) ⟨fun c24 => ?_, fun c24 => ?_⟩
          · replace c24 := (cz_lt _ _).mp c24
            refine kw_iconst hC dX8_isAbove_31 rfl ?_
            refine kw_chi (z' := bz (∀ j, 0 ≤ j → j < x + 1 → 0 ≤ nl (S 55 0 j))) (by first | exact (bz_f (fun q => c13 (fun j j0 j1 => q j j0 (by omega)))).symm | exact (bz_f (fun q => by have := q x (by omega) (by omega); omega)).symm | exact (bz_t (ext_p (fun j z => 0 ≤ z) (f := fun j => nl (S 55 0 j)) c13 (fun _ _ => rfl) (by show 0 ≤ nl (S 55 0 x); omega))).symm) ?_
            refine kw_istore_n (lv' := [(1, _), (0, _), (2, _)]) hC dX8_isAbove_32 rfl (by decide) rfl ?_
            refine kw_iinc (lv' := [(2, _), (1, _), (0, _)]) hC dX8_isAbove_33 rfl 2 rfl (by decide) rfl ?_
            refine kw_goto (tgt := 4) hC dX8_isAbove_36 rfl (by decide) ?_
            refine kw_lv [2, 1, 0] rfl ?_
            exact ih4 (x + 1) (by omega) (by omega) (by omega)
          · replace c24 := (not_congr (cz_lt _ _)).mp c24
            refine kw_iconst hC dX8_isAbove_27 rfl ?_
            refine kw_goto (tgt := 32) hC dX8_isAbove_28 rfl (by decide) ?_
            refine kw_chi (z' := bz (∀ j, 0 ≤ j → j < x + 1 → 0 ≤ nl (S 55 0 j))) (by first | exact (bz_f (fun q => c13 (fun j j0 j1 => q j j0 (by omega)))).symm | exact (bz_f (fun q => by have := q x (by omega) (by omega); omega)).symm | exact (bz_t (ext_p (fun j z => 0 ≤ z) (f := fun j => nl (S 55 0 j)) c13 (fun _ _ => rfl) (by show 0 ≤ nl (S 55 0 x); omega))).symm) ?_
            refine kw_istore_n (lv' := [(1, _), (0, _), (2, _)]) hC dX8_isAbove_32 rfl (by decide) rfl ?_
            refine kw_iinc (lv' := [(2, _), (1, _), (0, _)]) hC dX8_isAbove_33 rfl 2 rfl (by decide) rfl ?_
            refine kw_goto (tgt := 4) hC dX8_isAbove_36 rfl (by decide) ?_
            refine kw_lv [2, 1, 0] rfl ?_
            exact ih4 (x + 1) (by omega) (by omega) (by omega)
  refine kw_lv [2, 1, 0] rfl ?_
  exact hL4 7 0 (by omega) (by omega) (by omega)

set_option maxHeartbeats 4000000 in
set_option maxRecDepth 100000 in
theorem d_X8_findWay {g : wG} (hD : wD g) {S : wSt} {a b : Int} (a0 : 0 ≤ a) (a1 : a < 8) (b0 : 0 ≤ b) (b1 : b < 8) (hRS : RI S) (l : Launch) : Kt l yX8_findWay wsX8_findWay ({ frames := 5, cells := 0, slots := 0, locals := 114 } : Room) g S [vr g 30 0, vi a, vi b] (pI (fun r S' => Fr fW S S' ∧ ((r = 0 ∨ r = -3 ∨ r = -4) ∧ (r = 0 → 0 ≤ S' 30 0 14 ∧ S' 30 0 14 ≤ 100 ∧ WV (S' 53 0) (S' 30 0 14) (S 30 0 0))))) := by
  refine Kt.of (cc := cX8_findWay) (nL := 3) (ret := (some .int)) (own := RX8) rfl hD (by decide) rfl (Nat.le_of_ble_eq_true rfl) ⟨rfl, rfl⟩ ?_
  intro E hC hR9
  have f43 : Cond.fieldLink RX8 43 "MirrorBenchModel" "lengths" "[I" ∈ wsX8_findWay := by decide +kernel
  have w8 : ∀ w ∈ wsX80, w ∈ wsX8_findWay := by decide +kernel
  show Wk E g 3 S 0 [(0, vr g 30 0), (1, vi a), (2, vi b)] []
  have hfS : Fr fW S S := Fr.rfl _ S
  have hRS := hRS.fr (hfS.mono (fun k i j h => by unfold fW at h; unfold tR; omega))
  have hnS := hRS.n
  have enS : S 30 0 0 = S 30 0 0 := hfS 30 0 0 (by unfold fW; omega)
  have hla := hRS.ln a a0 a1
  have hlb := hRS.ln b b0 b1
  refine kw_aload_n hC dX8_findWay_0 rfl 0 rfl ?_
  refine kg_30_6 hC w8 f43 dX8_findWay_1 rfl (by decide) (by decide) ?_
  refine kw_iload_n hC dX8_findWay_4 rfl 1 rfl ?_
  refine ka_46 hC dX8_findWay_5 rfl (by decide) (by decide) (by omega) (by omega) ?_
  refine kw_aload_n hC dX8_findWay_6 rfl 0 rfl ?_
  refine kg_30_6 hC w8 f43 dX8_findWay_7 rfl (by decide) (by decide) ?_
  refine kw_iload_n hC dX8_findWay_10 rfl 2 rfl ?_
  refine ka_46 hC dX8_findWay_11 rfl (by decide) (by decide) (by omega) (by omega) ?_
  refine kw_iadd hC dX8_findWay_12 rfl ?_
  refine kw_bipush hC dX8_findWay_13 rfl (by decide) ?_
  refine kw_icmp_le (tgt := 21) hC dX8_findWay_15 rfl (by decide) (by omega) (by omega) ⟨fun c15 => ?_, fun c15 => ?_⟩
  · refine kw_aload_n hC dX8_findWay_21 rfl 0 rfl ?_
    refine kw_iload_n hC dX8_findWay_22 rfl 1 rfl ?_
    refine kw_callV hC (d_X8_loadBack hD (by omega) (by omega) hRS) gX8_findWay_X8_loadBack ⟨_, rfl⟩ rfl (by decide) (by decide) rfl ⟨rfl, rfl⟩ 1 (by decide +kernel) ⟨by decide, by decide⟩ rfl rfl (Nat.le_of_ble_eq_true rfl) dX8_findWay_23 rfl (kd_v (fun S2 hp2 => ?_))
    obtain ⟨hg2, hp2⟩ := hp2
    have hfS2 : Fr fW S S2 := hfS.trans (hg2.mono (fun k i j h => by unfold fL at h; unfold fW; omega))
    have hRS2 := hRS.fr (hfS2.mono (fun k i j h => by unfold fW at h; unfold tR; omega))
    have hnS2 := hRS2.n
    have enS2 : S2 30 0 0 = S 30 0 0 := hfS2 30 0 0 (by unfold fW; omega)
    obtain ⟨q14, qW⟩ := hp2
    have hwv : WV (S2 53 0) (S2 30 0 14) (S2 30 0 0) := lbWV hRS (by omega) (by omega) q14 qW (by omega)
    refine kw_aload_n hC dX8_findWay_26 rfl 0 rfl ?_
    refine kw_iload_n hC dX8_findWay_27 rfl 2 rfl ?_
    refine kw_callV hC (d_X8_loadMore hD (by omega) (by omega) hRS2 (by omega) (by rw [hfS2 46 0 b (by unfold fW; omega)]; omega)) gX8_findWay_X8_loadMore ⟨_, rfl⟩ rfl (by decide) (by decide) rfl ⟨rfl, rfl⟩ 1 (by decide +kernel) ⟨by decide, by decide⟩ rfl rfl (Nat.le_of_ble_eq_true rfl) dX8_findWay_28 rfl (kd_v (fun S3 hp3 => ?_))
    obtain ⟨hg3, hp3⟩ := hp3
    have hfS3 : Fr fW S S3 := hfS2.trans (hg3.mono (fun k i j h => by unfold fL at h; unfold fW; omega))
    have hRS3 := hRS.fr (hfS3.mono (fun k i j h => by unfold fW at h; unfold tR; omega))
    have hnS3 := hRS3.n
    have enS3 : S3 30 0 0 = S 30 0 0 := hfS3 30 0 0 (by unfold fW; omega)
    obtain ⟨q15, qX, qY⟩ := hp3
    have hlb2 : S2 46 0 b = S 46 0 b := hfS2 46 0 b (by unfold fW; omega)
    have hwv : WV (S3 53 0) (S3 30 0 14) (S3 30 0 0) := lmWV hRS2 hwv (by omega) (by omega) q15 qX qY (by omega)
    refine kw_aload_n hC dX8_findWay_31 rfl 0 rfl ?_
    refine kw_callV hC (d_X8_formOfW hD hRS3 hwv (by omega) (by omega)) gX8_findWay_X8_formOfW ⟨_, rfl⟩ rfl (by decide) (by decide) rfl ⟨rfl, rfl⟩ 0 (by decide +kernel) ⟨by decide, by decide⟩ rfl rfl (Nat.le_of_ble_eq_true rfl) dX8_findWay_32 rfl (kd_i (fun r4 S4 hp4 => ?_))
    obtain ⟨hg4, hp4⟩ := hp4
    have hfS4 : Fr fW S S4 := hfS3.trans hg4
    have hRS4 := hRS.fr (hfS4.mono (fun k i j h => by unfold fW at h; unfold tR; omega))
    have hnS4 := hRS4.n
    have enS4 : S4 30 0 0 = S 30 0 0 := hfS4 30 0 0 (by unfold fW; omega)
    obtain ⟨hb4, ⟨w0, w1⟩, hwv, hgw⟩ := hp4
    replace hwv : WV (S4 53 0) (S4 30 0 14) (S4 30 0 0) := hwv.eq (fun _ _ _ => rfl) rfl (by omega)
    refine kw_if_eq (tgt := 42) hC dX8_findWay_35 rfl (by decide) (by omega) ⟨fun c35 => ?_, fun c35 => ?_⟩
    · refine kw_bipush hC dX8_findWay_42 rfl (by decide) ?_
      exact hR9.1 rfl _ _ _ _ dX8_findWay_44 ⟨_, rfl, hfS4, by omega, fun q => ⟨by omega, by omega, hwv.eq (fun _ _ _ => rfl) rfl (by omega)⟩⟩
    · refine kw_iconst hC dX8_findWay_38 rfl ?_
      refine kw_goto (tgt := 44) hC dX8_findWay_39 rfl (by decide) ?_
      exact hR9.1 rfl _ _ _ _ dX8_findWay_44 ⟨_, rfl, hfS4, by omega, fun q => ⟨by omega, by omega, hwv.eq (fun _ _ _ => rfl) rfl (by omega)⟩⟩
  · refine kw_bipush hC dX8_findWay_18 rfl (by decide) ?_
    exact hR9.1 rfl _ _ _ _ dX8_findWay_20 ⟨_, rfl, hfS, by omega, fun q => by omega⟩

set_option maxHeartbeats 4000000 in
set_option maxRecDepth 100000 in
theorem d_X8_way {g : wG} (hD : wD g) {S : wSt} {a b c : Int} (ha : -2147483648 ≤ a ∧ a ≤ 2147483647) (hb : -2147483648 ≤ b ∧ b ≤ 2147483647) (hc : -2147483648 ≤ c ∧ c ≤ 2147483647) (hRS : RI S) (l : Launch) : Kt l yX8_way wsX8_way ({ frames := 6, cells := 0, slots := 0, locals := 136 } : Room) g S [vr g 30 0, vi a, vi b, vi c] (pI (fun _ S' => RI S' ∧ Fr tW S S')) := by
  refine Kt.of (cc := cX8_way) (nL := 5) (ret := (some .int)) (own := RX8) rfl hD (by decide) rfl (Nat.le_of_ble_eq_true rfl) ⟨rfl, rfl⟩ ?_
  intro E hC hR9
  show Wk E g 5 S 0 [(0, vr g 30 0), (1, vi a), (2, vi b), (3, vi c)] []
  have hfS : Fr tR S S := Fr.rfl _ S
  have hRS := hRS.fr hfS
  have hnS := hRS.n
  have enS : S 30 0 0 = S 30 0 0 := hfS 30 0 0 (by unfold tR; omega)
  refine kw_iload_n hC dX8_way_0 rfl 1 rfl ?_
  refine kw_callS hC (d_X8_isSlot hD (by omega)) gX8_way_X8_isSlot rfl ⟨rfl, rfl⟩ 1 (by decide +kernel) ⟨by decide, by decide⟩ rfl rfl (Nat.le_of_ble_eq_true rfl) dX8_way_1 rfl (kd_ie ?_)
  refine kw_ifeq_b (tgt := 21) hC dX8_way_4 rfl (by decide) ⟨fun c4 => ?_, fun c4 => ?_⟩
  · refine kw_iconst hC dX8_way_21 rfl ?_
    exact hR9.1 rfl _ _ _ _ dX8_way_22 (by first | exact ⟨_, rfl, hp9.2.1, (tR_tW hfS).trans (fV_tW hp9.2.2.1)⟩ | exact ⟨_, rfl, hRS, tR_tW hfS⟩)
  · refine kw_iload_n hC dX8_way_7 rfl 2 rfl ?_
    refine kw_callS hC (d_X8_isSlot hD (by omega)) gX8_way_X8_isSlot rfl ⟨rfl, rfl⟩ 1 (by decide +kernel) ⟨by decide, by decide⟩ rfl rfl (Nat.le_of_ble_eq_true rfl) dX8_way_8 rfl (kd_ie ?_)
    refine kw_ifeq_b (tgt := 21) hC dX8_way_11 rfl (by decide) ⟨fun c11 => ?_, fun c11 => ?_⟩
    · refine kw_iconst hC dX8_way_21 rfl ?_
      exact hR9.1 rfl _ _ _ _ dX8_way_22 (by first | exact ⟨_, rfl, hp9.2.1, (tR_tW hfS).trans (fV_tW hp9.2.2.1)⟩ | exact ⟨_, rfl, hRS, tR_tW hfS⟩)
    · refine kw_iload_n hC dX8_way_14 rfl 3 rfl ?_
      refine kw_callS hC (d_X8_isSlot hD (by omega)) gX8_way_X8_isSlot rfl ⟨rfl, rfl⟩ 1 (by decide +kernel) ⟨by decide, by decide⟩ rfl rfl (Nat.le_of_ble_eq_true rfl) dX8_way_15 rfl (kd_ie ?_)
      refine kw_ifne_b (tgt := 23) hC dX8_way_18 rfl (by decide) ⟨fun c18 => ?_, fun c18 => ?_⟩
      · refine kw_aload_n hC dX8_way_23 rfl 0 rfl ?_
        refine kw_iload_n hC dX8_way_24 rfl 1 rfl ?_
        refine kw_iload_n hC dX8_way_25 rfl 2 rfl ?_
        refine kw_callV hC (d_X8_findWay hD (by omega) (by omega) (by omega) (by omega) hRS) gX8_way_X8_findWay ⟨_, rfl⟩ rfl (by decide) (by decide) rfl ⟨rfl, rfl⟩ 2 (by decide +kernel) ⟨by decide, by decide⟩ rfl rfl (Nat.le_of_ble_eq_true rfl) dX8_way_26 rfl (kd_i (fun r4 S4 hp4 => ?_))
        obtain ⟨hg4, hp4⟩ := hp4
        have hfS4 : Fr tR S S4 := hfS.trans (hg4.mono (fun k i j h => by unfold fW at h; unfold tR; omega))
        have hRS4 := hRS.fr hfS4
        have hnS4 := hRS4.n
        have enS4 : S4 30 0 0 = S 30 0 0 := hfS4 30 0 0 (by unfold tR; omega)
        obtain ⟨hb4, hok⟩ := hp4
        refine kw_istore (lv' := [(4, _), (0, _), (1, _), (2, _), (3, _)]) hC dX8_way_29 rfl (by decide) rfl ?_
        refine kw_iload hC dX8_way_31 rfl 0 rfl ?_
        refine kw_if_ge (tgt := 41) hC dX8_way_33 rfl (by decide) (by omega) ⟨fun c33 => ?_, fun c33 => ?_⟩
        · refine kw_aload_n hC dX8_way_41 rfl 1 rfl ?_
          refine kw_iload_n hC dX8_way_42 rfl 4 rfl ?_
          refine kw_callV hC (d_X8_store hD (by omega) (by omega) hRS4 ((hok (by omega)).2.2.eq (fun _ _ _ => rfl) rfl (by omega)) (hok (by omega)).1 (hok (by omega)).2.1) gX8_way_X8_store ⟨_, rfl⟩ rfl (by decide) (by decide) rfl ⟨rfl, rfl⟩ 1 (by decide +kernel) ⟨by decide, by decide⟩ rfl rfl (Nat.le_of_ble_eq_true rfl) dX8_way_43 rfl (kd_i (fun r9 Sz hp9 => ?_))
          exact hR9.1 rfl _ _ _ _ dX8_way_46 (by first | exact ⟨_, rfl, hp9.2.1, (tR_tW hfS4).trans (fV_tW hp9.2.2.1)⟩ | exact ⟨_, rfl, hRS4, tR_tW hfS4⟩)
        · refine kw_iload hC dX8_way_36 rfl 0 rfl ?_
          refine kw_goto (tgt := 46) hC dX8_way_38 rfl (by decide) ?_
          exact hR9.1 rfl _ _ _ _ dX8_way_46 (by first | exact ⟨_, rfl, hp9.2.1, (tR_tW hfS4).trans (fV_tW hp9.2.2.1)⟩ | exact ⟨_, rfl, hRS4, tR_tW hfS4⟩)
      · refine kw_iconst hC dX8_way_21 rfl ?_
        exact hR9.1 rfl _ _ _ _ dX8_way_22 (by first | exact ⟨_, rfl, hp9.2.1, (tR_tW hfS).trans (fV_tW hp9.2.2.1)⟩ | exact ⟨_, rfl, hRS, tR_tW hfS⟩)

set_option maxHeartbeats 4000000 in
set_option maxRecDepth 100000 in
theorem d_X8_wall {g : wG} (hD : wD g) {S : wSt} {a b c d : Int} (ha : -2147483648 ≤ a ∧ a ≤ 2147483647) (hb : -2147483648 ≤ b ∧ b ≤ 2147483647) (hc : -2147483648 ≤ c ∧ c ≤ 2147483647) (hd : -2147483648 ≤ d ∧ d ≤ 2147483647) (hRS : RI S) (l : Launch) : Kt l yX8_wall wsX8_wall ({ frames := 6, cells := 0, slots := 0, locals := 136 } : Room) g S [vr g 30 0, vi a, vi b, vi c, vi d] (pL (fun _ S' => RI S' ∧ Fr tW S S')) := by
  refine Kt.of (cc := cX8_wall) (nL := 8) (ret := (some .long)) (own := RX8) rfl hD (by decide) rfl (Nat.le_of_ble_eq_true rfl) ⟨rfl, rfl⟩ ?_
  intro E hC hR9
  have f57 : Cond.fieldLink RX8 57 "MirrorBenchModel" "wMany" "I" ∈ wsX8_wall := by decide +kernel
  have f60 : Cond.fieldLink RX8 60 "MirrorBenchModel" "w" "[I" ∈ wsX8_wall := by decide +kernel
  have f77 : Cond.fieldLink RX8 77 "MirrorBenchModel" "root" "[J" ∈ wsX8_wall := by decide +kernel
  have f81 : Cond.fieldLink RX8 81 "MirrorBenchModel" "isGreat" "Z" ∈ wsX8_wall := by decide +kernel
  have f129 : Cond.fieldLink RX8 129 "MirrorBenchModel" "v" "[I" ∈ wsX8_wall := by decide +kernel
  have l141 : Cond.constantLong RX8 141 (Int64.ofInt (-10000000000001)) ∈ wsX8_wall := by decide +kernel
  have l146 : Cond.constantLong RX8 146 (Int64.ofInt (-10000000000004)) ∈ wsX8_wall := by decide +kernel
  have w8 : ∀ w ∈ wsX80, w ∈ wsX8_wall := by decide +kernel
  show Wk E g 8 S 0 [(0, vr g 30 0), (1, vi a), (2, vi b), (3, vi c), (4, vi d)] []
  have hfS : Fr tR S S := Fr.rfl _ S
  have hRS := hRS.fr hfS
  have hnS := hRS.n
  have enS : S 30 0 0 = S 30 0 0 := hfS 30 0 0 (by unfold tR; omega)
  refine kw_iload_n hC dX8_wall_0 rfl 1 rfl ?_
  refine kw_callS hC (d_X8_isSlot hD (by omega)) gX8_wall_X8_isSlot rfl ⟨rfl, rfl⟩ 1 (by decide +kernel) ⟨by decide, by decide⟩ rfl rfl (Nat.le_of_ble_eq_true rfl) dX8_wall_1 rfl (kd_ie ?_)
  refine kw_ifeq_b (tgt := 24) hC dX8_wall_4 rfl (by decide) ⟨fun c4 => ?_, fun c4 => ?_⟩
  · refine kw_ldc2 (z := -10000000000001) hC dX8_wall_24 rfl l141 ?_
    exact hR9.2.2.1 rfl _ _ _ _ dX8_wall_27 (by first | exact ⟨_, rfl, hp9.2.1, (tR_tW hfS).trans (fV_tW hp9.2.2.1)⟩ | exact ⟨_, rfl, hRS, tR_tW hfS⟩)
  · refine kw_iload_n hC dX8_wall_7 rfl 2 rfl ?_
    refine kw_callS hC (d_X8_isSlot hD (by omega)) gX8_wall_X8_isSlot rfl ⟨rfl, rfl⟩ 1 (by decide +kernel) ⟨by decide, by decide⟩ rfl rfl (Nat.le_of_ble_eq_true rfl) dX8_wall_8 rfl (kd_ie ?_)
    refine kw_ifeq_b (tgt := 24) hC dX8_wall_11 rfl (by decide) ⟨fun c11 => ?_, fun c11 => ?_⟩
    · refine kw_ldc2 (z := -10000000000001) hC dX8_wall_24 rfl l141 ?_
      exact hR9.2.2.1 rfl _ _ _ _ dX8_wall_27 (by first | exact ⟨_, rfl, hp9.2.1, (tR_tW hfS).trans (fV_tW hp9.2.2.1)⟩ | exact ⟨_, rfl, hRS, tR_tW hfS⟩)
    · refine kw_aload_n hC dX8_wall_14 rfl 0 rfl ?_
      refine kw_iload hC dX8_wall_15 rfl 4 rfl ?_
      refine kw_i2l hC dX8_wall_17 rfl (by omega) ?_
      refine kw_callV hC (d_X8_isMirror hD (by omega) (by omega) (by omega)) gX8_wall_X8_isMirror ⟨_, rfl⟩ rfl (by decide) (by decide) rfl ⟨rfl, rfl⟩ 1 (by decide +kernel) ⟨by decide, by decide⟩ rfl rfl (Nat.le_of_ble_eq_true rfl) dX8_wall_18 rfl (kd_ie ?_)
      refine kw_ifne_b (tgt := 28) hC dX8_wall_21 rfl (by decide) ⟨fun c21 => ?_, fun c21 => ?_⟩
      · refine kw_aload_n hC dX8_wall_28 rfl 0 rfl ?_
        refine kw_iload_n hC dX8_wall_29 rfl 1 rfl ?_
        refine kw_iload_n hC dX8_wall_30 rfl 2 rfl ?_
        refine kw_callV hC (d_X8_findWay hD (by omega) (by omega) (by omega) (by omega) hRS) gX8_wall_X8_findWay ⟨_, rfl⟩ rfl (by decide) (by decide) rfl ⟨rfl, rfl⟩ 2 (by decide +kernel) ⟨by decide, by decide⟩ rfl rfl (Nat.le_of_ble_eq_true rfl) dX8_wall_31 rfl (kd_i (fun r4 S4 hp4 => ?_))
        obtain ⟨hg4, hp4⟩ := hp4
        have hfS4 : Fr tR S S4 := hfS.trans (hg4.mono (fun k i j h => by unfold fW at h; unfold tR; omega))
        have hRS4 := hRS.fr hfS4
        have hnS4 := hRS4.n
        have enS4 : S4 30 0 0 = S 30 0 0 := hfS4 30 0 0 (by unfold tR; omega)
        obtain ⟨hb4, hok⟩ := hp4
        obtain ⟨rZ, hrZ⟩ : ∃ z, z = r4 := ⟨_, rfl⟩
        rw [← hrZ]
        refine kw_istore (lv' := [(5, _), (0, _), (1, _), (2, _), (3, _), (4, _)]) hC dX8_wall_34 rfl (by decide) rfl ?_
        refine kw_iload hC dX8_wall_36 rfl 0 rfl ?_
        refine kw_bipush hC dX8_wall_38 rfl (by decide) ?_
        refine kw_icmp_ne (tgt := 47) hC dX8_wall_40 rfl (by decide) (by omega) (by omega) ⟨fun c40 => ?_, fun c40 => ?_⟩
        · refine kw_iload hC dX8_wall_47 rfl 0 rfl ?_
          refine kw_bipush hC dX8_wall_49 rfl (by decide) ?_
          refine kw_icmp_eq (tgt := 70) hC dX8_wall_51 rfl (by decide) (by omega) (by omega) ⟨fun c51 => ?_, fun c51 => ?_⟩
          · refine kw_ldc2 (z := -10000000000001) hC dX8_wall_70 rfl l141 ?_
            exact hR9.2.2.1 rfl _ _ _ _ dX8_wall_73 (by first | exact ⟨_, rfl, hp9.2.1, (tR_tW hfS4).trans (fV_tW hp9.2.2.1)⟩ | exact ⟨_, rfl, hRS4, tR_tW hfS4⟩)
          · obtain ⟨w0, w1, hwv⟩ := hok (by omega)
            replace hwv : WV (S4 53 0) (S4 30 0 14) (S4 30 0 0) := hwv.eq (fun _ _ _ => rfl) rfl (by omega)
            refine kw_iload_n hC dX8_wall_54 rfl 4 rfl ?_
            refine kw_i2l hC dX8_wall_55 rfl (by omega) ?_
            refine kw_lconst (z := 0) hC dX8_wall_56 rfl rfl ?_
            refine kw_aload_n hC dX8_wall_57 rfl 1 rfl ?_
            refine kg_30_14 hC w8 f57 dX8_wall_58 rfl (by decide) (by decide) ?_
            refine kw_iconst hC dX8_wall_61 rfl ?_
            refine kw_isub hC dX8_wall_62 rfl ?_
            refine kw_i2l hC dX8_wall_63 rfl (by omega) ?_
            refine kw_callS hC (d_X8_in hD (by omega) (by omega) (by omega)) gX8_wall_X8_in rfl ⟨rfl, rfl⟩ 3 (by decide +kernel) ⟨by decide, by decide⟩ rfl rfl (Nat.le_of_ble_eq_true rfl) dX8_wall_64 rfl (kd_ie ?_)
            refine kw_ifne_b (tgt := 74) hC dX8_wall_67 rfl (by decide) ⟨fun c67 => ?_, fun c67 => ?_⟩
            · refine kw_iconst hC dX8_wall_74 rfl ?_
              refine kw_istore (lv' := [(6, _), (5, _), (0, _), (1, _), (2, _), (3, _), (4, _)]) hC dX8_wall_75 rfl (by decide) rfl ?_
              have hL77 : ∀ (n77 : Nat) (x : Int) (W77 : wSt), Fr tR S W77 → (0 ≤ x) → (x ≤ c) → (c < W77 30 0 14) → (WV (W77 51 0) x (W77 30 0 0)) → (WV (W77 53 0) (W77 30 0 14) (W77 30 0 0)) → (0 ≤ W77 30 0 14) → (W77 30 0 14 ≤ 100) → c - x < (n77 : Int) → Wk E g 8 W77 77 [(0, vr g 30 0), (1, vi a), (2, vi b), (3, vi c), (4, vi d), (5, vi rZ), (6, vi x)] [] := by
                intro n77
                induction n77 with
                | zero => intro x W77 hfW77 x0 x1 hc hvv hwv w0 w1 hm77; exact absurd hm77 (by omega)
                | succ n77 ih77 =>
                  intro x W77 hfW77 x0 x1 hc hvv hwv w0 w1 hm77
                  have hRW77 := hRS.fr hfW77
                  have hnW77 := hRW77.n
                  have enW77 : W77 30 0 0 = S 30 0 0 := hfW77 30 0 0 (by unfold tR; omega)
                  refine kw_iload hC dX8_wall_77 rfl 6 rfl ?_
                  refine kw_iload_n hC dX8_wall_79 rfl 3 rfl ?_
                  refine kw_icmp_ge (tgt := 103) hC dX8_wall_80 rfl (by decide) (by omega) (by omega) ⟨fun c80 => ?_, fun c80 => ?_⟩
                  · have hwc := hwv c (by omega) (by omega)
                    refine kw_aload_n hC dX8_wall_103 rfl 0 rfl ?_
                    refine kg_30_13 hC w8 f60 dX8_wall_104 rfl (by decide) (by decide) ?_
                    refine kw_iload_n hC dX8_wall_107 rfl 3 rfl ?_
                    refine ka_53 hC dX8_wall_108 rfl (by decide) (by decide) (by omega) (by omega) ?_
                    refine kw_istore (lv' := [(6, _), (0, _), (1, _), (2, _), (3, _), (4, _), (5, _)]) hC dX8_wall_109 rfl (by decide) rfl ?_
                    refine kw_aload_n hC dX8_wall_111 rfl 1 rfl ?_
                    refine kw_iload_n hC dX8_wall_112 rfl 2 rfl ?_
                    refine kw_callV hC (d_X8_load hD (by omega) (by omega) hRW77) gX8_wall_X8_load ⟨_, rfl⟩ rfl (by decide) (by decide) rfl ⟨rfl, rfl⟩ 1 (by decide +kernel) ⟨by decide, by decide⟩ rfl rfl (Nat.le_of_ble_eq_true rfl) dX8_wall_113 rfl (kd_v (fun S9 hp9 => ?_))
                    obtain ⟨hg9, hp9⟩ := hp9
                    have hfS9 : Fr tR S S9 := hfW77.trans (hg9.mono (fun k i j h => by unfold fL at h; unfold tR; omega))
                    have hRS9 := hRS.fr hfS9
                    have hnS9 := hRS9.n
                    have enS9 : S9 30 0 0 = S 30 0 0 := hfS9 30 0 0 (by unfold tR; omega)
                    obtain ⟨q14, qW⟩ := hp9
                    have hwv : WV (S9 53 0) (S9 30 0 14) (S9 30 0 0) := ldWV hRW77 (by omega) (by omega) q14 qW (by omega)
                    have hl9 := hRW77.ln a (by omega) (by omega)
                    replace hvv : WV (S9 51 0) x (S9 30 0 0) := hvv.eq (fun j _ _ => hg9 51 0 j (by unfold fL; omega)) rfl (hg9 30 0 0 (by unfold fL; omega))
                    refine kw_iconst hC dX8_wall_116 rfl ?_
                    refine kw_istore (lv' := [(7, _), (6, _), (0, _), (1, _), (2, _), (3, _), (4, _), (5, _)]) hC dX8_wall_117 rfl (by decide) rfl ?_
                    have hL119 : ∀ (n119 : Nat) (y : Int) (W119 : wSt), Fr tR S W119 → (0 ≤ y) → (y ≤ c) → (W119 30 0 14 ≤ 100 + y) → (WV (W119 51 0) x (W119 30 0 0)) → (WV (W119 53 0) (W119 30 0 14) (W119 30 0 0)) → (0 ≤ W119 30 0 14) → c - y < (n119 : Int) → Wk E g 8 W119 119 [(0, vr g 30 0), (1, vi a), (2, vi b), (3, vi c), (4, vi d), (5, vi rZ), (6, vi (W77 53 0 c)), (7, vi y)] [] := by
                      intro n119
                      induction n119 with
                      | zero => intro y W119 hfW119 y0 y1 q14 hvv hwv w0 hm119; exact absurd hm119 (by omega)
                      | succ n119 ih119 =>
                        intro y W119 hfW119 y0 y1 q14 hvv hwv w0 hm119
                        have hRW119 := hRS.fr hfW119
                        have hnW119 := hRW119.n
                        have enW119 : W119 30 0 0 = S 30 0 0 := hfW119 30 0 0 (by unfold tR; omega)
                        refine kw_iload hC dX8_wall_119 rfl 7 rfl ?_
                        refine kw_iload_n hC dX8_wall_121 rfl 3 rfl ?_
                        refine kw_icmp_ge (tgt := 157) hC dX8_wall_122 rfl (by decide) (by omega) (by omega) ⟨fun c122 => ?_, fun c122 => ?_⟩
                        · refine kw_aload_n hC dX8_wall_157 rfl 0 rfl ?_
                          refine kw_iconst hC dX8_wall_158 rfl ?_
                          refine kp_30_16 hC w8 f81 dX8_wall_159 rfl (by decide) (by decide) (by omega) ?_
                          refine kw_hv hfW119 (by unfold tR; omega) (fun S11 hfS11 hv11 ho11 => ?_)
                          have hRS11 := hRS.fr hfS11
                          have hnS11 := hRS11.n
                          have enS11 : S11 30 0 0 = S 30 0 0 := hfS11 30 0 0 (by unfold tR; omega)
                          have e14_11 : S11 30 0 14 = W119 30 0 14 := ho11 30 0 14 (by omega)
                          replace hwv : WV (S11 53 0) (S11 30 0 14) (S11 30 0 0) := hwv.eq (fun j _ _ => ho11 53 0 j (by omega)) e14_11 (ho11 30 0 0 (by omega))
                          have hgw : S11 30 0 16 = 0 ∨ S11 30 0 16 = 1 := Or.inl hv11
                          refine kw_aload_n hC dX8_wall_162 rfl 0 rfl ?_
                          refine kw_iload hC dX8_wall_163 rfl 6 rfl ?_
                          refine kw_callV hC (d_X8_own hD (by omega)) gX8_wall_X8_own ⟨_, rfl⟩ rfl (by decide) (by decide) rfl ⟨rfl, rfl⟩ 1 (by decide +kernel) ⟨by decide, by decide⟩ rfl rfl (Nat.le_of_ble_eq_true rfl) dX8_wall_165 rfl (kd_v (fun S12 hp12 => ?_))
                          obtain ⟨hg12, hp12⟩ := hp12
                          have hfS12 : Fr tR S S12 := hfS11.trans (hg12.mono (fun k i j h => by unfold fO at h; unfold tR; omega))
                          have hRS12 := hRS.fr hfS12
                          have hnS12 := hRS12.n
                          have enS12 : S12 30 0 0 = S 30 0 0 := hfS12 30 0 0 (by unfold tR; omega)
                          have e14_12 : S12 30 0 14 = S11 30 0 14 := hg12 30 0 14 (by unfold fO; omega)
                          replace hwv : WV (S12 53 0) (S12 30 0 14) (S12 30 0 0) := hwv.eq (fun j _ _ => hg12 53 0 j (by unfold fO; omega)) e14_12 (hg12 30 0 0 (by unfold fO; omega))
                          have e1612 : S12 30 0 16 = S11 30 0 16 := hg12 30 0 16 (by unfold fO; omega)
                          refine kw_aload_n hC dX8_wall_168 rfl 0 rfl ?_
                          refine kw_callV hC (d_X8_doneBy hD hRS12 hwv (by omega) (by omega) (by omega)) gX8_wall_X8_doneBy ⟨_, rfl⟩ rfl (by decide) (by decide) rfl ⟨rfl, rfl⟩ 0 (by decide +kernel) ⟨by decide, by decide⟩ rfl rfl (Nat.le_of_ble_eq_true rfl) dX8_wall_169 rfl (kd_i (fun r13 S13 hp13 => ?_))
                          obtain ⟨hg13, hp13⟩ := hp13
                          have hfS13 : Fr tR S S13 := hfS12.trans (hg13.mono (fun k i j h => by unfold fT at h; unfold tR; omega))
                          have hRS13 := hRS.fr hfS13
                          have hnS13 := hRS13.n
                          have enS13 : S13 30 0 0 = S 30 0 0 := hfS13 30 0 0 (by unfold tR; omega)
                          obtain ⟨hb13, hgw⟩ := hp13
                          have e14_13 : S13 30 0 14 = S12 30 0 14 := hg13 30 0 14 (by unfold fT; omega)
                          replace hwv : WV (S13 53 0) (S13 30 0 14) (S13 30 0 0) := hwv.eq (fun j _ _ => hg13 53 0 j (by unfold fT; omega)) e14_13 (hg13 30 0 0 (by unfold fT; omega))
                          refine kw_if_ne (tgt := 179) hC dX8_wall_172 rfl (by decide) (by omega) ⟨fun c172 => ?_, fun c172 => ?_⟩
                          · refine kw_aload_n hC dX8_wall_179 rfl 0 rfl ?_
                            refine kw_callV hC (d_X8_isAbove hD (by omega) (by omega)) gX8_wall_X8_isAbove ⟨_, rfl⟩ rfl (by decide) (by decide) rfl ⟨rfl, rfl⟩ 0 (by decide +kernel) ⟨by decide, by decide⟩ rfl rfl (Nat.le_of_ble_eq_true rfl) dX8_wall_180 rfl (kd_ie ?_)
                            refine kw_ifeq_b (tgt := 196) hC dX8_wall_183 rfl (by decide) ⟨fun c183 => ?_, fun c183 => ?_⟩
                            · refine kw_lconst (z := 0) hC dX8_wall_196 rfl rfl ?_
                              refine kw_aload_n hC dX8_wall_197 rfl 0 rfl ?_
                              refine kg_30_15 hC w8 f77 dX8_wall_198 rfl (by decide) (by decide) ?_
                              refine kw_iload hC dX8_wall_201 rfl 4 rfl ?_
                              refine ka_55 hC dX8_wall_203 rfl (by decide) (by decide) (by omega) (by omega) ?_
                              refine kw_lsub hC dX8_wall_204 rfl ?_
                              exact hR9.2.2.1 rfl _ _ _ _ dX8_wall_205 (by first | exact ⟨_, rfl, hp9.2.1, (tR_tW hfS13).trans (fV_tW hp9.2.2.1)⟩ | exact ⟨_, rfl, hRS13, tR_tW hfS13⟩)
                            · refine kw_aload_n hC dX8_wall_186 rfl 0 rfl ?_
                              refine kg_30_15 hC w8 f77 dX8_wall_187 rfl (by decide) (by decide) ?_
                              refine kw_iload hC dX8_wall_190 rfl 4 rfl ?_
                              refine ka_55 hC dX8_wall_192 rfl (by decide) (by decide) (by omega) (by omega) ?_
                              refine kw_goto (tgt := 205) hC dX8_wall_193 rfl (by decide) ?_
                              exact hR9.2.2.1 rfl _ _ _ _ dX8_wall_205 (by first | exact ⟨_, rfl, hp9.2.1, (tR_tW hfS13).trans (fV_tW hp9.2.2.1)⟩ | exact ⟨_, rfl, hRS13, tR_tW hfS13⟩)
                          · refine kw_ldc2 (z := -10000000000004) hC dX8_wall_175 rfl l146 ?_
                            exact hR9.2.2.1 rfl _ _ _ _ dX8_wall_178 (by first | exact ⟨_, rfl, hp9.2.1, (tR_tW hfS13).trans (fV_tW hp9.2.2.1)⟩ | exact ⟨_, rfl, hRS13, tR_tW hfS13⟩)
                        · refine kw_aload_n hC dX8_wall_125 rfl 0 rfl ?_
                          refine kg_30_13 hC w8 f60 dX8_wall_126 rfl (by decide) (by decide) ?_
                          refine kw_aload_n hC dX8_wall_129 rfl 0 rfl ?_
                          refine kg_30_14 hC w8 f57 dX8_wall_130 rfl (by decide) (by decide) ?_
                          refine kw_aload_n hC dX8_wall_133 rfl 0 rfl ?_
                          refine kg_30_11 hC w8 f129 dX8_wall_134 rfl (by decide) (by decide) ?_
                          refine kw_iload hC dX8_wall_137 rfl 7 rfl ?_
                          refine ka_51 hC dX8_wall_139 rfl (by decide) (by decide) (by omega) (by omega) ?_
                          have hvy := hvv y (by omega) (by omega)
                          refine ks_53 hC dX8_wall_140 rfl (by decide) (by decide) (by omega) (by omega) ?_
                          refine kw_hv hfW119 (by unfold tR; omega) (fun S16 hfS16 hv16 ho16 => ?_)
                          have hRS16 := hRS.fr hfS16
                          have hnS16 := hRS16.n
                          have enS16 : S16 30 0 0 = S 30 0 0 := hfS16 30 0 0 (by unfold tR; omega)
                          have hw8 : WV (S16 53 0) (W119 30 0 14 + 1) (S16 30 0 0) := (hwv.add (fun j hj => ho16 53 0 j (by omega)) (by rw [hv16]; exact hvy)).eq (fun _ _ _ => rfl) rfl (ho16 30 0 0 (by omega))
                          replace hvv : WV (S16 51 0) x (S16 30 0 0) := hvv.eq (fun j _ _ => ho16 51 0 j (by omega)) rfl (ho16 30 0 0 (by omega))
                          have e1416 : S16 30 0 14 = W119 30 0 14 := ho16 30 0 14 (by omega)
                          refine kw_aload_n hC dX8_wall_141 rfl 0 rfl ?_
                          refine kw_dup hC dX8_wall_142 rfl rfl ?_
                          refine kg_30_14 hC w8 f57 dX8_wall_143 rfl (by decide) (by decide) ?_
                          refine kw_iconst hC dX8_wall_146 rfl ?_
                          refine kw_iadd hC dX8_wall_147 rfl ?_
                          refine kp_30_14 hC w8 f57 dX8_wall_148 rfl (by decide) (by decide) ?_
                          refine kw_hv hfS16 (by unfold tR; omega) (fun S17 hfS17 hv17 ho17 => ?_)
                          have hRS17 := hRS.fr hfS17
                          have hnS17 := hRS17.n
                          have enS17 : S17 30 0 0 = S 30 0 0 := hfS17 30 0 0 (by unfold tR; omega)
                          have hwv : WV (S17 53 0) (S17 30 0 14) (S17 30 0 0) := hw8.eq (fun j _ _ => ho17 53 0 j (by omega)) (by have := hv17; omega) (ho17 30 0 0 (by omega))
                          replace hvv : WV (S17 51 0) x (S17 30 0 0) := hvv.eq (fun j _ _ => ho17 51 0 j (by omega)) rfl (ho17 30 0 0 (by omega))
                          have x14 := hv17
                          refine kw_iinc (lv' := [(7, _), (0, _), (1, _), (2, _), (3, _), (4, _), (5, _), (6, _)]) hC dX8_wall_151 rfl 7 rfl (by decide) rfl ?_
                          refine kw_goto (tgt := 119) hC dX8_wall_154 rfl (by decide) ?_
                          refine kw_lv [1, 2, 3, 4, 5, 6, 7, 0] rfl ?_
                          exact ih119 (y + 1) S17 hfS17 (by omega) (by omega) (by omega) hvv hwv (by omega) (by omega)
                    refine kw_lv [2, 3, 4, 5, 6, 7, 1, 0] rfl ?_
                    exact hL119 101 0 S9 hfS9 (by omega) (by omega) (by omega) hvv hwv (by omega) (by omega)
                  · refine kw_aload_n hC dX8_wall_83 rfl 0 rfl ?_
                    refine kg_30_11 hC w8 f129 dX8_wall_84 rfl (by decide) (by decide) ?_
                    refine kw_iload hC dX8_wall_87 rfl 6 rfl ?_
                    refine kw_aload_n hC dX8_wall_89 rfl 0 rfl ?_
                    refine kg_30_13 hC w8 f60 dX8_wall_90 rfl (by decide) (by decide) ?_
                    refine kw_iload hC dX8_wall_93 rfl 6 rfl ?_
                    refine ka_53 hC dX8_wall_95 rfl (by decide) (by decide) (by omega) (by omega) ?_
                    have hwx := hwv x (by omega) (by omega)
                    refine ks_51 hC dX8_wall_96 rfl (by decide) (by decide) (by omega) (by omega) ?_
                    refine kw_hv hfW77 (by unfold tR; omega) (fun S18 hfS18 hv18 ho18 => ?_)
                    have hRS18 := hRS.fr hfS18
                    have hnS18 := hRS18.n
                    have enS18 : S18 30 0 0 = S 30 0 0 := hfS18 30 0 0 (by unfold tR; omega)
                    have e14_18 : S18 30 0 14 = W77 30 0 14 := ho18 30 0 14 (by omega)
                    replace hwv : WV (S18 53 0) (S18 30 0 14) (S18 30 0 0) := hwv.eq (fun j _ _ => ho18 53 0 j (by omega)) e14_18 (ho18 30 0 0 (by omega))
                    have hv2 : WV (S18 51 0) (x + 1) (S18 30 0 0) := (hvv.add (fun j hj => ho18 51 0 j (by omega)) (by rw [hv18]; exact hwx)).eq (fun _ _ _ => rfl) rfl (ho18 30 0 0 (by omega))
                    refine kw_iinc (lv' := [(6, _), (0, _), (1, _), (2, _), (3, _), (4, _), (5, _)]) hC dX8_wall_97 rfl 6 rfl (by decide) rfl ?_
                    refine kw_goto (tgt := 77) hC dX8_wall_100 rfl (by decide) ?_
                    refine kw_lv [1, 2, 3, 4, 5, 6, 0] rfl ?_
                    exact ih77 (x + 1) S18 hfS18 (by omega) (by omega) (by omega) hv2 hwv (by omega) (by omega) (by omega)
              refine kw_lv [2, 3, 4, 5, 6, 1, 0] rfl ?_
              exact hL77 101 0 S4 hfS4 (by omega) (by omega) (by omega) (fun j _ _ => by omega) hwv (by omega) (by omega) (by omega)
            · refine kw_ldc2 (z := -10000000000001) hC dX8_wall_70 rfl l141 ?_
              exact hR9.2.2.1 rfl _ _ _ _ dX8_wall_73 (by first | exact ⟨_, rfl, hp9.2.1, (tR_tW hfS4).trans (fV_tW hp9.2.2.1)⟩ | exact ⟨_, rfl, hRS4, tR_tW hfS4⟩)
        · refine kw_ldc2 (z := -10000000000004) hC dX8_wall_43 rfl l146 ?_
          exact hR9.2.2.1 rfl _ _ _ _ dX8_wall_46 (by first | exact ⟨_, rfl, hp9.2.1, (tR_tW hfS4).trans (fV_tW hp9.2.2.1)⟩ | exact ⟨_, rfl, hRS4, tR_tW hfS4⟩)
      · refine kw_ldc2 (z := -10000000000001) hC dX8_wall_24 rfl l141 ?_
        exact hR9.2.2.1 rfl _ _ _ _ dX8_wall_27 (by first | exact ⟨_, rfl, hp9.2.1, (tR_tW hfS).trans (fV_tW hp9.2.2.1)⟩ | exact ⟨_, rfl, hRS, tR_tW hfS⟩)
