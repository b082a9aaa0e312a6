set_option maxHeartbeats 4000000 in
set_option maxRecDepth 100000 in
theorem d_X7_forms {g : wG} (hD : wD g) {S : wSt} {a : Int} (ha : -2147483648 ≤ a ∧ a ≤ 2147483647) (hRS : CI S) (l : Launch) : Kt l yX7_forms wsX7_forms ({ frames := 5, cells := 0, slots := 0, locals := 119 } : Room) g S [vr g 0 0, vi a] (pI (fun _ S' => CI S' ∧ Fr tX S S')) := by
  refine Kt.of (cc := cX7_forms) (nL := 2) (ret := (some .int)) (own := RX7) rfl hD (by decide) rfl (Nat.le_of_ble_eq_true rfl) ⟨rfl, rfl⟩ ?_
  intro E hC hR9
  have f54 : Cond.fieldLink RX7 54 "MirrorBench" "formList" "LMirrorBench$FormList;" ∈ wsX7_forms := by decide +kernel
  have w7 : ∀ w ∈ wsX70, w ∈ wsX7_forms := by decide +kernel
  show Wk E g 2 S 0 [(0, vr g 0 0), (1, vi a)] []
  have hfS : Fr fFm S S := Fr.rfl _ S
  refine kw_iload_n hC dX7_forms_0 rfl 1 rfl ?_
  refine kw_if_lt (tgt := 10) hC dX7_forms_1 rfl (by decide) (by omega) ⟨fun c1 => ?_, fun c1 => ?_⟩
  · refine kw_iconst hC dX7_forms_10 rfl ?_
    exact hR9.1 rfl _ _ _ _ dX7_forms_11 (by first | exact ⟨_, rfl, hRS, Fr.rfl _ S⟩ | exact ⟨_, rfl, hRS.fm hfS hF9, fFm_tX hfS⟩)
  · refine kw_iload_n hC dX7_forms_4 rfl 1 rfl ?_
    refine kw_bipush hC dX7_forms_5 rfl (by decide) ?_
    refine kw_icmp_le (tgt := 12) hC dX7_forms_7 rfl (by decide) (by omega) (by omega) ⟨fun c7 => ?_, fun c7 => ?_⟩
    · refine kw_aload_n hC dX7_forms_12 rfl 0 rfl ?_
      refine kg_0_6 hC w7 f54 dX7_forms_13 rfl (by decide) (by decide) ?_
      refine kw_iload_n hC dX7_forms_16 rfl 1 rfl ?_
      refine kw_callV hC (d_X0_reaches hD hRS (by omega) (by omega)) gX7_forms_X0_reaches ⟨_, rfl⟩ rfl (by decide) (by decide) rfl ⟨rfl, rfl⟩ 1 (by decide +kernel) ⟨by decide, by decide⟩ rfl rfl (Nat.le_of_ble_eq_true rfl) dX7_forms_17 rfl (kd_i (fun r3 S3 hp3 => ?_))
      obtain ⟨hg3, hp3⟩ := hp3
      have hfS3 : Fr fFm S S3 := hfS.trans hg3
      obtain ⟨hF9, hb3, hr9⟩ := hp3
      refine kw_if_eq (tgt := 34) hC dX7_forms_20 rfl (by decide) (by omega) ⟨fun c20 => ?_, fun c20 => ?_⟩
      · refine kw_bipush hC dX7_forms_34 rfl (by decide) ?_
        exact hR9.1 rfl _ _ _ _ dX7_forms_36 (by first | exact ⟨_, rfl, hRS, Fr.rfl _ S⟩ | exact ⟨_, rfl, hRS.fm hfS3 hF9, fFm_tX hfS3⟩)
      · refine kw_aload_n hC dX7_forms_23 rfl 0 rfl ?_
        refine kg_0_6 hC w7 f54 dX7_forms_24 rfl (by decide) (by decide) ?_
        refine kw_iload_n hC dX7_forms_27 rfl 1 rfl ?_
        refine kw_callV hC (d_X0_ofLength hD (by omega) (by omega)) gX7_forms_X0_ofLength ⟨_, rfl⟩ rfl (by decide) (by decide) rfl ⟨rfl, rfl⟩ 1 (by decide +kernel) ⟨by decide, by decide⟩ rfl rfl (Nat.le_of_ble_eq_true rfl) dX7_forms_28 rfl (kd_ie ?_)
        refine kw_goto (tgt := 36) hC dX7_forms_31 rfl (by decide) ?_
        exact hR9.1 rfl _ _ _ _ dX7_forms_36 (by first | exact ⟨_, rfl, hRS, Fr.rfl _ S⟩ | exact ⟨_, rfl, hRS.fm hfS3 hF9, fFm_tX hfS3⟩)
    · refine kw_iconst hC dX7_forms_10 rfl ?_
      exact hR9.1 rfl _ _ _ _ dX7_forms_11 (by first | exact ⟨_, rfl, hRS, Fr.rfl _ S⟩ | exact ⟨_, rfl, hRS.fm hfS hF9, fFm_tX hfS⟩)

set_option maxHeartbeats 4000000 in
set_option maxRecDepth 100000 in
theorem d_X7_next {g : wG} (hD : wD g) {S : wSt} {a b c : Int} (ha : -2147483648 ≤ a ∧ a ≤ 2147483647) (hb : -2147483648 ≤ b ∧ b ≤ 2147483647) (hc : -2147483648 ≤ c ∧ c ≤ 2147483647) (hRS : CI S) (l : Launch) : Kt l yX7_next wsX7_next ({ frames := 5, cells := 0, slots := 0, locals := 119 } : Room) g S [vr g 0 0, vi a, vi b, vi c] (pI (fun _ S' => CI S' ∧ Fr tX S S')) := by
  refine Kt.of (cc := cX7_next) (nL := 4) (ret := (some .int)) (own := RX7) rfl hD (by decide) rfl (Nat.le_of_ble_eq_true rfl) ⟨rfl, rfl⟩ ?_
  intro E hC hR9
  have f54 : Cond.fieldLink RX7 54 "MirrorBench" "formList" "LMirrorBench$FormList;" ∈ wsX7_next := by decide +kernel
  have f59 : Cond.fieldLink RX7 59 "MirrorBench" "made" "LMirrorBench$Word;" ∈ wsX7_next := by decide +kernel
  have w7 : ∀ w ∈ wsX70, w ∈ wsX7_next := by decide +kernel
  show Wk E g 4 S 0 [(0, vr g 0 0), (1, vi a), (2, vi b), (3, vi c)] []
  have hfS : Fr tC S S := Fr.rfl _ S
  have hRS := hRS.fr hfS
  have hnS := hRS.n
  have enS : S 3 16 2 = S 3 16 2 := hfS 3 16 2 (by unfold tC; omega)
  refine kw_iload_n hC dX7_next_0 rfl 3 rfl ?_
  refine kw_callS hC (d_X7_isSlot hD (by omega)) gX7_next_X7_isSlot rfl ⟨rfl, rfl⟩ 1 (by decide +kernel) ⟨by decide, by decide⟩ rfl rfl (Nat.le_of_ble_eq_true rfl) dX7_next_1 rfl (kd_ie ?_)
  refine kw_ifeq_b (tgt := 28) hC dX7_next_4 rfl (by decide) ⟨fun c4 => ?_, fun c4 => ?_⟩
  · refine kw_iconst hC dX7_next_28 rfl ?_
    exact hR9.1 rfl _ _ _ _ dX7_next_29 (by first | exact ⟨_, rfl, hp9.2.1, hbW.trans ((tC_tX hfS).trans (fWd_tX hp9.2.2.1))⟩ | exact ⟨_, rfl, hRS, hbW.trans (tC_tX hfS)⟩ | exact ⟨_, rfl, hRS, tC_tX hfS⟩)
  · refine kw_iload_n hC dX7_next_7 rfl 1 rfl ?_
    refine kw_if_lt (tgt := 28) hC dX7_next_8 rfl (by decide) (by omega) ⟨fun c8 => ?_, fun c8 => ?_⟩
    · refine kw_iconst hC dX7_next_28 rfl ?_
      exact hR9.1 rfl _ _ _ _ dX7_next_29 (by first | exact ⟨_, rfl, hp9.2.1, hbW.trans ((tC_tX hfS).trans (fWd_tX hp9.2.2.1))⟩ | exact ⟨_, rfl, hRS, hbW.trans (tC_tX hfS)⟩ | exact ⟨_, rfl, hRS, tC_tX hfS⟩)
    · refine kw_iload_n hC dX7_next_11 rfl 1 rfl ?_
      refine kw_bipush hC dX7_next_12 rfl (by decide) ?_
      refine kw_icmp_gt (tgt := 28) hC dX7_next_14 rfl (by decide) (by omega) (by omega) ⟨fun c14 => ?_, fun c14 => ?_⟩
      · refine kw_iconst hC dX7_next_28 rfl ?_
        exact hR9.1 rfl _ _ _ _ dX7_next_29 (by first | exact ⟨_, rfl, hp9.2.1, hbW.trans ((tC_tX hfS).trans (fWd_tX hp9.2.2.1))⟩ | exact ⟨_, rfl, hRS, hbW.trans (tC_tX hfS)⟩ | exact ⟨_, rfl, hRS, tC_tX hfS⟩)
      · refine kw_aload_n hC dX7_next_17 rfl 0 rfl ?_
        refine kg_0_6 hC w7 f54 dX7_next_18 rfl (by decide) (by decide) ?_
        refine kw_iload_n hC dX7_next_21 rfl 1 rfl ?_
        refine kw_callV hC (d_X0_reaches hD hRS (by omega) (by omega)) gX7_next_X0_reaches ⟨_, rfl⟩ rfl (by decide) (by decide) rfl ⟨rfl, rfl⟩ 1 (by decide +kernel) ⟨by decide, by decide⟩ rfl rfl (Nat.le_of_ble_eq_true rfl) dX7_next_22 rfl (kd_i (fun r4 S4 hp4 => ?_))
        obtain ⟨hgF, hF9, hb4, hr9⟩ := hp4
        have hRS4 : CI S4 := hRS.fm hgF hF9
        have hbW : Fr tX S S4 := (tC_tX hfS).trans (fFm_tX hgF)
        have hfS4 : Fr tC S4 S4 := Fr.rfl _ _
        have hnS4 := hRS4.n
        have eb0 : S4 3 16 2 = S 3 16 2 := hgF 3 16 2 (by unfold fFm; omega)
        refine kw_if_ne (tgt := 30) hC dX7_next_25 rfl (by decide) (by omega) ⟨fun c25 => ?_, fun c25 => ?_⟩
        · have hr8 := hr9 (by omega)
          have hC9 := hF9.2.2.2.1 a (by omega) (by omega)
          refine kw_iload_n hC dX7_next_30 rfl 2 rfl ?_
          refine kw_if_lt (tgt := 46) hC dX7_next_31 rfl (by decide) (by omega) ⟨fun c31 => ?_, fun c31 => ?_⟩
          · refine kw_iconst hC dX7_next_46 rfl ?_
            exact hR9.1 rfl _ _ _ _ dX7_next_47 (by first | exact ⟨_, rfl, hp9.2.1, hbW.trans ((tC_tX hfS4).trans (fWd_tX hp9.2.2.1))⟩ | exact ⟨_, rfl, hRS4, hbW.trans (tC_tX hfS4)⟩ | exact ⟨_, rfl, hRS4, tC_tX hfS4⟩)
          · refine kw_iload_n hC dX7_next_34 rfl 2 rfl ?_
            refine kw_aload_n hC dX7_next_35 rfl 0 rfl ?_
            refine kg_0_6 hC w7 f54 dX7_next_36 rfl (by decide) (by decide) ?_
            refine kw_iload_n hC dX7_next_39 rfl 1 rfl ?_
            refine kw_callV hC (d_X0_ofLength hD (by omega) (by omega)) gX7_next_X0_ofLength ⟨_, rfl⟩ rfl (by decide) (by decide) rfl ⟨rfl, rfl⟩ 1 (by decide +kernel) ⟨by decide, by decide⟩ rfl rfl (Nat.le_of_ble_eq_true rfl) dX7_next_40 rfl (kd_ie ?_)
            refine kw_icmp_lt (tgt := 48) hC dX7_next_43 rfl (by decide) (by omega) (by omega) ⟨fun c43 => ?_, fun c43 => ?_⟩
            · refine kw_aload_n hC dX7_next_48 rfl 0 rfl ?_
              refine kg_0_6 hC w7 f54 dX7_next_49 rfl (by decide) (by decide) ?_
              refine kw_iload_n hC dX7_next_52 rfl 1 rfl ?_
              refine kw_iload_n hC dX7_next_53 rfl 2 rfl ?_
              refine kw_aload_n hC dX7_next_54 rfl 0 rfl ?_
              refine kg_0_7 hC w7 f59 dX7_next_55 rfl (by decide) (by decide) ?_
              refine kw_callV hC (d_X0_spell hD hRS4 (by omega) (by omega) (by omega) (by omega)) gX7_next_X0_spell ⟨_, rfl⟩ rfl (by decide) (by decide) rfl ⟨rfl, rfl⟩ 3 (by decide +kernel) ⟨by decide, by decide⟩ rfl rfl (Nat.le_of_ble_eq_true rfl) dX7_next_58 rfl (kd_v (fun S8 hp8 => ?_))
              obtain ⟨hg8, hp8⟩ := hp8
              have hfS8 : Fr tC S4 S8 := hfS4.trans (hg8.mono (fun k i j h => by unfold fWd at h; unfold tC; omega))
              have hRS8 := hRS4.fr hfS8
              have hnS8 := hRS8.n
              have enS8 : S8 3 16 2 = S4 3 16 2 := hfS8 3 16 2 (by unfold tC; omega)
              obtain ⟨y1, y2⟩ := hp8
              have hv8 : WV (S8 2 8) (S8 1 8 1) (S8 3 16 2) := y2.eq (fun _ _ _ => rfl) y1 (by omega)
              refine kw_aload_n hC dX7_next_61 rfl 0 rfl ?_
              refine kw_aload_n hC dX7_next_62 rfl 0 rfl ?_
              refine kg_0_7 hC w7 f59 dX7_next_63 rfl (by decide) (by decide) ?_
              refine kw_iload_n hC dX7_next_66 rfl 3 rfl ?_
              refine kw_callV hC (d_X7_store hD (by omega) (by omega) (by omega) (by omega) hRS8 hv8 (by omega) (by omega)) gX7_next_X7_store ⟨_, rfl⟩ rfl (by decide) (by decide) rfl ⟨rfl, rfl⟩ 2 (by decide +kernel) ⟨by decide, by decide⟩ rfl rfl (Nat.le_of_ble_eq_true rfl) dX7_next_67 rfl (kd_i (fun r9 Sz hp9 => ?_))
              exact hR9.1 rfl _ _ _ _ dX7_next_70 (by first | exact ⟨_, rfl, hp9.2.1, hbW.trans ((tC_tX hfS8).trans (fWd_tX hp9.2.2.1))⟩ | exact ⟨_, rfl, hRS8, hbW.trans (tC_tX hfS8)⟩ | exact ⟨_, rfl, hRS8, tC_tX hfS8⟩)
            · refine kw_iconst hC dX7_next_46 rfl ?_
              exact hR9.1 rfl _ _ _ _ dX7_next_47 (by first | exact ⟨_, rfl, hp9.2.1, hbW.trans ((tC_tX hfS4).trans (fWd_tX hp9.2.2.1))⟩ | exact ⟨_, rfl, hRS4, hbW.trans (tC_tX hfS4)⟩ | exact ⟨_, rfl, hRS4, tC_tX hfS4⟩)
        · refine kw_iconst hC dX7_next_28 rfl ?_
          exact hR9.1 rfl _ _ _ _ dX7_next_29 (by first | exact ⟨_, rfl, hp9.2.1, hbW.trans ((tC_tX hfS4).trans (fWd_tX hp9.2.2.1))⟩ | exact ⟨_, rfl, hRS4, hbW.trans (tC_tX hfS4)⟩ | exact ⟨_, rfl, hRS4, tC_tX hfS4⟩)
