section
set_option maxHeartbeats 4000000 in
set_option maxRecDepth 100000 in
theorem f_X8_formOfW {g : wG} (hD : wD g) {S : wSt} (hRS : RI S) (hw : WV (S 53 0) (S 30 0 14) (S 30 0 0)) (m0 : 0 ≤ S 30 0 14) (m1 : S 30 0 14 ≤ 200) (l : Launch) : Kt l yX8_formOfW wsX8_formOfW ({ frames := 4, cells := 0, slots := 0, locals := 93 } : Room) g S [vr g 30 0] (pI (fun r S' => Fr fW S S' ∧ ((0 ≤ S' 30 0 14 ∧ S' 30 0 14 ≤ S 30 0 14) ∧ WV (S' 53 0) (S' 30 0 14) (S 30 0 0) ∧ ((r = 0 ∧ S' 30 0 16 = 1 ∧ fwP (rM S) (rn S) (rW S) = none) ∨ (r = 1 ∧ S' 30 0 16 = 0 ∧ fwP (rM S) (rn S) (rW S) = some (rW S')))))) := by
  refine Kt.of (cc := cX8_formOfW) (nL := 2) (ret := (some .boolean)) (own := RX8) rfl hD (by decide) rfl (Nat.le_of_ble_eq_true rfl) ⟨rfl, rfl⟩ ?_
  intro E hC hR9
  have f57 : Cond.fieldLink RX8 57 "MirrorBenchModel" "wMany" "I" ∈ wsX8_formOfW := by decide +kernel
  have f60 : Cond.fieldLink RX8 60 "MirrorBenchModel" "w" "[I" ∈ wsX8_formOfW := by decide +kernel
  have f110 : Cond.fieldLink RX8 110 "MirrorBenchModel" "fMany" "I" ∈ wsX8_formOfW := by decide +kernel
  have f116 : Cond.fieldLink RX8 116 "MirrorBenchModel" "f" "[I" ∈ wsX8_formOfW := by decide +kernel
  have w8 : ∀ w ∈ wsX80, w ∈ wsX8_formOfW := by decide +kernel
  show Wk E g 2 S 0 [(0, vr g 30 0)] []
  have hfS : Fr fW S S := Fr.rfl _ S
  have hRS := hRS.fr (hfS.mono (fun k i j h => by unfold fW at h; unfold tR; omega))
  have hnS := hRS.n
  have enS : S 30 0 0 = S 30 0 0 := hfS 30 0 0 (by unfold fW; omega)
  have eNS : rn S = rn S := rn_eq enS
  have eMS : rM S = rM S := rM_eq enS (fun j => hfS 42 0 j (by unfold fW; omega))
  refine kw_aload_n hC dX8_formOfW_0 rfl 0 rfl ?_
  refine kw_callV hC (f_X8_shortOf hD hRS hw m0 m1) gX8_formOfW_X8_shortOf ⟨_, rfl⟩ rfl (by decide) (by decide) rfl ⟨rfl, rfl⟩ 0 (by decide +kernel) ⟨by decide, by decide⟩ rfl rfl (Nat.le_of_ble_eq_true rfl) dX8_formOfW_1 rfl (kd_i (fun r1 S1 hp1 => ?_))
  obtain ⟨hg1, hp1⟩ := hp1
  have hfS1 : Fr fW S S1 := hfS.trans (hg1.mono (fun k i j h => by unfold fS at h; unfold fW; omega))
  have hRS1 := hRS.fr (hfS1.mono (fun k i j h => by unfold fW at h; unfold tR; omega))
  have hnS1 := hRS1.n
  have enS1 : S1 30 0 0 = S 30 0 0 := hfS1 30 0 0 (by unfold fW; omega)
  have eNS1 : rn S1 = rn S := rn_eq enS1
  have eMS1 : rM S1 = rM S := rM_eq enS1 (fun j => hfS1 42 0 j (by unfold fW; omega))
  obtain ⟨⟨r0, r1⟩, hr, hA⟩ := hp1
  have e14 : S1 30 0 14 = S 30 0 14 := hg1 30 0 14 (by unfold fS; omega)
  have hw1 : WV (S1 53 0) (S1 30 0 14) (S 30 0 0) := hw.eq (fun j _ _ => hg1 53 0 j (by unfold fS; omega)) e14 rfl
  refine kw_if_eq (tgt := 14) hC dX8_formOfW_4 rfl (by decide) (by omega) ⟨fun c4 => ?_, fun c4 => ?_⟩
  · refine kw_iconst hC dX8_formOfW_14 rfl ?_
    exact hR9.2.1 rfl _ _ _ _ dX8_formOfW_15 (by omega) (by first | exact ⟨_, rfl, hfS1, ⟨by omega, by omega⟩, hw2, Or.inl ⟨rfl, (hB.resolve_right (fun z => by omega)).2.1, fwP_n2 (hA.resolve_left (fun z => by omega)).2.2 (hB.resolve_right (fun z => by omega)).2.2⟩⟩ | exact ⟨_, rfl, hfS1, ⟨by omega, by omega⟩, hw1, Or.inl ⟨rfl, (hA.resolve_right (fun z => by omega)).2.1, fwP_n1 (hA.resolve_right (fun z => by omega)).2.2⟩⟩)
  · refine kw_aload_n hC dX8_formOfW_7 rfl 0 rfl ?_
    refine kw_callV hC (f_X8_formOfR hD hRS1 (hr.eq (fun _ _ _ => rfl) rfl enS1) (by omega) (by omega)) gX8_formOfW_X8_formOfR ⟨_, rfl⟩ rfl (by decide) (by decide) rfl ⟨rfl, rfl⟩ 0 (by decide +kernel) ⟨by decide, by decide⟩ rfl rfl (Nat.le_of_ble_eq_true rfl) dX8_formOfW_8 rfl (kd_i (fun r3 S3 hp3 => ?_))
    obtain ⟨hg3, hp3⟩ := hp3
    have hfS3 : Fr fW S S3 := hfS1.trans (hg3.mono (fun k i j h => by unfold fF at h; unfold fW; omega))
    have hRS3 := hRS.fr (hfS3.mono (fun k i j h => by unfold fW at h; unfold tR; omega))
    have hnS3 := hRS3.n
    have enS3 : S3 30 0 0 = S 30 0 0 := hfS3 30 0 0 (by unfold fW; omega)
    have eNS3 : rn S3 = rn S := rn_eq enS3
    have eMS3 : rM S3 = rM S := rM_eq enS3 (fun j => hfS3 42 0 j (by unfold fW; omega))
    obtain ⟨⟨t0, t1⟩, hff, hB⟩ := hp3
    rw [eMS1, eNS1] at hB
    have e14b : S3 30 0 14 = S1 30 0 14 := hg3 30 0 14 (by unfold fF; omega)
    have hw2 : WV (S3 53 0) (S3 30 0 14) (S 30 0 0) := hw1.eq (fun j _ _ => hg3 53 0 j (by unfold fF; omega)) e14b rfl
    have hff1 : WV (S3 49 0) (S3 30 0 10) (S 30 0 0) := hff.eq (fun _ _ _ => rfl) rfl (by omega)
    refine kw_if_ne (tgt := 16) hC dX8_formOfW_11 rfl (by decide) (by omega) ⟨fun c11 => ?_, fun c11 => ?_⟩
    · refine kw_aload_n hC dX8_formOfW_16 rfl 0 rfl ?_
      refine kw_aload_n hC dX8_formOfW_17 rfl 0 rfl ?_
      refine kg_30_10 hC w8 f110 dX8_formOfW_18 rfl (by decide) (by decide) ?_
      refine kp_30_14 hC w8 f57 dX8_formOfW_21 rfl (by decide) (by decide) ?_
      refine kw_hv hfS3 (by unfold fW; omega) (fun S5 hfS5 hv5 ho5 => ?_)
      have hRS5 := hRS.fr (hfS5.mono (fun k i j h => by unfold fW at h; unfold tR; omega))
      have hnS5 := hRS5.n
      have enS5 : S5 30 0 0 = S 30 0 0 := hfS5 30 0 0 (by unfold fW; omega)
      have eNS5 : rn S5 = rn S := rn_eq enS5
      have eMS5 : rM S5 = rM S := rM_eq enS5 (fun j => hfS5 42 0 j (by unfold fW; omega))
      have hff2 : WV (S5 49 0) (S5 30 0 10) (S 30 0 0) := hff1.eq (fun j _ _ => ho5 49 0 j (by omega)) (ho5 30 0 10 (by omega)) rfl
      have hA9 := hA.resolve_left (fun z => by omega)
      have hB9 := hB.resolve_left (fun z => by omega)
      have hg2 : S5 30 0 16 = 0 := by rw [ho5 30 0 16 (by omega)]; exact hB9.2.1
      have q10 : S5 30 0 10 = S3 30 0 10 := ho5 30 0 10 (by omega)
      have q14 := hv5
      have hF2 : fwP (rM S) (rn S) (rW S) = some (rF S5) := by rw [fwP_s hA9.2.2 hB9.2.2]; congr 1; exact (wl_eq q10 (fun j _ _ => ho5 49 0 j (by omega))).symm
      refine kw_iconst hC dX8_formOfW_24 rfl ?_
      refine kw_istore_n (lv' := [(1, _), (0, _)]) hC dX8_formOfW_25 rfl (by decide) rfl ?_
      have hL26 : ∀ (n26 : Nat) (x : Int) (W26 : wSt), Fr fW S W26 → (0 ≤ x) → (W26 30 0 14 = W26 30 0 10) → (W26 30 0 10 ≤ S 30 0 14) → (x ≤ W26 30 0 10) → (WV (W26 49 0) (W26 30 0 10) (S 30 0 0)) → (∀ j, 0 ≤ j → j < x → W26 53 0 j = W26 49 0 j) → (W26 30 0 16 = 0) → (fwP (rM S) (rn S) (rW S) = some (rF W26)) → W26 30 0 10 - x < (n26 : Int) → Wk E g 2 W26 26 [(0, vr g 30 0), (1, vi x)] [] := by
        intro n26
        induction n26 with
        | zero => intro x W26 hfW26 hx0 q14 q10 hx1 hff h3 hgw hF hm26; exact absurd hm26 (by omega)
        | succ n26 ih26 =>
          intro x W26 hfW26 hx0 q14 q10 hx1 hff h3 hgw hF hm26
          have hRW26 := hRS.fr (hfW26.mono (fun k i j h => by unfold fW at h; unfold tR; omega))
          have hnW26 := hRW26.n
          have enW26 : W26 30 0 0 = S 30 0 0 := hfW26 30 0 0 (by unfold fW; omega)
          have eNW26 : rn W26 = rn S := rn_eq enW26
          have eMW26 : rM W26 = rM S := rM_eq enW26 (fun j => hfW26 42 0 j (by unfold fW; omega))
          refine kw_iload_n hC dX8_formOfW_26 rfl 1 rfl ?_
          refine kw_aload_n hC dX8_formOfW_27 rfl 0 rfl ?_
          refine kg_30_10 hC w8 f110 dX8_formOfW_28 rfl (by decide) (by decide) ?_
          refine kw_icmp_ge (tgt := 52) hC dX8_formOfW_31 rfl (by decide) (by omega) (by omega) ⟨fun c31 => ?_, fun c31 => ?_⟩
          · refine kw_iconst hC dX8_formOfW_52 rfl ?_
            exact hR9.2.1 rfl _ _ _ _ dX8_formOfW_53 (by omega) ⟨_, rfl, hfW26, ⟨by omega, by omega⟩, (hff.eq (fun j j0 j1 => h3 j j0 (by omega)) (by omega) rfl), Or.inr ⟨rfl, hgw, by rw [hF]; congr 1; exact (wl_eq q14 (fun j j0 j1 => h3 j j0 (by omega))).symm⟩⟩
          · refine kw_aload_n hC dX8_formOfW_34 rfl 0 rfl ?_
            refine kg_30_13 hC w8 f60 dX8_formOfW_35 rfl (by decide) (by decide) ?_
            refine kw_iload_n hC dX8_formOfW_38 rfl 1 rfl ?_
            refine kw_aload_n hC dX8_formOfW_39 rfl 0 rfl ?_
            refine kg_30_9 hC w8 f116 dX8_formOfW_40 rfl (by decide) (by decide) ?_
            refine kw_iload_n hC dX8_formOfW_43 rfl 1 rfl ?_
            refine ka_49 hC dX8_formOfW_44 rfl (by decide) (by decide) (by omega) (by omega) ?_
            refine ks_53 hC dX8_formOfW_45 rfl (by decide) (by decide) (by omega) (by omega) ?_
            refine kw_hv hfW26 (by unfold fW; omega) (fun S7 hfS7 hv7 ho7 => ?_)
            have hRS7 := hRS.fr (hfS7.mono (fun k i j h => by unfold fW at h; unfold tR; omega))
            have hnS7 := hRS7.n
            have enS7 : S7 30 0 0 = S 30 0 0 := hfS7 30 0 0 (by unfold fW; omega)
            have eNS7 : rn S7 = rn S := rn_eq enS7
            have eMS7 : rM S7 = rM S := rM_eq enS7 (fun j => hfS7 42 0 j (by unfold fW; omega))
            refine kw_iinc (lv' := [(1, _), (0, _)]) hC dX8_formOfW_46 rfl 1 rfl (by decide) rfl ?_
            refine kw_goto (tgt := 26) hC dX8_formOfW_49 rfl (by decide) ?_
            refine kw_lv [1, 0] rfl ?_
            exact ih26 (x + 1) S7 hfS7 (by omega) (by rw [ho7 30 0 14 (by omega), ho7 30 0 10 (by omega)]; exact q14) (by rw [ho7 30 0 10 (by omega)]; exact q10) (by rw [ho7 30 0 10 (by omega)]; omega) (hff.eq (fun j _ _ => ho7 49 0 j (by omega)) (ho7 30 0 10 (by omega)) rfl) (ext_p (fun j z => z = S7 49 0 j) (fun j j0 j1 => by rw [ho7 49 0 j (by omega)]; exact h3 j j0 j1) (fun j hj => ho7 53 0 j (by omega)) (by rw [hv7, ho7 49 0 x (by omega)])) (by rw [ho7 30 0 16 (by omega)]; exact hgw) (by rw [hF]; congr 1; exact (wl_eq (ho7 30 0 10 (by omega)) (fun j _ _ => ho7 49 0 j (by omega))).symm) (by rw [ho7 30 0 10 (by omega)]; omega)
      refine kw_lv [1, 0] rfl ?_
      exact hL26 201 0 S5 hfS5 (by omega) (by omega) (by omega) (by omega) hff2 (fun j _ _ => by omega) hg2 hF2 (by omega)
    · refine kw_iconst hC dX8_formOfW_14 rfl ?_
      exact hR9.2.1 rfl _ _ _ _ dX8_formOfW_15 (by omega) (by first | exact ⟨_, rfl, hfS3, ⟨by omega, by omega⟩, hw2, Or.inl ⟨rfl, (hB.resolve_right (fun z => by omega)).2.1, fwP_n2 (hA.resolve_left (fun z => by omega)).2.2 (hB.resolve_right (fun z => by omega)).2.2⟩⟩ | exact ⟨_, rfl, hfS3, ⟨by omega, by omega⟩, hw1, Or.inl ⟨rfl, (hA.resolve_right (fun z => by omega)).2.1, fwP_n1 (hA.resolve_right (fun z => by omega)).2.2⟩⟩)
end
section
set_option maxHeartbeats 4000000 in
set_option maxRecDepth 100000 in
theorem f_X8_clear {g : wG} (hD : wD g) {S : wSt} {a : Int} (ha : -2147483648 ≤ a ∧ a ≤ 2147483647) (hRS : RI S) (l : Launch) : Kt l yX8_clear wsX8_clear ({ frames := 2, cells := 0, slots := 0, locals := 45 } : Room) g S [vr g 30 0, vi a] (pI (fun r S' => RI S' ∧ Fr tW S S' ∧ fClear a (rSl S) = (r, rSl S'))) := by
  refine Kt.of (cc := cX8_clear) (nL := 3) (ret := (some .int)) (own := RX8) rfl hD (by decide) rfl (Nat.le_of_ble_eq_true rfl) ⟨rfl, rfl⟩ ?_
  intro E hC hR9
  have f43 : Cond.fieldLink RX8 43 "MirrorBenchModel" "lengths" "[I" ∈ wsX8_clear := by decide +kernel
  have w8 : ∀ w ∈ wsX80, w ∈ wsX8_clear := by decide +kernel
  show Wk E g 3 S 0 [(0, vr g 30 0), (1, vi a)] []
  have hfS : Fr fV S S := Fr.rfl _ S
  have hnS := hRS.n
  have hnn : (rn S : Int) = S 30 0 0 := by unfold rn; omega
  refine kw_iload_n hC dX8_clear_0 rfl 1 rfl ?_
  refine kw_callS hC (d_X8_isSlot hD (by omega)) gX8_clear_X8_isSlot rfl ⟨rfl, rfl⟩ 1 (by decide +kernel) ⟨by decide, by decide⟩ rfl rfl (Nat.le_of_ble_eq_true rfl) dX8_clear_1 rfl (kd_ie ?_)
  refine kw_ifne_b (tgt := 9) hC dX8_clear_4 rfl (by decide) ⟨fun c4 => ?_, fun c4 => ?_⟩
  · have hla := hRS.ln a (by omega) (by omega)
    have hLa := rSl_len hRS (a := a) (by omega) (by omega)
    refine kw_aload_n hC dX8_clear_9 rfl 0 rfl ?_
    refine kg_30_6 hC w8 f43 dX8_clear_10 rfl (by decide) (by decide) ?_
    refine kw_iload_n hC dX8_clear_13 rfl 1 rfl ?_
    refine ka_46 hC dX8_clear_14 rfl (by decide) (by decide) (by omega) (by omega) ?_
    refine kw_istore_n (lv' := [(2, _), (0, _), (1, _)]) hC dX8_clear_15 rfl (by decide) rfl ?_
    refine kw_aload_n hC dX8_clear_16 rfl 1 rfl ?_
    refine kg_30_6 hC w8 f43 dX8_clear_17 rfl (by decide) (by decide) ?_
    refine kw_iload_n hC dX8_clear_20 rfl 2 rfl ?_
    refine kw_iconst hC dX8_clear_21 rfl ?_
    refine ks_46 hC dX8_clear_22 rfl (by decide) (by decide) (by omega) (by omega) ?_
    refine kw_hv hfS (by unfold fV; omega) (fun S2 hfS2 hv2 ho2 => ?_)
    have hw9 := hRS.wd hfS2 (hRS.wdo.len (a := a) (fun j => ho2 45 0 j (by omega)) (fun s hs => ho2 46 0 s (by omega)) (by omega) (fun k k0 k1 => by rw [hv2] at k1; omega))
    have hst := rSl_st hRS (W := S2) (m := 0) (f := fun _ => 0) (by omega) (by omega) hv2 (fun s hs => ho2 46 0 s (by omega)) (fun j _ _ => by omega) (fun j _ => ho2 45 0 j (by omega))
    refine kw_iload_n hC dX8_clear_23 rfl 0 rfl ?_
    exact hR9.1 rfl _ _ _ _ dX8_clear_24 (by first | (exfalso; omega) | exact ⟨_, rfl, hRS, Fr.rfl _ S, by unfold fClear; rw [if_neg (by omega)]⟩ | exact ⟨_, rfl, hw9, fV_tW hfS2, by unfold fClear; rw [if_pos (by omega), hLa, hst]; rfl⟩)
  · refine kw_iconst hC dX8_clear_7 rfl ?_
    exact hR9.1 rfl _ _ _ _ dX8_clear_8 (by first | (exfalso; omega) | exact ⟨_, rfl, hRS, Fr.rfl _ S, by unfold fClear; rw [if_neg (by omega)]⟩ | exact ⟨_, rfl, hw9, fV_tW hfS, by unfold fClear; rw [if_pos (by omega), hLa, hst]; rfl⟩)

set_option maxHeartbeats 4000000 in
set_option maxRecDepth 100000 in
theorem f_X8_put {g : wG} (hD : wD g) {S : wSt} {a b : Int} (ha : -2147483648 ≤ a ∧ a ≤ 2147483647) (hb : -2147483648 ≤ b ∧ b ≤ 2147483647) (hRS : RI S) (l : Launch) : Kt l yX8_put wsX8_put ({ frames := 2, cells := 0, slots := 0, locals := 47 } : Room) g S [vr g 30 0, vi a, vi b] (pI (fun r S' => RI S' ∧ Fr tW S S' ∧ fPut (rn S) a b (rSl S) = (r, rSl S'))) := by
  refine Kt.of (cc := cX8_put) (nL := 3) (ret := (some .int)) (own := RX8) rfl hD (by decide) rfl (Nat.le_of_ble_eq_true rfl) ⟨rfl, rfl⟩ ?_
  intro E hC hR9
  have f43 : Cond.fieldLink RX8 43 "MirrorBenchModel" "lengths" "[I" ∈ wsX8_put := by decide +kernel
  have f52 : Cond.fieldLink RX8 52 "MirrorBenchModel" "words" "[I" ∈ wsX8_put := by decide +kernel
  have w8 : ∀ w ∈ wsX80, w ∈ wsX8_put := by decide +kernel
  show Wk E g 3 S 0 [(0, vr g 30 0), (1, vi a), (2, vi b)] []
  have hfS : Fr fV S S := Fr.rfl _ S
  have hnS := hRS.n
  have hnn : (rn S : Int) = S 30 0 0 := by unfold rn; omega
  refine kw_iload_n hC dX8_put_0 rfl 1 rfl ?_
  refine kw_callS hC (d_X8_isSlot hD (by omega)) gX8_put_X8_isSlot rfl ⟨rfl, rfl⟩ 1 (by decide +kernel) ⟨by decide, by decide⟩ rfl rfl (Nat.le_of_ble_eq_true rfl) dX8_put_1 rfl (kd_ie ?_)
  refine kw_ifeq_b (tgt := 16) hC dX8_put_4 rfl (by decide) ⟨fun c4 => ?_, fun c4 => ?_⟩
  · refine kw_iconst hC dX8_put_16 rfl ?_
    exact hR9.1 rfl _ _ _ _ dX8_put_17 (by first | (exfalso; omega) | exact ⟨_, rfl, hRS, Fr.rfl _ S, by unfold fPut; rw [if_neg (by omega)]⟩ | exact ⟨_, rfl, hRS, Fr.rfl _ S, by unfold fPut; rw [if_pos (by omega), if_pos (by omega)]⟩ | exact ⟨_, rfl, hw9, fV_tW hfS, by unfold fPut; rw [if_pos (by omega), if_neg (by omega), hst]; exact Prod.ext (by show _ = _; omega) rfl⟩)
  · refine kw_aload_n hC dX8_put_7 rfl 0 rfl ?_
    refine kw_iload_n hC dX8_put_8 rfl 2 rfl ?_
    refine kw_i2l hC dX8_put_9 rfl (by omega) ?_
    refine kw_callV hC (d_X8_isMirror hD (by omega) (by omega) (by omega)) gX8_put_X8_isMirror ⟨_, rfl⟩ rfl (by decide) (by decide) rfl ⟨rfl, rfl⟩ 1 (by decide +kernel) ⟨by decide, by decide⟩ rfl rfl (Nat.le_of_ble_eq_true rfl) dX8_put_10 rfl (kd_ie ?_)
    refine kw_ifne_b (tgt := 18) hC dX8_put_13 rfl (by decide) ⟨fun c13 => ?_, fun c13 => ?_⟩
    · have hla := hRS.ln a (by omega) (by omega)
      have hLa := rSl_len hRS (a := a) (by omega) (by omega)
      refine kw_aload_n hC dX8_put_18 rfl 0 rfl ?_
      refine kg_30_6 hC w8 f43 dX8_put_19 rfl (by decide) (by decide) ?_
      refine kw_iload_n hC dX8_put_22 rfl 1 rfl ?_
      refine ka_46 hC dX8_put_23 rfl (by decide) (by decide) (by omega) (by omega) ?_
      refine kw_bipush hC dX8_put_24 rfl (by decide) ?_
      refine kw_icmp_ne (tgt := 32) hC dX8_put_26 rfl (by decide) (by omega) (by omega) ⟨fun c26 => ?_, fun c26 => ?_⟩
      · refine kw_aload_n hC dX8_put_32 rfl 0 rfl ?_
        refine kg_30_5 hC w8 f52 dX8_put_33 rfl (by decide) (by decide) ?_
        refine kw_bipush hC dX8_put_36 rfl (by decide) ?_
        refine kw_iload_n hC dX8_put_38 rfl 1 rfl ?_
        refine kw_imul hC dX8_put_39 rfl ?_
        refine kw_aload_n hC dX8_put_40 rfl 0 rfl ?_
        refine kg_30_6 hC w8 f43 dX8_put_41 rfl (by decide) (by decide) ?_
        refine kw_iload_n hC dX8_put_44 rfl 1 rfl ?_
        refine ka_46 hC dX8_put_45 rfl (by decide) (by decide) (by omega) (by omega) ?_
        refine kw_iadd hC dX8_put_46 rfl ?_
        refine kw_iload_n hC dX8_put_47 rfl 2 rfl ?_
        refine ks_45 hC dX8_put_48 rfl (by decide) (by decide) (by omega) (by omega) ?_
        refine kw_hv hfS (by unfold fV; omega) (fun S4 hfS4 hv4 ho4 => ?_)
        have hw1 := hRS.wdo.let (W' := S4) (p := 100 * a + S 46 0 a) (fun s => ho4 46 0 s (by omega)) (fun j hj => ho4 45 0 j (by omega)) (by rw [hv4]; omega)
        have hlq : S4 46 0 a = S 46 0 a := ho4 46 0 a (by omega)
        have ho9 := ho4
        refine kw_aload_n hC dX8_put_49 rfl 0 rfl ?_
        refine kg_30_6 hC w8 f43 dX8_put_50 rfl (by decide) (by decide) ?_
        refine kw_iload_n hC dX8_put_53 rfl 1 rfl ?_
        refine kw_dup2 hC dX8_put_54 rfl rfl rfl ?_
        refine ka_46 hC dX8_put_55 rfl (by decide) (by decide) (by omega) (by omega) ?_
        refine kw_chi (z' := S 46 0 a) (ho4 46 0 a (by omega)) ?_
        have hz := hv4
        refine kw_iconst hC dX8_put_56 rfl ?_
        refine kw_iadd hC dX8_put_57 rfl ?_
        refine ks_46 hC dX8_put_58 rfl (by decide) (by decide) (by omega) (by omega) ?_
        refine kw_hv hfS4 (by unfold fV; omega) (fun S5 hfS5 hv5 ho5 => ?_)
        have hw9 := hRS.wd hfS5 (hw1.len (a := a) (fun j => ho5 45 0 j (by omega)) (fun s hs => ho5 46 0 s (by omega)) (by omega) (fun k k0 k1 => by rw [hv5] at k1; rcases Decidable.em (k = S 46 0 a) with e | e; exact (by rw [e, hz]; omega); exact hw1.2 a k (by omega) (by omega) k0 (by omega)))
        have hz9 := hv5
        have hst : rSl S5 = upw (rSl S) a (rSl S a ++ [b.toNat]) := by rw [rSl_st hRS (W := S5) (m := S 46 0 a + 1) (f := fun j => S5 45 0 (100 * a + j)) (by omega) (by omega) hv5 (fun s hs => (ho5 46 0 s (by omega)).trans (ho9 46 0 s (by omega))) (fun _ _ _ => rfl) (fun j hj => (ho5 45 0 j (by omega)).trans (ho9 45 0 j (by omega))), rSl_at (by omega) (by omega)]; congr 1; exact wl_add (by omega) (fun j j0 j1 => (ho5 45 0 _ (by omega)).trans (ho9 45 0 _ (by omega))) ((ho5 45 0 _ (by omega)).trans hz)
        refine kw_aload_n hC dX8_put_59 rfl 0 rfl ?_
        refine kg_30_6 hC w8 f43 dX8_put_60 rfl (by decide) (by decide) ?_
        refine kw_iload_n hC dX8_put_63 rfl 1 rfl ?_
        refine ka_46 hC dX8_put_64 rfl (by decide) (by decide) (by omega) (by omega) ?_
        exact hR9.1 rfl _ _ _ _ dX8_put_65 (by first | (exfalso; omega) | exact ⟨_, rfl, hRS, Fr.rfl _ S, by unfold fPut; rw [if_neg (by omega)]⟩ | exact ⟨_, rfl, hRS, Fr.rfl _ S, by unfold fPut; rw [if_pos (by omega), if_pos (by omega)]⟩ | exact ⟨_, rfl, hw9, fV_tW hfS5, by unfold fPut; rw [if_pos (by omega), if_neg (by omega), hst]; exact Prod.ext (by show _ = _; omega) rfl⟩)
      · refine kw_bipush hC dX8_put_29 rfl (by decide) ?_
        exact hR9.1 rfl _ _ _ _ dX8_put_31 (by first | (exfalso; omega) | exact ⟨_, rfl, hRS, Fr.rfl _ S, by unfold fPut; rw [if_neg (by omega)]⟩ | exact ⟨_, rfl, hRS, Fr.rfl _ S, by unfold fPut; rw [if_pos (by omega), if_pos (by omega)]⟩ | exact ⟨_, rfl, hw9, fV_tW hfS, by unfold fPut; rw [if_pos (by omega), if_neg (by omega), hst]; exact Prod.ext (by show _ = _; omega) rfl⟩)
    · refine kw_iconst hC dX8_put_16 rfl ?_
      exact hR9.1 rfl _ _ _ _ dX8_put_17 (by first | (exfalso; omega) | exact ⟨_, rfl, hRS, Fr.rfl _ S, by unfold fPut; rw [if_neg (by omega)]⟩ | exact ⟨_, rfl, hRS, Fr.rfl _ S, by unfold fPut; rw [if_pos (by omega), if_pos (by omega)]⟩ | exact ⟨_, rfl, hw9, fV_tW hfS, by unfold fPut; rw [if_pos (by omega), if_neg (by omega), hst]; exact Prod.ext (by show _ = _; omega) rfl⟩)

set_option maxHeartbeats 4000000 in
set_option maxRecDepth 100000 in
theorem f_X8_at {g : wG} (hD : wD g) {S : wSt} {a b : Int} (ha : -2147483648 ≤ a ∧ a ≤ 2147483647) (hb : -2147483648 ≤ b ∧ b ≤ 2147483647) (hRS : RI S) (l : Launch) : Kt l yX8_at wsX8_at ({ frames := 2, cells := 0, slots := 0, locals := 45 } : Room) g S [vr g 30 0, vi a, vi b] (pI (fun r S' => RI S' ∧ Fr tW S S' ∧ (fAt a b (rSl S), rSl S) = (r, rSl S'))) := by
  refine Kt.of (cc := cX8_at) (nL := 3) (ret := (some .int)) (own := RX8) rfl hD (by decide) rfl (Nat.le_of_ble_eq_true rfl) ⟨rfl, rfl⟩ ?_
  intro E hC hR9
  have f43 : Cond.fieldLink RX8 43 "MirrorBenchModel" "lengths" "[I" ∈ wsX8_at := by decide +kernel
  have f52 : Cond.fieldLink RX8 52 "MirrorBenchModel" "words" "[I" ∈ wsX8_at := by decide +kernel
  have l55 : Cond.constantLong RX8 55 (Int64.ofInt (-1)) ∈ wsX8_at := by decide +kernel
  have w8 : ∀ w ∈ wsX80, w ∈ wsX8_at := by decide +kernel
  show Wk E g 3 S 0 [(0, vr g 30 0), (1, vi a), (2, vi b)] []
  have hnS := hRS.n
  have hnn : (rn S : Int) = S 30 0 0 := by unfold rn; omega
  refine kw_iload_n hC dX8_at_0 rfl 1 rfl ?_
  refine kw_callS hC (d_X8_isSlot hD (by omega)) gX8_at_X8_isSlot rfl ⟨rfl, rfl⟩ 1 (by decide +kernel) ⟨by decide, by decide⟩ rfl rfl (Nat.le_of_ble_eq_true rfl) dX8_at_1 rfl (kd_ie ?_)
  refine kw_ifeq_b (tgt := 27) hC dX8_at_4 rfl (by decide) ⟨fun c4 => ?_, fun c4 => ?_⟩
  · refine kw_iconst hC dX8_at_27 rfl ?_
    exact hR9.1 rfl _ _ _ _ dX8_at_28 (by first | (exfalso; omega) | exact ⟨_, rfl, hRS, Fr.rfl _ S, by unfold fAt; rw [if_neg (by omega)]⟩ | exact ⟨_, rfl, hRS, Fr.rfl _ S, by unfold fAt; rw [if_pos (by omega), if_pos (by omega), hLa]⟩ | exact ⟨_, rfl, hRS, Fr.rfl _ S, by unfold fAt; rw [if_pos (by omega), if_neg (by omega), rSl_get (by omega) (by omega) (by omega) (by omega), Int.toNat_of_nonneg (hRS.lt a b (by omega) (by omega) (by omega) (by omega)).1]⟩)
  · refine kw_iload_n hC dX8_at_7 rfl 2 rfl ?_
    refine kw_i2l hC dX8_at_8 rfl (by omega) ?_
    refine kw_ldc2 (z := -1) hC dX8_at_9 rfl l55 ?_
    have hla := hRS.ln a (by omega) (by omega)
    have hLa := rSl_len hRS (a := a) (by omega) (by omega)
    refine kw_aload_n hC dX8_at_12 rfl 0 rfl ?_
    refine kg_30_6 hC w8 f43 dX8_at_13 rfl (by decide) (by decide) ?_
    refine kw_iload_n hC dX8_at_16 rfl 1 rfl ?_
    refine ka_46 hC dX8_at_17 rfl (by decide) (by decide) (by omega) (by omega) ?_
    refine kw_iconst hC dX8_at_18 rfl ?_
    refine kw_isub hC dX8_at_19 rfl ?_
    refine kw_i2l hC dX8_at_20 rfl (by omega) ?_
    refine kw_callS hC (d_X8_in hD (by omega) (by omega) (by omega)) gX8_at_X8_in rfl ⟨rfl, rfl⟩ 3 (by decide +kernel) ⟨by decide, by decide⟩ rfl rfl (Nat.le_of_ble_eq_true rfl) dX8_at_21 rfl (kd_ie ?_)
    refine kw_ifne_b (tgt := 29) hC dX8_at_24 rfl (by decide) ⟨fun c24 => ?_, fun c24 => ?_⟩
    · refine kw_iload_n hC dX8_at_29 rfl 2 rfl ?_
      refine kw_iconst hC dX8_at_30 rfl ?_
      refine kw_icmp_ne (tgt := 43) hC dX8_at_31 rfl (by decide) (by omega) (by omega) ⟨fun c31 => ?_, fun c31 => ?_⟩
      · refine kw_aload_n hC dX8_at_43 rfl 0 rfl ?_
        refine kg_30_5 hC w8 f52 dX8_at_44 rfl (by decide) (by decide) ?_
        refine kw_bipush hC dX8_at_47 rfl (by decide) ?_
        refine kw_iload_n hC dX8_at_49 rfl 1 rfl ?_
        refine kw_imul hC dX8_at_50 rfl ?_
        refine kw_iload_n hC dX8_at_51 rfl 2 rfl ?_
        refine kw_iadd hC dX8_at_52 rfl ?_
        refine ka_45 hC dX8_at_53 rfl (by decide) (by decide) (by omega) (by omega) ?_
        exact hR9.1 rfl _ _ _ _ dX8_at_54 (by first | (exfalso; omega) | exact ⟨_, rfl, hRS, Fr.rfl _ S, by unfold fAt; rw [if_neg (by omega)]⟩ | exact ⟨_, rfl, hRS, Fr.rfl _ S, by unfold fAt; rw [if_pos (by omega), if_pos (by omega), hLa]⟩ | exact ⟨_, rfl, hRS, Fr.rfl _ S, by unfold fAt; rw [if_pos (by omega), if_neg (by omega), rSl_get (by omega) (by omega) (by omega) (by omega), Int.toNat_of_nonneg (hRS.lt a b (by omega) (by omega) (by omega) (by omega)).1]⟩)
      · refine kw_aload_n hC dX8_at_34 rfl 0 rfl ?_
        refine kg_30_6 hC w8 f43 dX8_at_35 rfl (by decide) (by decide) ?_
        refine kw_iload_n hC dX8_at_38 rfl 1 rfl ?_
        refine ka_46 hC dX8_at_39 rfl (by decide) (by decide) (by omega) (by omega) ?_
        refine kw_goto (tgt := 54) hC dX8_at_40 rfl (by decide) ?_
        exact hR9.1 rfl _ _ _ _ dX8_at_54 (by first | (exfalso; omega) | exact ⟨_, rfl, hRS, Fr.rfl _ S, by unfold fAt; rw [if_neg (by omega)]⟩ | exact ⟨_, rfl, hRS, Fr.rfl _ S, by unfold fAt; rw [if_pos (by omega), if_pos (by omega), hLa]⟩ | exact ⟨_, rfl, hRS, Fr.rfl _ S, by unfold fAt; rw [if_pos (by omega), if_neg (by omega), rSl_get (by omega) (by omega) (by omega) (by omega), Int.toNat_of_nonneg (hRS.lt a b (by omega) (by omega) (by omega) (by omega)).1]⟩)
    · refine kw_iconst hC dX8_at_27 rfl ?_
      exact hR9.1 rfl _ _ _ _ dX8_at_28 (by first | (exfalso; omega) | exact ⟨_, rfl, hRS, Fr.rfl _ S, by unfold fAt; rw [if_neg (by omega)]⟩ | exact ⟨_, rfl, hRS, Fr.rfl _ S, by unfold fAt; rw [if_pos (by omega), if_pos (by omega), hLa]⟩ | exact ⟨_, rfl, hRS, Fr.rfl _ S, by unfold fAt; rw [if_pos (by omega), if_neg (by omega), rSl_get (by omega) (by omega) (by omega) (by omega), Int.toNat_of_nonneg (hRS.lt a b (by omega) (by omega) (by omega) (by omega)).1]⟩)

set_option maxHeartbeats 4000000 in
set_option maxRecDepth 100000 in
theorem f_X8_times {g : wG} (hD : wD g) {S : wSt} {a b c : Int} (ha : -2147483648 ≤ a ∧ a ≤ 2147483647) (hb : -2147483648 ≤ b ∧ b ≤ 2147483647) (hc : -2147483648 ≤ c ∧ c ≤ 2147483647) (hRS : RI S) (l : Launch) : Kt l yX8_times wsX8_times ({ frames := 2, cells := 0, slots := 0, locals := 45 } : Room) g S [vr g 30 0, vi a, vi b, vi c] (pI (fun r S' => RI S' ∧ Fr tW S S' ∧ fTimes a b c (rSl S) = (r, rSl S'))) := by
  refine Kt.of (cc := cX8_times) (nL := 4) (ret := (some .int)) (own := RX8) rfl hD (by decide) rfl (Nat.le_of_ble_eq_true rfl) ⟨rfl, rfl⟩ ?_
  intro E hC hR9
  have f43 : Cond.fieldLink RX8 43 "MirrorBenchModel" "lengths" "[I" ∈ wsX8_times := by decide +kernel
  have w8 : ∀ w ∈ wsX80, w ∈ wsX8_times := by decide +kernel
  show Wk E g 4 S 0 [(0, vr g 30 0), (1, vi a), (2, vi b), (3, vi c)] []
  have hfS : Fr tR S S := Fr.rfl _ S
  have hRS := hRS.fr hfS
  have hnS := hRS.n
  have enS : S 30 0 0 = S 30 0 0 := hfS 30 0 0 (by unfold tR; omega)
  have hnS := hRS.n
  have hnn : (rn S : Int) = S 30 0 0 := by unfold rn; omega
  refine kw_iload_n hC dX8_times_0 rfl 1 rfl ?_
  refine kw_callS hC (d_X8_isSlot hD (by omega)) gX8_times_X8_isSlot rfl ⟨rfl, rfl⟩ 1 (by decide +kernel) ⟨by decide, by decide⟩ rfl rfl (Nat.le_of_ble_eq_true rfl) dX8_times_1 rfl (kd_ie ?_)
  refine kw_ifeq_b (tgt := 21) hC dX8_times_4 rfl (by decide) ⟨fun c4 => ?_, fun c4 => ?_⟩
  · refine kw_iconst hC dX8_times_21 rfl ?_
    exact hR9.1 rfl _ _ _ _ dX8_times_22 (by first | (exfalso; omega) | exact ⟨_, rfl, hRS, tR_tW hfS, by unfold fTimes; rw [if_neg (by omega), rSl_tR hfS]⟩ | exact ⟨_, rfl, hRS, tR_tW hfS, by unfold fTimes; rw [if_pos (by omega), if_pos (by omega), rSl_tR hfS]⟩ | exact ⟨_, rfl, hp9.2.1, (tR_tW hfS).trans (fV_tW hp9.2.2.1), by unfold fTimes; rw [if_pos (by omega), if_neg (by omega)]; exact st_f hRS (by omega) (by omega) (by omega) (by omega) hp9 (rSl_tR hfS) eW9⟩)
  · refine kw_iload_n hC dX8_times_7 rfl 2 rfl ?_
    refine kw_callS hC (d_X8_isSlot hD (by omega)) gX8_times_X8_isSlot rfl ⟨rfl, rfl⟩ 1 (by decide +kernel) ⟨by decide, by decide⟩ rfl rfl (Nat.le_of_ble_eq_true rfl) dX8_times_8 rfl (kd_ie ?_)
    refine kw_ifeq_b (tgt := 21) hC dX8_times_11 rfl (by decide) ⟨fun c11 => ?_, fun c11 => ?_⟩
    · refine kw_iconst hC dX8_times_21 rfl ?_
      exact hR9.1 rfl _ _ _ _ dX8_times_22 (by first | (exfalso; omega) | exact ⟨_, rfl, hRS, tR_tW hfS, by unfold fTimes; rw [if_neg (by omega), rSl_tR hfS]⟩ | exact ⟨_, rfl, hRS, tR_tW hfS, by unfold fTimes; rw [if_pos (by omega), if_pos (by omega), rSl_tR hfS]⟩ | exact ⟨_, rfl, hp9.2.1, (tR_tW hfS).trans (fV_tW hp9.2.2.1), by unfold fTimes; rw [if_pos (by omega), if_neg (by omega)]; exact st_f hRS (by omega) (by omega) (by omega) (by omega) hp9 (rSl_tR hfS) eW9⟩)
    · refine kw_iload_n hC dX8_times_14 rfl 3 rfl ?_
      refine kw_callS hC (d_X8_isSlot hD (by omega)) gX8_times_X8_isSlot rfl ⟨rfl, rfl⟩ 1 (by decide +kernel) ⟨by decide, by decide⟩ rfl rfl (Nat.le_of_ble_eq_true rfl) dX8_times_15 rfl (kd_ie ?_)
      refine kw_ifne_b (tgt := 23) hC dX8_times_18 rfl (by decide) ⟨fun c18 => ?_, fun c18 => ?_⟩
      · have hla := hRS.ln a (by omega) (by omega)
        have hlb := hRS.ln b (by omega) (by omega)
        have hLa := rSl_len hRS (a := a) (by omega) (by omega)
        have hLb := rSl_len hRS (a := b) (by omega) (by omega)
        refine kw_aload_n hC dX8_times_23 rfl 0 rfl ?_
        refine kg_30_6 hC w8 f43 dX8_times_24 rfl (by decide) (by decide) ?_
        refine kw_iload_n hC dX8_times_27 rfl 1 rfl ?_
        refine ka_46 hC dX8_times_28 rfl (by decide) (by decide) (by omega) (by omega) ?_
        refine kw_aload_n hC dX8_times_29 rfl 0 rfl ?_
        refine kg_30_6 hC w8 f43 dX8_times_30 rfl (by decide) (by decide) ?_
        refine kw_iload_n hC dX8_times_33 rfl 2 rfl ?_
        refine ka_46 hC dX8_times_34 rfl (by decide) (by decide) (by omega) (by omega) ?_
        refine kw_iadd hC dX8_times_35 rfl ?_
        refine kw_bipush hC dX8_times_36 rfl (by decide) ?_
        refine kw_icmp_le (tgt := 44) hC dX8_times_38 rfl (by decide) (by omega) (by omega) ⟨fun c38 => ?_, fun c38 => ?_⟩
        · refine kw_aload_n hC dX8_times_44 rfl 0 rfl ?_
          refine kw_iload_n hC dX8_times_45 rfl 1 rfl ?_
          refine kw_callV hC (d_X8_load hD (by omega) (by omega) hRS) gX8_times_X8_load ⟨_, rfl⟩ rfl (by decide) (by decide) rfl ⟨rfl, rfl⟩ 1 (by decide +kernel) ⟨by decide, by decide⟩ rfl rfl (Nat.le_of_ble_eq_true rfl) dX8_times_46 rfl (kd_v (fun S5 hp5 => ?_))
          obtain ⟨hg5, hp5⟩ := hp5
          have hfS5 : Fr tR S S5 := hfS.trans (hg5.mono (fun k i j h => by unfold fL at h; unfold tR; omega))
          have hRS5 := hRS.fr hfS5
          have hnS5 := hRS5.n
          have enS5 : S5 30 0 0 = S 30 0 0 := hfS5 30 0 0 (by unfold tR; omega)
          obtain ⟨q14, qW⟩ := hp5
          have hwv : WV (S5 53 0) (S5 30 0 14) (S5 30 0 0) := ldWV hRS (by omega) (by omega) q14 qW (by omega)
          have hl5 := hRS.ln a (by omega) (by omega)
          have eWa : rW S5 = rSl S a := (ld_rW (by omega) (by omega) q14 qW).trans (by rw [rSl_tR hfS])
          refine kw_aload_n hC dX8_times_49 rfl 0 rfl ?_
          refine kw_iload_n hC dX8_times_50 rfl 2 rfl ?_
          refine kw_callV hC (d_X8_loadMore hD (by omega) (by omega) hRS5 (by omega) (by rw [hfS5 46 0 b (by unfold tR; omega)]; omega)) gX8_times_X8_loadMore ⟨_, rfl⟩ rfl (by decide) (by decide) rfl ⟨rfl, rfl⟩ 1 (by decide +kernel) ⟨by decide, by decide⟩ rfl rfl (Nat.le_of_ble_eq_true rfl) dX8_times_51 rfl (kd_v (fun S6 hp6 => ?_))
          obtain ⟨hg6, hp6⟩ := hp6
          have hfS6 : Fr tR S S6 := hfS5.trans (hg6.mono (fun k i j h => by unfold fL at h; unfold tR; omega))
          have hRS6 := hRS.fr hfS6
          have hnS6 := hRS6.n
          have enS6 : S6 30 0 0 = S 30 0 0 := hfS6 30 0 0 (by unfold tR; omega)
          obtain ⟨q15, qX, qY⟩ := hp6
          have hlb2 : S5 46 0 b = S 46 0 b := hfS5 46 0 b (by unfold tR; omega)
          have eW9 : rW S6 = rSl S a ++ rSl S b := (lm_rW hRS5 (by omega) (by omega) (by omega) q15 qX qY).trans (by rw [eWa, rSl_tR hfS5])
          have hwv : WV (S6 53 0) (S6 30 0 14) (S6 30 0 0) := lmWV hRS5 hwv (by omega) (by omega) q15 qX qY (by omega)
          refine kw_aload_n hC dX8_times_54 rfl 0 rfl ?_
          refine kw_iload_n hC dX8_times_55 rfl 3 rfl ?_
          refine kw_callV hC (d_X8_store hD (by omega) (by omega) hRS6 hwv (by omega) (by omega)) gX8_times_X8_store ⟨_, rfl⟩ rfl (by decide) (by decide) rfl ⟨rfl, rfl⟩ 1 (by decide +kernel) ⟨by decide, by decide⟩ rfl rfl (Nat.le_of_ble_eq_true rfl) dX8_times_56 rfl (kd_i (fun r9 Sz hp9 => ?_))
          exact hR9.1 rfl _ _ _ _ dX8_times_59 (by first | (exfalso; omega) | exact ⟨_, rfl, hRS6, tR_tW hfS6, by unfold fTimes; rw [if_neg (by omega), rSl_tR hfS6]⟩ | exact ⟨_, rfl, hRS6, tR_tW hfS6, by unfold fTimes; rw [if_pos (by omega), if_pos (by omega), rSl_tR hfS6]⟩ | exact ⟨_, rfl, hp9.2.1, (tR_tW hfS6).trans (fV_tW hp9.2.2.1), by unfold fTimes; rw [if_pos (by omega), if_neg (by omega)]; exact st_f hRS6 (by omega) (by omega) (by omega) (by omega) hp9 (rSl_tR hfS6) eW9⟩)
        · refine kw_bipush hC dX8_times_41 rfl (by decide) ?_
          exact hR9.1 rfl _ _ _ _ dX8_times_43 (by first | (exfalso; omega) | exact ⟨_, rfl, hRS, tR_tW hfS, by unfold fTimes; rw [if_neg (by omega), rSl_tR hfS]⟩ | exact ⟨_, rfl, hRS, tR_tW hfS, by unfold fTimes; rw [if_pos (by omega), if_pos (by omega), rSl_tR hfS]⟩ | exact ⟨_, rfl, hp9.2.1, (tR_tW hfS).trans (fV_tW hp9.2.2.1), by unfold fTimes; rw [if_pos (by omega), if_neg (by omega)]; exact st_f hRS (by omega) (by omega) (by omega) (by omega) hp9 (rSl_tR hfS) eW9⟩)
      · refine kw_iconst hC dX8_times_21 rfl ?_
        exact hR9.1 rfl _ _ _ _ dX8_times_22 (by first | (exfalso; omega) | exact ⟨_, rfl, hRS, tR_tW hfS, by unfold fTimes; rw [if_neg (by omega), rSl_tR hfS]⟩ | exact ⟨_, rfl, hRS, tR_tW hfS, by unfold fTimes; rw [if_pos (by omega), if_pos (by omega), rSl_tR hfS]⟩ | exact ⟨_, rfl, hp9.2.1, (tR_tW hfS).trans (fV_tW hp9.2.2.1), by unfold fTimes; rw [if_pos (by omega), if_neg (by omega)]; exact st_f hRS (by omega) (by omega) (by omega) (by omega) hp9 (rSl_tR hfS) eW9⟩)

set_option maxHeartbeats 4000000 in
set_option maxRecDepth 100000 in
theorem f_X8_back {g : wG} (hD : wD g) {S : wSt} {a b : Int} (ha : -2147483648 ≤ a ∧ a ≤ 2147483647) (hb : -2147483648 ≤ b ∧ b ≤ 2147483647) (hRS : RI S) (l : Launch) : Kt l yX8_back wsX8_back ({ frames := 2, cells := 0, slots := 0, locals := 45 } : Room) g S [vr g 30 0, vi a, vi b] (pI (fun r S' => RI S' ∧ Fr tW S S' ∧ fBack a b (rSl S) = (r, rSl S'))) := by
  refine Kt.of (cc := cX8_back) (nL := 3) (ret := (some .int)) (own := RX8) rfl hD (by decide) rfl (Nat.le_of_ble_eq_true rfl) ⟨rfl, rfl⟩ ?_
  intro E hC hR9
  show Wk E g 3 S 0 [(0, vr g 30 0), (1, vi a), (2, vi b)] []
  have hfS : Fr tR S S := Fr.rfl _ S
  have hRS := hRS.fr hfS
  have hnS := hRS.n
  have enS : S 30 0 0 = S 30 0 0 := hfS 30 0 0 (by unfold tR; omega)
  have hnS := hRS.n
  have hnn : (rn S : Int) = S 30 0 0 := by unfold rn; omega
  refine kw_iload_n hC dX8_back_0 rfl 1 rfl ?_
  refine kw_callS hC (d_X8_isSlot hD (by omega)) gX8_back_X8_isSlot rfl ⟨rfl, rfl⟩ 1 (by decide +kernel) ⟨by decide, by decide⟩ rfl rfl (Nat.le_of_ble_eq_true rfl) dX8_back_1 rfl (kd_ie ?_)
  refine kw_ifeq_b (tgt := 14) hC dX8_back_4 rfl (by decide) ⟨fun c4 => ?_, fun c4 => ?_⟩
  · refine kw_iconst hC dX8_back_14 rfl ?_
    exact hR9.1 rfl _ _ _ _ dX8_back_15 (by first | (exfalso; omega) | exact ⟨_, rfl, hRS, tR_tW hfS, by unfold fBack; rw [if_neg (by omega), rSl_tR hfS]⟩ | exact ⟨_, rfl, hp9.2.1, (tR_tW hfS).trans (fV_tW hp9.2.2.1), by unfold fBack; rw [if_pos (by omega)]; exact st_f hRS (by omega) (by omega) (by omega) (by omega) hp9 (rSl_tR hfS) eW9⟩)
  · refine kw_iload_n hC dX8_back_7 rfl 2 rfl ?_
    refine kw_callS hC (d_X8_isSlot hD (by omega)) gX8_back_X8_isSlot rfl ⟨rfl, rfl⟩ 1 (by decide +kernel) ⟨by decide, by decide⟩ rfl rfl (Nat.le_of_ble_eq_true rfl) dX8_back_8 rfl (kd_ie ?_)
    refine kw_ifne_b (tgt := 16) hC dX8_back_11 rfl (by decide) ⟨fun c11 => ?_, fun c11 => ?_⟩
    · refine kw_aload_n hC dX8_back_16 rfl 0 rfl ?_
      refine kw_iload_n hC dX8_back_17 rfl 1 rfl ?_
      refine kw_callV hC (d_X8_loadBack hD (by omega) (by omega) hRS) gX8_back_X8_loadBack ⟨_, rfl⟩ rfl (by decide) (by decide) rfl ⟨rfl, rfl⟩ 1 (by decide +kernel) ⟨by decide, by decide⟩ rfl rfl (Nat.le_of_ble_eq_true rfl) dX8_back_18 rfl (kd_v (fun S3 hp3 => ?_))
      obtain ⟨hg3, hp3⟩ := hp3
      have hfS3 : Fr tR S S3 := hfS.trans (hg3.mono (fun k i j h => by unfold fL at h; unfold tR; omega))
      have hRS3 := hRS.fr hfS3
      have hnS3 := hRS3.n
      have enS3 : S3 30 0 0 = S 30 0 0 := hfS3 30 0 0 (by unfold tR; omega)
      obtain ⟨q14, qW⟩ := hp3
      have hwv : WV (S3 53 0) (S3 30 0 14) (S3 30 0 0) := lbWV hRS (by omega) (by omega) q14 qW (by omega)
      have hl3 := hRS.ln a (by omega) (by omega)
      have eW9 : rW S3 = (rSl S a).reverse := lb_rW (by omega) (by omega) q14 qW
      refine kw_aload_n hC dX8_back_21 rfl 0 rfl ?_
      refine kw_iload_n hC dX8_back_22 rfl 2 rfl ?_
      refine kw_callV hC (d_X8_store hD (by omega) (by omega) hRS3 hwv (by omega) (by omega)) gX8_back_X8_store ⟨_, rfl⟩ rfl (by decide) (by decide) rfl ⟨rfl, rfl⟩ 1 (by decide +kernel) ⟨by decide, by decide⟩ rfl rfl (Nat.le_of_ble_eq_true rfl) dX8_back_23 rfl (kd_i (fun r9 Sz hp9 => ?_))
      exact hR9.1 rfl _ _ _ _ dX8_back_26 (by first | (exfalso; omega) | exact ⟨_, rfl, hRS3, tR_tW hfS3, by unfold fBack; rw [if_neg (by omega), rSl_tR hfS3]⟩ | exact ⟨_, rfl, hp9.2.1, (tR_tW hfS3).trans (fV_tW hp9.2.2.1), by unfold fBack; rw [if_pos (by omega)]; exact st_f hRS3 (by omega) (by omega) (by omega) (by omega) hp9 (rSl_tR hfS3) eW9⟩)
    · refine kw_iconst hC dX8_back_14 rfl ?_
      exact hR9.1 rfl _ _ _ _ dX8_back_15 (by first | (exfalso; omega) | exact ⟨_, rfl, hRS, tR_tW hfS, by unfold fBack; rw [if_neg (by omega), rSl_tR hfS]⟩ | exact ⟨_, rfl, hp9.2.1, (tR_tW hfS).trans (fV_tW hp9.2.2.1), by unfold fBack; rw [if_pos (by omega)]; exact st_f hRS (by omega) (by omega) (by omega) (by omega) hp9 (rSl_tR hfS) eW9⟩)

set_option maxHeartbeats 4000000 in
set_option maxRecDepth 100000 in
theorem f_X8_shorten {g : wG} (hD : wD g) {S : wSt} {a b : Int} (ha : -2147483648 ≤ a ∧ a ≤ 2147483647) (hb : -2147483648 ≤ b ∧ b ≤ 2147483647) (hRS : RI S) (l : Launch) : Kt l yX8_shorten wsX8_shorten ({ frames := 4, cells := 0, slots := 0, locals := 93 } : Room) g S [vr g 30 0, vi a, vi b] (pI (fun r S' => RI S' ∧ Fr tW S S' ∧ fShorten (rM S) (rn S) a b (rSl S) = (r, rSl S'))) := by
  refine Kt.of (cc := cX8_shorten) (nL := 3) (ret := (some .int)) (own := RX8) rfl hD (by decide) rfl (Nat.le_of_ble_eq_true rfl) ⟨rfl, rfl⟩ ?_
  intro E hC hR9
  show Wk E g 3 S 0 [(0, vr g 30 0), (1, vi a), (2, vi b)] []
  have hfS : Fr tR S S := Fr.rfl _ S
  have hRS := hRS.fr hfS
  have hnS := hRS.n
  have enS : S 30 0 0 = S 30 0 0 := hfS 30 0 0 (by unfold tR; omega)
  have hnS := hRS.n
  have hnn : (rn S : Int) = S 30 0 0 := by unfold rn; omega
  refine kw_iload_n hC dX8_shorten_0 rfl 1 rfl ?_
  refine kw_callS hC (d_X8_isSlot hD (by omega)) gX8_shorten_X8_isSlot rfl ⟨rfl, rfl⟩ 1 (by decide +kernel) ⟨by decide, by decide⟩ rfl rfl (Nat.le_of_ble_eq_true rfl) dX8_shorten_1 rfl (kd_ie ?_)
  refine kw_ifeq_b (tgt := 14) hC dX8_shorten_4 rfl (by decide) ⟨fun c4 => ?_, fun c4 => ?_⟩
  · refine kw_iconst hC dX8_shorten_14 rfl ?_
    exact hR9.1 rfl _ _ _ _ dX8_shorten_15 (by first | (exfalso; omega) | exact ⟨_, rfl, hRS, tR_tW hfS, by unfold fShorten; rw [if_neg (by omega), rSl_tR hfS]⟩ | exact ⟨_, rfl, hRS, tR_tW hfS, by unfold fShorten; rw [if_pos (by omega), (hsh.resolve_right (fun z => by omega)).2.2, rSl_tR hfS]; rfl⟩ | exact ⟨_, rfl, hp9.2.1, (tR_tW hfS).trans (fV_tW hp9.2.2.1), by unfold fShorten; rw [if_pos (by omega), (hsh.resolve_left (fun z => by omega)).2.2]; exact st_f hRS (by omega) (by omega) (by omega) (by omega) hp9 (rSl_tR hfS) eWR⟩)
  · refine kw_iload_n hC dX8_shorten_7 rfl 2 rfl ?_
    refine kw_callS hC (d_X8_isSlot hD (by omega)) gX8_shorten_X8_isSlot rfl ⟨rfl, rfl⟩ 1 (by decide +kernel) ⟨by decide, by decide⟩ rfl rfl (Nat.le_of_ble_eq_true rfl) dX8_shorten_8 rfl (kd_ie ?_)
    refine kw_ifne_b (tgt := 16) hC dX8_shorten_11 rfl (by decide) ⟨fun c11 => ?_, fun c11 => ?_⟩
    · refine kw_aload_n hC dX8_shorten_16 rfl 0 rfl ?_
      refine kw_iload_n hC dX8_shorten_17 rfl 1 rfl ?_
      refine kw_callV hC (d_X8_load hD (by omega) (by omega) hRS) gX8_shorten_X8_load ⟨_, rfl⟩ rfl (by decide) (by decide) rfl ⟨rfl, rfl⟩ 1 (by decide +kernel) ⟨by decide, by decide⟩ rfl rfl (Nat.le_of_ble_eq_true rfl) dX8_shorten_18 rfl (kd_v (fun S3 hp3 => ?_))
      obtain ⟨hg3, hp3⟩ := hp3
      have hfS3 : Fr tR S S3 := hfS.trans (hg3.mono (fun k i j h => by unfold fL at h; unfold tR; omega))
      have hRS3 := hRS.fr hfS3
      have hnS3 := hRS3.n
      have enS3 : S3 30 0 0 = S 30 0 0 := hfS3 30 0 0 (by unfold tR; omega)
      obtain ⟨q14, qW⟩ := hp3
      have hwv : WV (S3 53 0) (S3 30 0 14) (S3 30 0 0) := ldWV hRS (by omega) (by omega) q14 qW (by omega)
      have hl3 := hRS.ln a (by omega) (by omega)
      have eWa : rW S3 = rSl S a := (ld_rW (by omega) (by omega) q14 qW).trans (by rw [rSl_tR hfS])
      refine kw_aload_n hC dX8_shorten_21 rfl 0 rfl ?_
      refine kw_callV hC (f_X8_shortOf hD hRS3 hwv (by omega) (by omega)) gX8_shorten_X8_shortOf ⟨_, rfl⟩ rfl (by decide) (by decide) rfl ⟨rfl, rfl⟩ 0 (by decide +kernel) ⟨by decide, by decide⟩ rfl rfl (Nat.le_of_ble_eq_true rfl) dX8_shorten_22 rfl (kd_i (fun r4 S4 hp4 => ?_))
      obtain ⟨hg4, hp4⟩ := hp4
      have hfS4 : Fr tR S S4 := hfS3.trans (hg4.mono (fun k i j h => by unfold fS at h; unfold tR; omega))
      have hRS4 := hRS.fr hfS4
      have hnS4 := hRS4.n
      have enS4 : S4 30 0 0 = S 30 0 0 := hfS4 30 0 0 (by unfold tR; omega)
      obtain ⟨⟨r0, r1⟩, hrv, hq4⟩ := hp4
      rw [rM_eq (W := S3) (S := S) (hfS3 30 0 0 (by unfold tR; omega)) (fun j => hfS3 42 0 j (by unfold tR; omega)), rn_eq (W := S3) (S := S) (hfS3 30 0 0 (by unfold tR; omega))] at hq4
      rw [eWa] at hq4
      have hsh := hq4
      replace hrv : WV (S4 47 0) (S4 30 0 8) (S4 30 0 0) := hrv.eq (fun _ _ _ => rfl) rfl (by omega)
      refine kw_if_ne (tgt := 31) hC dX8_shorten_25 rfl (by decide) (by omega) ⟨fun c25 => ?_, fun c25 => ?_⟩
      · refine kw_aload_n hC dX8_shorten_31 rfl 0 rfl ?_
        refine kw_callV hC (d_X8_rToW hD (by omega) (by omega)) gX8_shorten_X8_rToW ⟨_, rfl⟩ rfl (by decide) (by decide) rfl ⟨rfl, rfl⟩ 0 (by decide +kernel) ⟨by decide, by decide⟩ rfl rfl (Nat.le_of_ble_eq_true rfl) dX8_shorten_32 rfl (kd_v (fun S6 hp6 => ?_))
        obtain ⟨hg6, hp6⟩ := hp6
        have hfS6 : Fr tR S S6 := hfS4.trans (hg6.mono (fun k i j h => by unfold fL at h; unfold tR; omega))
        have hRS6 := hRS.fr hfS6
        have hnS6 := hRS6.n
        have enS6 : S6 30 0 0 = S 30 0 0 := hfS6 30 0 0 (by unfold tR; omega)
        obtain ⟨q14, qW⟩ := hp6
        have hwv : WV (S6 53 0) (S6 30 0 14) (S6 30 0 0) := hrv.eq (fun j j0 j1 => qW j j0 (by omega)) q14 (by omega)
        have eWR : rW S6 = rR S4 := wl_eq q14 qW
        refine kw_aload_n hC dX8_shorten_35 rfl 0 rfl ?_
        refine kw_iload_n hC dX8_shorten_36 rfl 2 rfl ?_
        refine kw_callV hC (d_X8_store hD (by omega) (by omega) hRS6 hwv (by omega) (by omega)) gX8_shorten_X8_store ⟨_, rfl⟩ rfl (by decide) (by decide) rfl ⟨rfl, rfl⟩ 1 (by decide +kernel) ⟨by decide, by decide⟩ rfl rfl (Nat.le_of_ble_eq_true rfl) dX8_shorten_37 rfl (kd_i (fun r9 Sz hp9 => ?_))
        exact hR9.1 rfl _ _ _ _ dX8_shorten_40 (by first | (exfalso; omega) | exact ⟨_, rfl, hRS6, tR_tW hfS6, by unfold fShorten; rw [if_neg (by omega), rSl_tR hfS6]⟩ | exact ⟨_, rfl, hRS6, tR_tW hfS6, by unfold fShorten; rw [if_pos (by omega), (hsh.resolve_right (fun z => by omega)).2.2, rSl_tR hfS6]; rfl⟩ | exact ⟨_, rfl, hp9.2.1, (tR_tW hfS6).trans (fV_tW hp9.2.2.1), by unfold fShorten; rw [if_pos (by omega), (hsh.resolve_left (fun z => by omega)).2.2]; exact st_f hRS6 (by omega) (by omega) (by omega) (by omega) hp9 (rSl_tR hfS6) eWR⟩)
      · refine kw_bipush hC dX8_shorten_28 rfl (by decide) ?_
        exact hR9.1 rfl _ _ _ _ dX8_shorten_30 (by first | (exfalso; omega) | exact ⟨_, rfl, hRS4, tR_tW hfS4, by unfold fShorten; rw [if_neg (by omega), rSl_tR hfS4]⟩ | exact ⟨_, rfl, hRS4, tR_tW hfS4, by unfold fShorten; rw [if_pos (by omega), (hsh.resolve_right (fun z => by omega)).2.2, rSl_tR hfS4]; rfl⟩ | exact ⟨_, rfl, hp9.2.1, (tR_tW hfS4).trans (fV_tW hp9.2.2.1), by unfold fShorten; rw [if_pos (by omega), (hsh.resolve_left (fun z => by omega)).2.2]; exact st_f hRS4 (by omega) (by omega) (by omega) (by omega) hp9 (rSl_tR hfS4) eWR⟩)
    · refine kw_iconst hC dX8_shorten_14 rfl ?_
      exact hR9.1 rfl _ _ _ _ dX8_shorten_15 (by first | (exfalso; omega) | exact ⟨_, rfl, hRS, tR_tW hfS, by unfold fShorten; rw [if_neg (by omega), rSl_tR hfS]⟩ | exact ⟨_, rfl, hRS, tR_tW hfS, by unfold fShorten; rw [if_pos (by omega), (hsh.resolve_right (fun z => by omega)).2.2, rSl_tR hfS]; rfl⟩ | exact ⟨_, rfl, hp9.2.1, (tR_tW hfS).trans (fV_tW hp9.2.2.1), by unfold fShorten; rw [if_pos (by omega), (hsh.resolve_left (fun z => by omega)).2.2]; exact st_f hRS (by omega) (by omega) (by omega) (by omega) hp9 (rSl_tR hfS) eWR⟩)

set_option maxHeartbeats 4000000 in
set_option maxRecDepth 100000 in
theorem f_X8_form {g : wG} (hD : wD g) {S : wSt} {a b : Int} (ha : -2147483648 ≤ a ∧ a ≤ 2147483647) (hb : -2147483648 ≤ b ∧ b ≤ 2147483647) (hRS : RI S) (l : Launch) : Kt l yX8_form wsX8_form ({ frames := 5, cells := 0, slots := 0, locals := 114 } : Room) g S [vr g 30 0, vi a, vi b] (pI (fun r S' => RI S' ∧ Fr tW S S' ∧ fForm (rM S) (rn S) a b (rSl S) = (r, rSl S'))) := by
  refine Kt.of (cc := cX8_form) (nL := 3) (ret := (some .int)) (own := RX8) rfl hD (by decide) rfl (Nat.le_of_ble_eq_true rfl) ⟨rfl, rfl⟩ ?_
  intro E hC hR9
  show Wk E g 3 S 0 [(0, vr g 30 0), (1, vi a), (2, vi b)] []
  have hfS : Fr tR S S := Fr.rfl _ S
  have hRS := hRS.fr hfS
  have hnS := hRS.n
  have enS : S 30 0 0 = S 30 0 0 := hfS 30 0 0 (by unfold tR; omega)
  have hnS := hRS.n
  have hnn : (rn S : Int) = S 30 0 0 := by unfold rn; omega
  refine kw_iload_n hC dX8_form_0 rfl 1 rfl ?_
  refine kw_callS hC (d_X8_isSlot hD (by omega)) gX8_form_X8_isSlot rfl ⟨rfl, rfl⟩ 1 (by decide +kernel) ⟨by decide, by decide⟩ rfl rfl (Nat.le_of_ble_eq_true rfl) dX8_form_1 rfl (kd_ie ?_)
  refine kw_ifeq_b (tgt := 14) hC dX8_form_4 rfl (by decide) ⟨fun c4 => ?_, fun c4 => ?_⟩
  · refine kw_iconst hC dX8_form_14 rfl ?_
    exact hR9.1 rfl _ _ _ _ dX8_form_15 (by first | (exfalso; omega) | exact ⟨_, rfl, hRS, tR_tW hfS, by unfold fForm; rw [if_neg (by omega), rSl_tR hfS]⟩ | exact ⟨_, rfl, hRS, tR_tW hfS, by unfold fForm; rw [if_pos (by omega), (hfoa.resolve_right (fun z => by omega)).2.2, rSl_tR hfS]; rfl⟩ | exact ⟨_, rfl, hp9.2.1, (tR_tW hfS).trans (fV_tW hp9.2.2.1), by unfold fForm; rw [if_pos (by omega), (hfoa.resolve_left (fun z => by omega)).2.2]; exact st_f hRS (by omega) (by omega) (by omega) (by omega) hp9 (rSl_tR hfS) rfl⟩)
  · refine kw_iload_n hC dX8_form_7 rfl 2 rfl ?_
    refine kw_callS hC (d_X8_isSlot hD (by omega)) gX8_form_X8_isSlot rfl ⟨rfl, rfl⟩ 1 (by decide +kernel) ⟨by decide, by decide⟩ rfl rfl (Nat.le_of_ble_eq_true rfl) dX8_form_8 rfl (kd_ie ?_)
    refine kw_ifne_b (tgt := 16) hC dX8_form_11 rfl (by decide) ⟨fun c11 => ?_, fun c11 => ?_⟩
    · refine kw_aload_n hC dX8_form_16 rfl 0 rfl ?_
      refine kw_iload_n hC dX8_form_17 rfl 1 rfl ?_
      refine kw_callV hC (d_X8_load hD (by omega) (by omega) hRS) gX8_form_X8_load ⟨_, rfl⟩ rfl (by decide) (by decide) rfl ⟨rfl, rfl⟩ 1 (by decide +kernel) ⟨by decide, by decide⟩ rfl rfl (Nat.le_of_ble_eq_true rfl) dX8_form_18 rfl (kd_v (fun S3 hp3 => ?_))
      obtain ⟨hg3, hp3⟩ := hp3
      have hfS3 : Fr tR S S3 := hfS.trans (hg3.mono (fun k i j h => by unfold fL at h; unfold tR; omega))
      have hRS3 := hRS.fr hfS3
      have hnS3 := hRS3.n
      have enS3 : S3 30 0 0 = S 30 0 0 := hfS3 30 0 0 (by unfold tR; omega)
      obtain ⟨q14, qW⟩ := hp3
      have hwv : WV (S3 53 0) (S3 30 0 14) (S3 30 0 0) := ldWV hRS (by omega) (by omega) q14 qW (by omega)
      have hl3 := hRS.ln a (by omega) (by omega)
      have eWa : rW S3 = rSl S a := (ld_rW (by omega) (by omega) q14 qW).trans (by rw [rSl_tR hfS])
      refine kw_aload_n hC dX8_form_21 rfl 0 rfl ?_
      refine kw_callV hC (f_X8_formOfW hD hRS3 hwv (by omega) (by omega)) gX8_form_X8_formOfW ⟨_, rfl⟩ rfl (by decide) (by decide) rfl ⟨rfl, rfl⟩ 0 (by decide +kernel) ⟨by decide, by decide⟩ rfl rfl (Nat.le_of_ble_eq_true rfl) dX8_form_22 rfl (kd_i (fun r4 S4 hp4 => ?_))
      obtain ⟨hg4, hp4⟩ := hp4
      have hfS4 : Fr tR S S4 := hfS3.trans (hg4.mono (fun k i j h => by unfold fW at h; unfold tR; omega))
      have hRS4 := hRS.fr hfS4
      have hnS4 := hRS4.n
      have enS4 : S4 30 0 0 = S 30 0 0 := hfS4 30 0 0 (by unfold tR; omega)
      obtain ⟨⟨w0, w1⟩, hwv, hq4⟩ := hp4
      rw [rM_eq (W := S3) (S := S) (hfS3 30 0 0 (by unfold tR; omega)) (fun j => hfS3 42 0 j (by unfold tR; omega)), rn_eq (W := S3) (S := S) (hfS3 30 0 0 (by unfold tR; omega))] at hq4
      rw [eWa] at hq4
      have hfoa := hq4
      replace hwv : WV (S4 53 0) (S4 30 0 14) (S4 30 0 0) := hwv.eq (fun _ _ _ => rfl) rfl (by omega)
      refine kw_if_eq (tgt := 36) hC dX8_form_25 rfl (by decide) (by omega) ⟨fun c25 => ?_, fun c25 => ?_⟩
      · refine kw_bipush hC dX8_form_36 rfl (by decide) ?_
        exact hR9.1 rfl _ _ _ _ dX8_form_38 (by first | (exfalso; omega) | exact ⟨_, rfl, hRS4, tR_tW hfS4, by unfold fForm; rw [if_neg (by omega), rSl_tR hfS4]⟩ | exact ⟨_, rfl, hRS4, tR_tW hfS4, by unfold fForm; rw [if_pos (by omega), (hfoa.resolve_right (fun z => by omega)).2.2, rSl_tR hfS4]; rfl⟩ | exact ⟨_, rfl, hp9.2.1, (tR_tW hfS4).trans (fV_tW hp9.2.2.1), by unfold fForm; rw [if_pos (by omega), (hfoa.resolve_left (fun z => by omega)).2.2]; exact st_f hRS4 (by omega) (by omega) (by omega) (by omega) hp9 (rSl_tR hfS4) rfl⟩)
      · refine kw_aload_n hC dX8_form_28 rfl 0 rfl ?_
        refine kw_iload_n hC dX8_form_29 rfl 2 rfl ?_
        refine kw_callV hC (d_X8_store hD (by omega) (by omega) hRS4 hwv (by omega) (by omega)) gX8_form_X8_store ⟨_, rfl⟩ rfl (by decide) (by decide) rfl ⟨rfl, rfl⟩ 1 (by decide +kernel) ⟨by decide, by decide⟩ rfl rfl (Nat.le_of_ble_eq_true rfl) dX8_form_30 rfl (kd_i (fun r9 Sz hp9 => ?_))
        refine kw_goto (tgt := 38) hC dX8_form_33 rfl (by decide) ?_
        exact hR9.1 rfl _ _ _ _ dX8_form_38 (by first | (exfalso; omega) | exact ⟨_, rfl, hRS4, tR_tW hfS4, by unfold fForm; rw [if_neg (by omega), rSl_tR hfS4]⟩ | exact ⟨_, rfl, hRS4, tR_tW hfS4, by unfold fForm; rw [if_pos (by omega), (hfoa.resolve_right (fun z => by omega)).2.2, rSl_tR hfS4]; rfl⟩ | exact ⟨_, rfl, hp9.2.1, (tR_tW hfS4).trans (fV_tW hp9.2.2.1), by unfold fForm; rw [if_pos (by omega), (hfoa.resolve_left (fun z => by omega)).2.2]; exact st_f hRS4 (by omega) (by omega) (by omega) (by omega) hp9 (rSl_tR hfS4) rfl⟩)
    · refine kw_iconst hC dX8_form_14 rfl ?_
      exact hR9.1 rfl _ _ _ _ dX8_form_15 (by first | (exfalso; omega) | exact ⟨_, rfl, hRS, tR_tW hfS, by unfold fForm; rw [if_neg (by omega), rSl_tR hfS]⟩ | exact ⟨_, rfl, hRS, tR_tW hfS, by unfold fForm; rw [if_pos (by omega), (hfoa.resolve_right (fun z => by omega)).2.2, rSl_tR hfS]; rfl⟩ | exact ⟨_, rfl, hp9.2.1, (tR_tW hfS).trans (fV_tW hp9.2.2.1), by unfold fForm; rw [if_pos (by omega), (hfoa.resolve_left (fun z => by omega)).2.2]; exact st_f hRS (by omega) (by omega) (by omega) (by omega) hp9 (rSl_tR hfS) rfl⟩)

set_option maxHeartbeats 4000000 in
set_option maxRecDepth 100000 in
theorem f_X8_without {g : wG} (hD : wD g) {S : wSt} {a b : Int} (ha : -2147483648 ≤ a ∧ a ≤ 2147483647) (hb : -2147483648 ≤ b ∧ b ≤ 2147483647) (hRS : RI S) (l : Launch) : Kt l yX8_without wsX8_without ({ frames := 2, cells := 0, slots := 0, locals := 45 } : Room) g S [vr g 30 0, vi a, vi b] (pI (fun r S' => RI S' ∧ Fr tW S S' ∧ fWithout (rK S) a b (rSl S) = (r, rSl S'))) := by
  refine Kt.of (cc := cX8_without) (nL := 5) (ret := (some .int)) (own := RX8) rfl hD (by decide) rfl (Nat.le_of_ble_eq_true rfl) ⟨rfl, rfl⟩ ?_
  intro E hC hR9
  have f14 : Cond.fieldLink RX8 14 "MirrorBenchModel" "kinds" "[I" ∈ wsX8_without := by decide +kernel
  have f43 : Cond.fieldLink RX8 43 "MirrorBenchModel" "lengths" "[I" ∈ wsX8_without := by decide +kernel
  have f52 : Cond.fieldLink RX8 52 "MirrorBenchModel" "words" "[I" ∈ wsX8_without := by decide +kernel
  have f57 : Cond.fieldLink RX8 57 "MirrorBenchModel" "wMany" "I" ∈ wsX8_without := by decide +kernel
  have f60 : Cond.fieldLink RX8 60 "MirrorBenchModel" "w" "[I" ∈ wsX8_without := by decide +kernel
  have w8 : ∀ w ∈ wsX80, w ∈ wsX8_without := by decide +kernel
  show Wk E g 5 S 0 [(0, vr g 30 0), (1, vi a), (2, vi b)] []
  have hfS : Fr tR S S := Fr.rfl _ S
  have hRS := hRS.fr hfS
  have hnS := hRS.n
  have enS : S 30 0 0 = S 30 0 0 := hfS 30 0 0 (by unfold tR; omega)
  have hnS := hRS.n
  have hnn : (rn S : Int) = S 30 0 0 := by unfold rn; omega
  refine kw_iload_n hC dX8_without_0 rfl 1 rfl ?_
  refine kw_callS hC (d_X8_isSlot hD (by omega)) gX8_without_X8_isSlot rfl ⟨rfl, rfl⟩ 1 (by decide +kernel) ⟨by decide, by decide⟩ rfl rfl (Nat.le_of_ble_eq_true rfl) dX8_without_1 rfl (kd_ie ?_)
  refine kw_ifeq_b (tgt := 14) hC dX8_without_4 rfl (by decide) ⟨fun c4 => ?_, fun c4 => ?_⟩
  · refine kw_iconst hC dX8_without_14 rfl ?_
    exact hR9.1 rfl _ _ _ _ dX8_without_15 (by first | (exfalso; omega) | exact ⟨_, rfl, hRS, tR_tW hfS, by unfold fWithout; rw [if_neg (by omega), rSl_tR hfS]⟩ | exact ⟨_, rfl, hp9.2.1, (tR_tW hfS).trans (fV_tW hp9.2.2.1), by unfold fWithout; rw [if_pos (by omega)]; exact st_f hRS (by omega) (by omega) (by omega) (by omega) hp9 (rSl_tR hfS) (hF.trans (by rw [List.take_of_length_le (by omega)]))⟩)
  · refine kw_iload_n hC dX8_without_7 rfl 2 rfl ?_
    refine kw_callS hC (d_X8_isSlot hD (by omega)) gX8_without_X8_isSlot rfl ⟨rfl, rfl⟩ 1 (by decide +kernel) ⟨by decide, by decide⟩ rfl rfl (Nat.le_of_ble_eq_true rfl) dX8_without_8 rfl (kd_ie ?_)
    refine kw_ifne_b (tgt := 16) hC dX8_without_11 rfl (by decide) ⟨fun c11 => ?_, fun c11 => ?_⟩
    · have hla := hRS.ln a (by omega) (by omega)
      have hLa := rSl_len hRS (a := a) (by omega) (by omega)
      refine kw_aload_n hC dX8_without_16 rfl 0 rfl ?_
      refine kw_iconst hC dX8_without_17 rfl ?_
      refine kp_30_14 hC w8 f57 dX8_without_18 rfl (by decide) (by decide) ?_
      refine kw_hv hfS (by unfold tR; omega) (fun S3 hfS3 hv3 ho3 => ?_)
      have hRS3 := hRS.fr hfS3
      have hnS3 := hRS3.n
      have enS3 : S3 30 0 0 = S 30 0 0 := hfS3 30 0 0 (by unfold tR; omega)
      refine kw_iconst hC dX8_without_21 rfl ?_
      refine kw_istore_n (lv' := [(3, _), (0, _), (1, _), (2, _)]) hC dX8_without_22 rfl (by decide) rfl ?_
      have hL23 : ∀ (n23 : Nat) (x : Int) (W23 : wSt), Fr tR S W23 → (0 ≤ x) → (x ≤ S 46 0 a) → (0 ≤ W23 30 0 14) → (W23 30 0 14 ≤ x) → (WV (W23 53 0) (W23 30 0 14) (S 30 0 0)) → (rW W23 = ((rSl S a).take x.toNat).filter (fun s => decide (rK S s ≠ 2))) → S 46 0 a - x < (n23 : Int) → Wk E g 5 W23 23 [(0, vr g 30 0), (1, vi a), (2, vi b), (3, vi x)] [] := by
        intro n23
        induction n23 with
        | zero => intro x W23 hfW23 hx0 hx1 w0 w1 hwv hF hm23; exact absurd hm23 (by omega)
        | succ n23 ih23 =>
          intro x W23 hfW23 hx0 hx1 w0 w1 hwv hF hm23
          have hRW23 := hRS.fr hfW23
          have hnW23 := hRW23.n
          have enW23 : W23 30 0 0 = S 30 0 0 := hfW23 30 0 0 (by unfold tR; omega)
          have hla2 : W23 46 0 a = S 46 0 a := hfW23 46 0 a (by unfold tR; omega)
          refine kw_iload_n hC dX8_without_23 rfl 3 rfl ?_
          refine kw_aload_n hC dX8_without_24 rfl 0 rfl ?_
          refine kg_30_6 hC w8 f43 dX8_without_25 rfl (by decide) (by decide) ?_
          refine kw_iload_n hC dX8_without_28 rfl 1 rfl ?_
          refine ka_46 hC dX8_without_29 rfl (by decide) (by decide) (by omega) (by omega) ?_
          refine kw_icmp_ge (tgt := 84) hC dX8_without_30 rfl (by decide) (by omega) (by omega) ⟨fun c30 => ?_, fun c30 => ?_⟩
          · refine kw_aload_n hC dX8_without_84 rfl 0 rfl ?_
            refine kw_iload_n hC dX8_without_85 rfl 2 rfl ?_
            refine kw_callV hC (d_X8_store hD (by omega) (by omega) hRW23 (hwv.eq (fun _ _ _ => rfl) rfl enW23) (by omega) (by omega)) gX8_without_X8_store ⟨_, rfl⟩ rfl (by decide) (by decide) rfl ⟨rfl, rfl⟩ 1 (by decide +kernel) ⟨by decide, by decide⟩ rfl rfl (Nat.le_of_ble_eq_true rfl) dX8_without_86 rfl (kd_i (fun r9 Sz hp9 => ?_))
            exact hR9.1 rfl _ _ _ _ dX8_without_89 (by first | (exfalso; omega) | exact ⟨_, rfl, hRW23, tR_tW hfW23, by unfold fWithout; rw [if_neg (by omega), rSl_tR hfW23]⟩ | exact ⟨_, rfl, hp9.2.1, (tR_tW hfW23).trans (fV_tW hp9.2.2.1), by unfold fWithout; rw [if_pos (by omega)]; exact st_f hRW23 (by omega) (by omega) (by omega) (by omega) hp9 (rSl_tR hfW23) (hF.trans (by rw [List.take_of_length_le (by omega)]))⟩)
          · refine kw_aload_n hC dX8_without_33 rfl 0 rfl ?_
            refine kg_30_5 hC w8 f52 dX8_without_34 rfl (by decide) (by decide) ?_
            refine kw_bipush hC dX8_without_37 rfl (by decide) ?_
            refine kw_iload_n hC dX8_without_39 rfl 1 rfl ?_
            refine kw_imul hC dX8_without_40 rfl ?_
            refine kw_iload_n hC dX8_without_41 rfl 3 rfl ?_
            refine kw_iadd hC dX8_without_42 rfl ?_
            refine ka_45 hC dX8_without_43 rfl (by decide) (by decide) (by omega) (by omega) ?_
            have hlt := hRW23.lt a x (by omega) (by omega) (by omega) (by omega)
            have eg : (rSl S a).getD x.toNat 0 = (W23 45 0 (100 * a + x)).toNat := by rw [rSl_get (by omega) (by omega) hx0 (by omega), hfW23 45 0 _ (by unfold tR; omega)]
            have ek : rK S (W23 45 0 (100 * a + x)).toNat = W23 41 0 (W23 45 0 (100 * a + x)) := by unfold rK clK; rw [if_pos (by omega), Int.toNat_of_nonneg hlt.1, hfW23 41 0 _ (by unfold tR; omega)]
            refine kw_istore (lv' := [(4, _), (0, _), (1, _), (2, _), (3, _)]) hC dX8_without_44 rfl (by decide) rfl ?_
            refine kw_aload_n hC dX8_without_46 rfl 1 rfl ?_
            refine kg_30_1 hC w8 f14 dX8_without_47 rfl (by decide) (by decide) ?_
            refine kw_iload hC dX8_without_50 rfl 0 rfl ?_
            refine ka_41 hC dX8_without_52 rfl (by decide) (by decide) (by omega) (by omega) ?_
            have hkd := hRW23.kd (W23 45 0 (100 * a + x)) (by omega) (by omega)
            refine kw_iconst hC dX8_without_53 rfl ?_
            refine kw_icmp_eq (tgt := 78) hC dX8_without_54 rfl (by decide) (by omega) (by omega) ⟨fun c54 => ?_, fun c54 => ?_⟩
            · refine kw_iinc (lv' := [(3, _), (4, _), (0, _), (1, _), (2, _)]) hC dX8_without_78 rfl 4 rfl (by decide) rfl ?_
              refine kw_goto (tgt := 23) hC dX8_without_81 rfl (by decide) ?_
              refine kw_lv [2, 3, 4, 0] rfl ?_
              exact ih23 (x + 1) W23 hfW23 (by omega) (by omega) (by omega) (by omega) hwv (by rw [show (x + 1).toNat = x.toNat + 1 by omega, take_s (by omega), List.filter_append, eg]; first | (rw [List.filter_cons_of_pos (by rw [ek]; exact decide_eq_true (by omega))]; rw [eB, hF]; rfl) | (rw [List.filter_cons_of_neg (by rw [ek]; exact fun q => absurd (of_decide_eq_true q) (by omega))]; rw [hF]; simp)) (by omega)
            · refine kw_aload_n hC dX8_without_57 rfl 1 rfl ?_
              refine kg_30_13 hC w8 f60 dX8_without_58 rfl (by decide) (by decide) ?_
              refine kw_aload_n hC dX8_without_61 rfl 1 rfl ?_
              refine kg_30_14 hC w8 f57 dX8_without_62 rfl (by decide) (by decide) ?_
              refine kw_iload hC dX8_without_65 rfl 0 rfl ?_
              refine ks_53 hC dX8_without_67 rfl (by decide) (by decide) (by omega) (by omega) ?_
              refine kw_hv hfW23 (by unfold tR; omega) (fun S6 hfS6 hv6 ho6 => ?_)
              have hRS6 := hRS.fr hfS6
              have hnS6 := hRS6.n
              have enS6 : S6 30 0 0 = S 30 0 0 := hfS6 30 0 0 (by unfold tR; omega)
              have w14 : S6 30 0 14 = W23 30 0 14 := ho6 30 0 14 (by omega)
              have hw1 : WV (S6 53 0) (W23 30 0 14 + 1) (S 30 0 0) := hwv.add (fun j hj => ho6 53 0 j (by omega)) (by rw [hv6]; omega)
              have eA : wl (S6 53 0) (W23 30 0 14 + 1).toNat = rW W23 ++ [_] := wl_add (by omega) (fun j _ _ => ho6 53 0 j (by omega)) hv6
              refine kw_aload_n hC dX8_without_68 rfl 1 rfl ?_
              refine kw_dup hC dX8_without_69 rfl rfl ?_
              refine kg_30_14 hC w8 f57 dX8_without_70 rfl (by decide) (by decide) ?_
              refine kw_iconst hC dX8_without_73 rfl ?_
              refine kw_iadd hC dX8_without_74 rfl ?_
              refine kp_30_14 hC w8 f57 dX8_without_75 rfl (by decide) (by decide) ?_
              refine kw_hv hfS6 (by unfold tR; omega) (fun S7 hfS7 hv7 ho7 => ?_)
              have hRS7 := hRS.fr hfS7
              have hnS7 := hRS7.n
              have enS7 : S7 30 0 0 = S 30 0 0 := hfS7 30 0 0 (by unfold tR; omega)
              have hwv : WV (S7 53 0) (S7 30 0 14) (S 30 0 0) := hw1.eq (fun j _ _ => ho7 53 0 j (by omega)) (by have := hv7; omega) rfl
              have x14 := hv7
              have eB : rW S7 = _ := (wl_eq (by omega) (fun j _ _ => ho7 53 0 j (by omega))).trans eA
              refine kw_iinc (lv' := [(3, _), (4, _), (0, _), (1, _), (2, _)]) hC dX8_without_78 rfl 4 rfl (by decide) rfl ?_
              refine kw_goto (tgt := 23) hC dX8_without_81 rfl (by decide) ?_
              refine kw_lv [2, 3, 4, 0] rfl ?_
              exact ih23 (x + 1) S7 hfS7 (by omega) (by omega) (by omega) (by omega) hwv (by rw [show (x + 1).toNat = x.toNat + 1 by omega, take_s (by omega), List.filter_append, eg]; first | (rw [List.filter_cons_of_pos (by rw [ek]; exact decide_eq_true (by omega))]; rw [eB, hF]; rfl) | (rw [List.filter_cons_of_neg (by rw [ek]; exact fun q => absurd (of_decide_eq_true q) (by omega))]; rw [hF]; simp)) (by omega)
      refine kw_lv [1, 2, 3, 0] rfl ?_
      exact hL23 101 0 S3 hfS3 (by omega) (by omega) (by have := hv3; omega) (by have := hv3; omega) (fun j j0 j1 => by have := hv3; omega) (by unfold rW; rw [hv3]; rfl) (by omega)
    · refine kw_iconst hC dX8_without_14 rfl ?_
      exact hR9.1 rfl _ _ _ _ dX8_without_15 (by first | (exfalso; omega) | exact ⟨_, rfl, hRS, tR_tW hfS, by unfold fWithout; rw [if_neg (by omega), rSl_tR hfS]⟩ | exact ⟨_, rfl, hp9.2.1, (tR_tW hfS).trans (fV_tW hp9.2.2.1), by unfold fWithout; rw [if_pos (by omega)]; exact st_f hRS (by omega) (by omega) (by omega) (by omega) hp9 (rSl_tR hfS) (hF.trans (by rw [List.take_of_length_le (by omega)]))⟩)

set_option maxHeartbeats 4000000 in
set_option maxRecDepth 100000 in
theorem f_X8_cut {g : wG} (hD : wD g) {S : wSt} {a b : Int} (ha : -2147483648 ≤ a ∧ a ≤ 2147483647) (hb : -2147483648 ≤ b ∧ b ≤ 2147483647) (hRS : RI S) (l : Launch) : Kt l yX8_cut wsX8_cut ({ frames := 2, cells := 0, slots := 0, locals := 45 } : Room) g S [vr g 30 0, vi a, vi b] (pI (fun r S' => RI S' ∧ Fr tW S S' ∧ fCut a b (rSl S) = (r, rSl S'))) := by
  refine Kt.of (cc := cX8_cut) (nL := 5) (ret := (some .int)) (own := RX8) rfl hD (by decide) rfl (Nat.le_of_ble_eq_true rfl) ⟨rfl, rfl⟩ ?_
  intro E hC hR9
  have f43 : Cond.fieldLink RX8 43 "MirrorBenchModel" "lengths" "[I" ∈ wsX8_cut := by decide +kernel
  have f52 : Cond.fieldLink RX8 52 "MirrorBenchModel" "words" "[I" ∈ wsX8_cut := by decide +kernel
  have w8 : ∀ w ∈ wsX80, w ∈ wsX8_cut := by decide +kernel
  show Wk E g 5 S 0 [(0, vr g 30 0), (1, vi a), (2, vi b)] []
  have hfS : Fr fV S S := Fr.rfl _ S
  have hnS := hRS.n
  have hnn : (rn S : Int) = S 30 0 0 := by unfold rn; omega
  refine kw_iload_n hC dX8_cut_0 rfl 1 rfl ?_
  refine kw_callS hC (d_X8_isSlot hD (by omega)) gX8_cut_X8_isSlot rfl ⟨rfl, rfl⟩ 1 (by decide +kernel) ⟨by decide, by decide⟩ rfl rfl (Nat.le_of_ble_eq_true rfl) dX8_cut_1 rfl (kd_ie ?_)
  refine kw_ifeq_b (tgt := 25) hC dX8_cut_4 rfl (by decide) ⟨fun c4 => ?_, fun c4 => ?_⟩
  · refine kw_iconst hC dX8_cut_25 rfl ?_
    exact hR9.1 rfl _ _ _ _ dX8_cut_26 (by first | (exfalso; omega) | exact ⟨_, rfl, hRS, Fr.rfl _ S, by unfold fCut; rw [if_neg (by omega)]⟩ | exact ⟨_, rfl, hRS, Fr.rfl _ S, by unfold fCut; rw [if_pos (by omega), if_pos (by rw [hg1, hg2]; omega)]⟩ | exact ⟨_, rfl, hw9, fV_tW hfS, by unfold fCut; rw [if_pos (by omega), if_neg (by rw [hg1, hg2]; omega), hst]; exact Prod.ext (by show _ = _; omega) rfl⟩)
  · have hla := hRS.ln a (by omega) (by omega)
    have hLa := rSl_len hRS (a := a) (by omega) (by omega)
    refine kw_iload_n hC dX8_cut_7 rfl 2 rfl ?_
    refine kw_i2l hC dX8_cut_8 rfl (by omega) ?_
    refine kw_lconst (z := 0) hC dX8_cut_9 rfl rfl ?_
    refine kw_aload_n hC dX8_cut_10 rfl 0 rfl ?_
    refine kg_30_6 hC w8 f43 dX8_cut_11 rfl (by decide) (by decide) ?_
    refine kw_iload_n hC dX8_cut_14 rfl 1 rfl ?_
    refine ka_46 hC dX8_cut_15 rfl (by decide) (by decide) (by omega) (by omega) ?_
    refine kw_iconst hC dX8_cut_16 rfl ?_
    refine kw_isub hC dX8_cut_17 rfl ?_
    refine kw_i2l hC dX8_cut_18 rfl (by omega) ?_
    refine kw_callS hC (d_X8_in hD (by omega) (by omega) (by omega)) gX8_cut_X8_in rfl ⟨rfl, rfl⟩ 3 (by decide +kernel) ⟨by decide, by decide⟩ rfl rfl (Nat.le_of_ble_eq_true rfl) dX8_cut_19 rfl (kd_ie ?_)
    refine kw_ifne_b (tgt := 27) hC dX8_cut_22 rfl (by decide) ⟨fun c22 => ?_, fun c22 => ?_⟩
    · refine kw_bipush hC dX8_cut_27 rfl (by decide) ?_
      refine kw_iload_n hC dX8_cut_29 rfl 1 rfl ?_
      refine kw_imul hC dX8_cut_30 rfl ?_
      refine kw_iload_n hC dX8_cut_31 rfl 2 rfl ?_
      refine kw_iadd hC dX8_cut_32 rfl ?_
      refine kw_istore_n (lv' := [(3, _), (0, _), (1, _), (2, _)]) hC dX8_cut_33 rfl (by decide) rfl ?_
      have hl1 := hRS.lt a b (by omega) (by omega) (by omega) (by omega)
      have hl2 := hRS.lt a (b + 1) (by omega) (by omega) (by omega) (by omega)
      have hg1 := rSl_get (S := S) (a := a) (k := b) (by omega) (by omega) (by omega) (by omega)
      have hg2 := rSl_get (S := S) (a := a) (k := b + 1) (by omega) (by omega) (by omega) (by omega)
      rw [← Int.add_assoc] at hl2 hg2
      refine kw_aload_n hC dX8_cut_34 rfl 1 rfl ?_
      refine kg_30_5 hC w8 f52 dX8_cut_35 rfl (by decide) (by decide) ?_
      refine kw_iload_n hC dX8_cut_38 rfl 0 rfl ?_
      refine ka_45 hC dX8_cut_39 rfl (by decide) (by decide) (by omega) (by omega) ?_
      refine kw_aload_n hC dX8_cut_40 rfl 1 rfl ?_
      refine kg_30_5 hC w8 f52 dX8_cut_41 rfl (by decide) (by decide) ?_
      refine kw_iload_n hC dX8_cut_44 rfl 0 rfl ?_
      refine kw_iconst hC dX8_cut_45 rfl ?_
      refine kw_iadd hC dX8_cut_46 rfl ?_
      refine ka_45 hC dX8_cut_47 rfl (by decide) (by decide) (by omega) (by omega) ?_
      refine kw_icmp_eq (tgt := 54) hC dX8_cut_48 rfl (by decide) (by omega) (by omega) ⟨fun c48 => ?_, fun c48 => ?_⟩
      · refine kw_iload_n hC dX8_cut_54 rfl 3 rfl ?_
        refine kw_istore (lv' := [(4, _), (3, _), (0, _), (1, _), (2, _)]) hC dX8_cut_55 rfl (by decide) rfl ?_
        have hL57 : ∀ (n57 : Nat) (x : Int) (W57 : wSt), Fr fV S W57 → (b ≤ x) → (x ≤ 100) → (x ≤ S 46 0 a - 2) → (W57 46 0 a = S 46 0 a) → (WdO (S 30 0 0) W57) → (∀ s, s ≠ a → W57 46 0 s = S 46 0 s) → (∀ j, b ≤ j → j < x → W57 45 0 (100 * a + j) = S 45 0 (100 * a + (j + 2))) → (∀ j, ¬ (100 * a + b ≤ j ∧ j < 100 * a + x) → W57 45 0 j = S 45 0 j) → 100 - x < (n57 : Int) → Wk E g 5 W57 57 [(0, vr g 30 0), (1, vi a), (2, vi b), (3, vi (100 * a + b)), (4, vi x)] [] := by
          intro n57
          induction n57 with
          | zero => intro x W57 hfW57 hx0 hx1 hx2 q46 hW h46 h43 h45 hm57; exact absurd hm57 (by omega)
          | succ n57 ih57 =>
            intro x W57 hfW57 hx0 hx1 hx2 q46 hW h46 h43 h45 hm57
            refine kw_iload hC dX8_cut_57 rfl 4 rfl ?_
            refine kw_iconst hC dX8_cut_59 rfl ?_
            refine kw_iadd hC dX8_cut_60 rfl ?_
            refine kw_aload_n hC dX8_cut_61 rfl 0 rfl ?_
            refine kg_30_6 hC w8 f43 dX8_cut_62 rfl (by decide) (by decide) ?_
            refine kw_iload_n hC dX8_cut_65 rfl 1 rfl ?_
            refine ka_46 hC dX8_cut_66 rfl (by decide) (by decide) (by omega) (by omega) ?_
            refine kw_icmp_ge (tgt := 102) hC dX8_cut_67 rfl (by decide) (by omega) (by omega) ⟨fun c67 => ?_, fun c67 => ?_⟩
            · refine kw_aload_n hC dX8_cut_102 rfl 0 rfl ?_
              refine kg_30_6 hC w8 f43 dX8_cut_103 rfl (by decide) (by decide) ?_
              refine kw_iload_n hC dX8_cut_106 rfl 1 rfl ?_
              refine kw_dup2 hC dX8_cut_107 rfl rfl rfl ?_
              refine ka_46 hC dX8_cut_108 rfl (by decide) (by decide) (by omega) (by omega) ?_
              refine kw_chi (z' := S 46 0 a) q46 ?_
              refine kw_iconst hC dX8_cut_109 rfl ?_
              refine kw_isub hC dX8_cut_110 rfl ?_
              refine ks_46 hC dX8_cut_111 rfl (by decide) (by decide) (by omega) (by omega) ?_
              refine kw_hv hfW57 (by unfold fV; omega) (fun S5 hfS5 hv5 ho5 => ?_)
              have hw9 := hRS.wd hfS5 (hW.len (a := a) (fun j => ho5 45 0 j (by omega)) (fun s hs => ho5 46 0 s (by omega)) (by omega) (fun k k0 k1 => by rw [hv5] at k1; exact hW.2 a k (by omega) (by omega) k0 (by omega)))
              have hz9 := hv5
              have hst : rSl S5 = upw (rSl S) a (((rSl S a).eraseIdx b.toNat).eraseIdx b.toNat) := by rw [rSl_st hRS (W := S5) (m := S 46 0 a - 2) (f := fun j => W57 45 0 (100 * a + j)) (by omega) (by omega) (by omega) (fun s hs => (ho5 46 0 s (by omega)).trans (h46 s hs)) (fun j _ _ => ho5 45 0 _ (by omega)) (fun j hj => (ho5 45 0 j (by omega)).trans (h45 j (by omega))), rSl_at (by omega) (by omega)]; congr 1; exact wl_del2 (f := fun j => S 45 0 (100 * a + j)) (by omega) (by omega) (fun j j0 j1 => h45 _ (by omega)) (fun j j0 j1 => by show W57 45 0 (100 * a + j) = S 45 0 (100 * a + (j + 2)); rw [h43 j j0 (by omega)])
              refine kw_aload_n hC dX8_cut_112 rfl 0 rfl ?_
              refine kg_30_6 hC w8 f43 dX8_cut_113 rfl (by decide) (by decide) ?_
              refine kw_iload_n hC dX8_cut_116 rfl 1 rfl ?_
              refine ka_46 hC dX8_cut_117 rfl (by decide) (by decide) (by omega) (by omega) ?_
              exact hR9.1 rfl _ _ _ _ dX8_cut_118 (by first | (exfalso; omega) | exact ⟨_, rfl, hRS, Fr.rfl _ S, by unfold fCut; rw [if_neg (by omega)]⟩ | exact ⟨_, rfl, hRS, Fr.rfl _ S, by unfold fCut; rw [if_pos (by omega), if_pos (by rw [hg1, hg2]; omega)]⟩ | exact ⟨_, rfl, hw9, fV_tW hfS5, by unfold fCut; rw [if_pos (by omega), if_neg (by rw [hg1, hg2]; omega), hst]; exact Prod.ext (by show _ = _; omega) rfl⟩)
            · have hl3 := hW.2 a (x + 2) (by omega) (by omega) (by omega) (by omega)
              rw [← Int.add_assoc] at hl3
              refine kw_aload_n hC dX8_cut_70 rfl 0 rfl ?_
              refine kg_30_5 hC w8 f52 dX8_cut_71 rfl (by decide) (by decide) ?_
              refine kw_bipush hC dX8_cut_74 rfl (by decide) ?_
              refine kw_iload_n hC dX8_cut_76 rfl 1 rfl ?_
              refine kw_imul hC dX8_cut_77 rfl ?_
              refine kw_iload hC dX8_cut_78 rfl 4 rfl ?_
              refine kw_iadd hC dX8_cut_80 rfl ?_
              refine kw_aload_n hC dX8_cut_81 rfl 0 rfl ?_
              refine kg_30_5 hC w8 f52 dX8_cut_82 rfl (by decide) (by decide) ?_
              refine kw_bipush hC dX8_cut_85 rfl (by decide) ?_
              refine kw_iload_n hC dX8_cut_87 rfl 1 rfl ?_
              refine kw_imul hC dX8_cut_88 rfl ?_
              refine kw_iload hC dX8_cut_89 rfl 4 rfl ?_
              refine kw_iadd hC dX8_cut_91 rfl ?_
              refine kw_iconst hC dX8_cut_92 rfl ?_
              refine kw_iadd hC dX8_cut_93 rfl ?_
              refine ka_45 hC dX8_cut_94 rfl (by decide) (by decide) (by omega) (by omega) ?_
              refine ks_45 hC dX8_cut_95 rfl (by decide) (by decide) (by omega) (by omega) ?_
              refine kw_hv hfW57 (by unfold fV; omega) (fun S6 hfS6 hv6 ho6 => ?_)
              have hW9 := hW.let (W' := S6) (p := 100 * a + x) (fun s => ho6 46 0 s (by omega)) (fun j hj => ho6 45 0 j (by omega)) (by rw [hv6]; exact hl3)
              have q9 : S6 46 0 a = S 46 0 a := (ho6 46 0 a (by omega)).trans q46
              refine kw_iinc (lv' := [(4, _), (0, _), (1, _), (2, _), (3, _)]) hC dX8_cut_96 rfl 4 rfl (by decide) rfl ?_
              refine kw_goto (tgt := 57) hC dX8_cut_99 rfl (by decide) ?_
              refine kw_lv [1, 2, 3, 4, 0] rfl ?_
              exact ih57 (x + 1) S6 hfS6 (by omega) (by omega) (by omega) q9 hW9 (fun s hs => by rw [ho6 46 0 s (by omega)]; exact h46 s hs) (fun j j0 j1 => by rcases Decidable.em (j = x) with e | e; exact (by rw [e, hv6, h45 _ (by omega)]; congr 1; omega); exact (by rw [ho6 45 0 _ (by omega)]; exact h43 j j0 (by omega))) (fun j hj => by rw [ho6 45 0 j (by omega)]; exact h45 j (by omega)) (by omega)
        refine kw_lv [2, 3, 4, 1, 0] rfl ?_
        exact hL57 101 b S hfS (by omega) (by omega) (by omega) rfl hRS.wdo (fun _ _ => rfl) (fun j _ _ => by omega) (fun _ _ => rfl) (by omega)
      · refine kw_bipush hC dX8_cut_51 rfl (by decide) ?_
        exact hR9.1 rfl _ _ _ _ dX8_cut_53 (by first | (exfalso; omega) | exact ⟨_, rfl, hRS, Fr.rfl _ S, by unfold fCut; rw [if_neg (by omega)]⟩ | exact ⟨_, rfl, hRS, Fr.rfl _ S, by unfold fCut; rw [if_pos (by omega), if_pos (by rw [hg1, hg2]; omega)]⟩ | exact ⟨_, rfl, hw9, fV_tW hfS, by unfold fCut; rw [if_pos (by omega), if_neg (by rw [hg1, hg2]; omega), hst]; exact Prod.ext (by show _ = _; omega) rfl⟩)
    · refine kw_iconst hC dX8_cut_25 rfl ?_
      exact hR9.1 rfl _ _ _ _ dX8_cut_26 (by first | (exfalso; omega) | exact ⟨_, rfl, hRS, Fr.rfl _ S, by unfold fCut; rw [if_neg (by omega)]⟩ | exact ⟨_, rfl, hRS, Fr.rfl _ S, by unfold fCut; rw [if_pos (by omega), if_pos (by rw [hg1, hg2]; omega)]⟩ | exact ⟨_, rfl, hw9, fV_tW hfS, by unfold fCut; rw [if_pos (by omega), if_neg (by rw [hg1, hg2]; omega), hst]; exact Prod.ext (by show _ = _; omega) rfl⟩)
end
