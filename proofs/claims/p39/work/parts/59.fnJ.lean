section
/-- the class's images -/
def kIm (S W : wSt) : Nat → Nat → Int := imG (kn S) (fun k j => W 24 (k : Int) j)
theorem mv_st {P P' : Nat → Prop} {i : Nat} {z : Int} (h : z = 0 ↔ ∀ k, k < i → P k) (hs : ∀ k, k < i → (P k ↔ P' k)) : (z = 0 ∧ P' i) ↔ ∀ k, k < i + 1 → P' k := by
  constructor
  · rintro ⟨a, b⟩ k hk
    by_cases e : k = i
    · subst e; exact b
    · exact (hs k (by omega)).mp (h.mp a k (by omega))
  · intro q
    exact ⟨h.mpr (fun k hk => (hs k hk).mpr (q k (by omega))), q i (by omega)⟩
end
section
set_option maxHeartbeats 4000000 in
set_option maxRecDepth 100000 in
theorem f_X7_joinWay {g : wG} (hD : wD g) {S : wSt} {a b : Int} (a0 : 0 ≤ a) (a1 : a < 8) (b0 : 0 ≤ b) (b1 : b < 8) (hRS : CI S) (l : Launch) : Kt l yX7_joinWay wsX7_joinWay ({ frames := 2, cells := 0, slots := 0, locals := 47 } : Room) g S [vr g 0 0, vi a, vi b] (pI (fun r S' => Fr (fWd 10) S S' ∧ ((r = 0 ∧ ((cSl S a).length : Int) + (cSl S b).length > 100) ∨ (r = 1 ∧ ((cSl S a).length : Int) + (cSl S b).length ≤ 100 ∧ (0 ≤ S' 1 10 1 ∧ S' 1 10 1 ≤ 100) ∧ WV (S' 2 10) (S' 1 10 1) (S 3 16 2) ∧ kP S' 10 = (cSl S a).reverse ++ cSl S b)))) := by
  refine Kt.of (cc := cX7_joinWay) (nL := 3) (ret := (some .boolean)) (own := RX7) rfl hD (by decide) rfl (Nat.le_of_ble_eq_true rfl) ⟨rfl, rfl⟩ ?_
  intro E hC hR9
  have f25 : Cond.fieldLink RX7 25 "MirrorBench" "slots" "[LMirrorBench$Word;" ∈ wsX7_joinWay := by decide +kernel
  have f66 : Cond.fieldLink RX7 66 "MirrorBench" "joined" "LMirrorBench$Word;" ∈ wsX7_joinWay := by decide +kernel
  have f131 : Cond.fieldLink RX7 131 "MirrorBench$Word" "length" "I" ∈ wsX7_joinWay := by decide +kernel
  have w6 : ∀ w ∈ wsX60, w ∈ wsX7_joinWay := by decide +kernel
  have w7 : ∀ w ∈ wsX70, w ∈ wsX7_joinWay := by decide +kernel
  show Wk E g 3 S 0 [(0, vr g 0 0), (1, vi a), (2, vi b)] []
  have hfS : Fr (fWd 10) S S := Fr.rfl _ S
  have hRS : CI S := hRS.fr (hfS.mono (fun k i j h => by unfold fWd at h; unfold tC; omega))
  have hnS := hRS.n
  have enS : S 3 16 2 = S 3 16 2 := hfS 3 16 2 (by unfold fWd; omega)
  have hla := hRS.ln a (by omega) (by omega)
  have hlb := hRS.ln b (by omega) (by omega)
  have hwa := hRS.wv a (by omega) (by omega)
  have hwb := hRS.wv b (by omega) (by omega)
  have hLa := cSl_len hRS (a := a) (by omega) (by omega)
  have hLb := cSl_len hRS (a := b) (by omega) (by omega)
  refine kw_aload_n hC dX7_joinWay_0 rfl 0 rfl ?_
  refine kg_0_2 hC w7 f25 dX7_joinWay_1 rfl (by decide) (by decide) ?_
  refine kw_iload_n hC dX7_joinWay_4 rfl 1 rfl ?_
  refine ka_20 hC dX7_joinWay_5 rfl (by decide) (by decide) (by omega) (by omega) ?_
  refine kg_1_1 hC w6 f131 dX7_joinWay_6 rfl (by omega) (by omega) ?_
  refine kw_aload_n hC dX7_joinWay_9 rfl 0 rfl ?_
  refine kg_0_2 hC w7 f25 dX7_joinWay_10 rfl (by decide) (by decide) ?_
  refine kw_iload_n hC dX7_joinWay_13 rfl 2 rfl ?_
  refine ka_20 hC dX7_joinWay_14 rfl (by decide) (by decide) (by omega) (by omega) ?_
  refine kg_1_1 hC w6 f131 dX7_joinWay_15 rfl (by omega) (by omega) ?_
  refine kw_iadd hC dX7_joinWay_18 rfl ?_
  refine kw_bipush hC dX7_joinWay_19 rfl (by decide) ?_
  refine kw_icmp_le (tgt := 26) hC dX7_joinWay_21 rfl (by decide) (by omega) (by omega) ⟨fun c21 => ?_, fun c21 => ?_⟩
  · refine kw_aload_n hC dX7_joinWay_26 rfl 0 rfl ?_
    refine kg_0_9 hC w7 f66 dX7_joinWay_27 rfl (by decide) (by decide) ?_
    refine kw_aload_n hC dX7_joinWay_30 rfl 0 rfl ?_
    refine kg_0_2 hC w7 f25 dX7_joinWay_31 rfl (by decide) (by decide) ?_
    refine kw_iload_n hC dX7_joinWay_34 rfl 1 rfl ?_
    refine ka_20 hC dX7_joinWay_35 rfl (by decide) (by decide) (by omega) (by omega) ?_
    refine kw_callV hC (d_X6_takeInverted hD (by omega) (by omega) (by omega) (by omega) (by omega) (by omega) (by omega) ) gX7_joinWay_X6_takeInverted ⟨_, rfl⟩ rfl (by omega) (show (_ : Int) < 12 by omega) rfl ⟨rfl, rfl⟩ 1 (by decide +kernel) ⟨by decide, by decide⟩ rfl rfl (Nat.le_of_ble_eq_true rfl) dX7_joinWay_36 rfl (kd_v (fun S2 hp2 => ?_))
    obtain ⟨hg2, hp2⟩ := hp2
    have hfS2 : Fr (fWd 10) S S2 := hfS.trans (hg2.mono (fun k i j h => by unfold fWd at h; unfold fWd; omega))
    have hRS2 : CI S2 := hRS.fr (hfS2.mono (fun k i j h => by unfold fWd at h; unfold tC; omega))
    have hnS2 := hRS2.n
    have enS2 : S2 3 16 2 = S 3 16 2 := hfS2 3 16 2 (by unfold fWd; omega)
    obtain ⟨y1, y2⟩ := hp2
    have eW1 : kP S2 10 = (cSl S a).reverse := by rw [cSl_at (by omega) (by omega)]; unfold kP; rw [y1]; exact wl_rev y2
    have hv : WV (S2 2 10) (S2 1 10 1) (S 3 16 2) := fun j j0 j1 => by rw [y2 j j0 (by omega)]; exact hwa (S 1 a 1 - 1 - j) (by omega) (by omega)
    have eb : S2 1 b 1 = S 1 b 1 := hfS2 1 b 1 (by unfold fWd; omega)
    have eb2 : ∀ j, S2 2 b j = S 2 b j := fun j => hfS2 2 b j (by unfold fWd; omega)
    refine kw_aload_n hC dX7_joinWay_39 rfl 0 rfl ?_
    refine kg_0_9 hC w7 f66 dX7_joinWay_40 rfl (by decide) (by decide) ?_
    refine kw_aload_n hC dX7_joinWay_43 rfl 0 rfl ?_
    refine kg_0_2 hC w7 f25 dX7_joinWay_44 rfl (by decide) (by decide) ?_
    refine kw_iload_n hC dX7_joinWay_47 rfl 2 rfl ?_
    refine ka_20 hC dX7_joinWay_48 rfl (by decide) (by decide) (by omega) (by omega) ?_
    refine kw_callV hC (d_X6_append hD (by omega) (by omega) (by omega) (by omega) (by omega) (by omega) (by omega) ) gX7_joinWay_X6_append ⟨_, rfl⟩ rfl (by omega) (show (_ : Int) < 12 by omega) rfl ⟨rfl, rfl⟩ 1 (by decide +kernel) ⟨by decide, by decide⟩ rfl rfl (Nat.le_of_ble_eq_true rfl) dX7_joinWay_49 rfl (kd_v (fun S3 hp3 => ?_))
    obtain ⟨hg3, hp3⟩ := hp3
    have hfS3 : Fr (fWd 10) S S3 := hfS2.trans (hg3.mono (fun k i j h => by unfold fWd at h; unfold fWd; omega))
    have hRS3 : CI S3 := hRS.fr (hfS3.mono (fun k i j h => by unfold fWd at h; unfold tC; omega))
    have hnS3 := hRS3.n
    have enS3 : S3 3 16 2 = S 3 16 2 := hfS3 3 16 2 (by unfold fWd; omega)
    obtain ⟨z1, z2, z3⟩ := hp3
    have eW2 : kP S3 10 = (cSl S a).reverse ++ cSl S b := by rw [← eW1, cSl_at (a := b) (by omega) (by omega), show kP S b = kP S2 b from (kP_eq eb eb2).symm]; unfold kP; rw [z1]; exact wl_app (by omega) (by omega) z2 z3
    replace hv : WV (S3 2 10) (S3 1 10 1) (S 3 16 2) := fun j j0 j1 => by rcases Decidable.em (j < S2 1 10 1) with e | e; exact (by rw [z2 j j0 e]; exact hv j j0 e); exact (by have h5 := z3 (j - S2 1 10 1) (by omega) (by omega); rw [show S2 1 10 1 + (j - S2 1 10 1) = j by omega, eb2] at h5; rw [h5]; exact hwb (j - S2 1 10 1) (by omega) (by omega))
    refine kw_iconst hC dX7_joinWay_52 rfl ?_
    exact hR9.2.1 rfl _ _ _ _ dX7_joinWay_53 (by omega) ⟨_, rfl, hfS3, Or.inr ⟨rfl, by omega, ⟨by omega, by omega⟩, hv, eW2⟩⟩
  · refine kw_iconst hC dX7_joinWay_24 rfl ?_
    exact hR9.2.1 rfl _ _ _ _ dX7_joinWay_25 (by omega) ⟨_, rfl, hfS, Or.inl ⟨rfl, by omega⟩⟩
set_option maxHeartbeats 4000000 in
set_option maxRecDepth 100000 in
theorem f_X7_way {g : wG} (hD : wD g) {S : wSt} {a b c : Int} (ha : -2147483648 ≤ a ∧ a ≤ 2147483647) (hb : -2147483648 ≤ b ∧ b ≤ 2147483647) (hc : -2147483648 ≤ c ∧ c ≤ 2147483647) (hRS : CI S) (l : Launch) : Kt l yX7_way wsX7_way ({ frames := 6, cells := 0, slots := 0, locals := 143 } : Room) g S [vr g 0 0, vi a, vi b, vi c] (pI (fun r S' => CI S' ∧ Fr tXw S S' ∧ fWay (kM S) (kn S) a b c (cSl S) = (r, cSl S'))) := by
  refine Kt.of (cc := cX7_way) (nL := 4) (ret := (some .int)) (own := RX7) rfl hD (by decide) rfl (Nat.le_of_ble_eq_true rfl) ⟨rfl, rfl⟩ ?_
  intro E hC hR9
  have f40 : Cond.fieldLink RX7 40 "MirrorBench" "shortener" "LMirrorBench$Shortener;" ∈ wsX7_way := by decide +kernel
  have f59 : Cond.fieldLink RX7 59 "MirrorBench" "made" "LMirrorBench$Word;" ∈ wsX7_way := by decide +kernel
  have f66 : Cond.fieldLink RX7 66 "MirrorBench" "joined" "LMirrorBench$Word;" ∈ wsX7_way := by decide +kernel
  have w7 : ∀ w ∈ wsX70, w ∈ wsX7_way := by decide +kernel
  show Wk E g 4 S 0 [(0, vr g 0 0), (1, vi a), (2, vi b), (3, vi c)] []
  have hfS : Fr tC S S := Fr.rfl _ S
  have hRS := hRS.fr hfS
  have hnS := hRS.n
  have enS : S 3 16 2 = S 3 16 2 := hfS 3 16 2 (by unfold tC; omega)
  have hnS := hRS.n
  have hkn : (kn S : Int) = S 3 16 2 := by unfold kn; omega
  refine kw_iload_n hC dX7_way_0 rfl 1 rfl ?_
  refine kw_callS hC (d_X7_isSlot hD (by omega)) gX7_way_X7_isSlot rfl ⟨rfl, rfl⟩ 1 (by decide +kernel) ⟨by decide, by decide⟩ rfl rfl (Nat.le_of_ble_eq_true rfl) dX7_way_1 rfl (kd_ie ?_)
  refine kw_ifeq_b (tgt := 21) hC dX7_way_4 rfl (by decide) ⟨fun c4 => ?_, fun c4 => ?_⟩
  · refine kw_iconst hC dX7_way_21 rfl ?_
    exact hR9.1 rfl _ _ _ _ dX7_way_22 (by first | (exfalso; omega) | exact ⟨_, rfl, hRS, tC_tXw hfS, by unfold fWay; rw [if_neg (by omega), cSl_tC hfS]⟩ | exact ⟨_, rfl, hRS, tC_tXw hfS, by have h8 := eJ; have h9 := (hfj.resolve_right (fun z => by omega)).2; unfold fWay; rw [if_pos (by omega), if_neg (by omega), h9, cSl_tC hfS]; rfl⟩ | exact ⟨_, rfl, hp9.2.1, (tC_tXw hfS).trans (fWd_tXw hp9.2.2.1), by have h9 := hfj9.2.1; unfold fWay; rw [if_pos (by omega), if_neg (by omega), h9]; exact st_k (by omega) (by omega) (by omega) hp9 (cSl_tC hfS) rfl⟩ | exact ⟨_, rfl, hRS, tC_tXw hfS, by have h9 := (hqJ.resolve_right (fun z => by omega)).2; unfold fWay; rw [if_pos (by omega), if_pos h9, cSl_tC hfS]⟩)
  · refine kw_iload_n hC dX7_way_7 rfl 2 rfl ?_
    refine kw_callS hC (d_X7_isSlot hD (by omega)) gX7_way_X7_isSlot rfl ⟨rfl, rfl⟩ 1 (by decide +kernel) ⟨by decide, by decide⟩ rfl rfl (Nat.le_of_ble_eq_true rfl) dX7_way_8 rfl (kd_ie ?_)
    refine kw_ifeq_b (tgt := 21) hC dX7_way_11 rfl (by decide) ⟨fun c11 => ?_, fun c11 => ?_⟩
    · refine kw_iconst hC dX7_way_21 rfl ?_
      exact hR9.1 rfl _ _ _ _ dX7_way_22 (by first | (exfalso; omega) | exact ⟨_, rfl, hRS, tC_tXw hfS, by unfold fWay; rw [if_neg (by omega), cSl_tC hfS]⟩ | exact ⟨_, rfl, hRS, tC_tXw hfS, by have h8 := eJ; have h9 := (hfj.resolve_right (fun z => by omega)).2; unfold fWay; rw [if_pos (by omega), if_neg (by omega), h9, cSl_tC hfS]; rfl⟩ | exact ⟨_, rfl, hp9.2.1, (tC_tXw hfS).trans (fWd_tXw hp9.2.2.1), by have h9 := hfj9.2.1; unfold fWay; rw [if_pos (by omega), if_neg (by omega), h9]; exact st_k (by omega) (by omega) (by omega) hp9 (cSl_tC hfS) rfl⟩ | exact ⟨_, rfl, hRS, tC_tXw hfS, by have h9 := (hqJ.resolve_right (fun z => by omega)).2; unfold fWay; rw [if_pos (by omega), if_pos h9, cSl_tC hfS]⟩)
    · refine kw_iload_n hC dX7_way_14 rfl 3 rfl ?_
      refine kw_callS hC (d_X7_isSlot hD (by omega)) gX7_way_X7_isSlot rfl ⟨rfl, rfl⟩ 1 (by decide +kernel) ⟨by decide, by decide⟩ rfl rfl (Nat.le_of_ble_eq_true rfl) dX7_way_15 rfl (kd_ie ?_)
      refine kw_ifne_b (tgt := 23) hC dX7_way_18 rfl (by decide) ⟨fun c18 => ?_, fun c18 => ?_⟩
      · refine kw_aload_n hC dX7_way_23 rfl 0 rfl ?_
        refine kw_iload_n hC dX7_way_24 rfl 1 rfl ?_
        refine kw_iload_n hC dX7_way_25 rfl 2 rfl ?_
        refine kw_callV hC (f_X7_joinWay hD (by omega) (by omega) (by omega) (by omega) hRS) gX7_way_X7_joinWay ⟨_, rfl⟩ rfl (by decide) (by decide) rfl ⟨rfl, rfl⟩ 2 (by decide +kernel) ⟨by decide, by decide⟩ rfl rfl (Nat.le_of_ble_eq_true rfl) dX7_way_26 rfl (kd_i (fun r4 S4 hp4 => ?_))
        obtain ⟨hg4, hp4⟩ := hp4
        have hfS4 : Fr tC S S4 := hfS.trans (hg4.mono (fun k i j h => by unfold fWd at h; unfold tC; omega))
        have hRS4 := hRS.fr hfS4
        have hnS4 := hRS4.n
        have enS4 : S4 3 16 2 = S 3 16 2 := hfS4 3 16 2 (by unfold tC; omega)
        have hqJ := hp4
        refine kw_if_ne (tgt := 35) hC dX7_way_29 rfl (by decide) (by omega) ⟨fun c29 => ?_, fun c29 => ?_⟩
        · obtain ⟨-, hJl, ⟨lJ0, lJ1⟩, hvJ, eJ⟩ := hqJ.resolve_left (fun z => by omega)
          replace hvJ : WV (S4 2 10) (S4 1 10 1) (S4 3 16 2) := hvJ.eq (fun _ _ _ => rfl) rfl (by omega)
          refine kw_aload_n hC dX7_way_35 rfl 0 rfl ?_
          refine kg_0_4 hC w7 f40 dX7_way_36 rfl (by decide) (by decide) ?_
          refine kw_aload_n hC dX7_way_39 rfl 0 rfl ?_
          refine kg_0_9 hC w7 f66 dX7_way_40 rfl (by decide) (by decide) ?_
          refine kw_aload_n hC dX7_way_43 rfl 0 rfl ?_
          refine kg_0_7 hC w7 f59 dX7_way_44 rfl (by decide) (by decide) ?_
          refine kw_callV hC (f_X5_makeForm hD (by omega) (by omega) (by omega) (by omega) hRS4 hvJ (by omega) (by omega)) gX7_way_X5_makeForm ⟨_, rfl⟩ rfl (by decide) (by decide) rfl ⟨rfl, rfl⟩ 2 (by decide +kernel) ⟨by decide, by decide⟩ rfl rfl (Nat.le_of_ble_eq_true rfl) dX7_way_47 rfl (kd_i (fun r6 S6 hp6 => ?_))
          obtain ⟨hg6, hp6⟩ := hp6
          have hfS6 : Fr tC S S6 := hfS4.trans (hg6.mono (fun k i j h => by unfold fMd at h; unfold tC; omega))
          have hRS6 := hRS.fr hfS6
          have hnS6 := hRS6.n
          have enS6 : S6 3 16 2 = S 3 16 2 := hfS6 3 16 2 (by unfold tC; omega)
          have hq6 := hp6
          rw [kM_eq (W := S4) (S := S) (hfS4 3 16 2 (by unfold tC; omega)) (fun j => hfS4 5 16 j (by unfold tC; omega)), kn_eq (W := S4) (S := S) (hfS4 3 16 2 (by unfold tC; omega))] at hq6
          rw [eJ] at hq6
          have hfj := hq6
          refine kw_if_eq (tgt := 65) hC dX7_way_50 rfl (by decide) (by omega) ⟨fun c50 => ?_, fun c50 => ?_⟩
          · refine kw_bipush hC dX7_way_65 rfl (by decide) ?_
            exact hR9.1 rfl _ _ _ _ dX7_way_67 (by first | (exfalso; omega) | exact ⟨_, rfl, hRS6, tC_tXw hfS6, by unfold fWay; rw [if_neg (by omega), cSl_tC hfS6]⟩ | exact ⟨_, rfl, hRS6, tC_tXw hfS6, by have h8 := eJ; have h9 := (hfj.resolve_right (fun z => by omega)).2; unfold fWay; rw [if_pos (by omega), if_neg (by omega), h9, cSl_tC hfS6]; rfl⟩ | exact ⟨_, rfl, hp9.2.1, (tC_tXw hfS6).trans (fWd_tXw hp9.2.2.1), by have h9 := hfj9.2.1; unfold fWay; rw [if_pos (by omega), if_neg (by omega), h9]; exact st_k (by omega) (by omega) (by omega) hp9 (cSl_tC hfS6) rfl⟩ | exact ⟨_, rfl, hRS6, tC_tXw hfS6, by have h9 := (hqJ.resolve_right (fun z => by omega)).2; unfold fWay; rw [if_pos (by omega), if_pos h9, cSl_tC hfS6]⟩)
          · have hfj9 := hfj.resolve_left (fun z => by omega)
            obtain ⟨lX0, lX1⟩ := hfj9.2.2.1
            have hv8 : WV (S6 2 8) (S6 1 8 1) (S6 3 16 2) := hfj9.2.2.2.eq (fun _ _ _ => rfl) rfl (by omega)
            refine kw_aload_n hC dX7_way_53 rfl 0 rfl ?_
            refine kw_aload_n hC dX7_way_54 rfl 0 rfl ?_
            refine kg_0_7 hC w7 f59 dX7_way_55 rfl (by decide) (by decide) ?_
            refine kw_iload_n hC dX7_way_58 rfl 3 rfl ?_
            refine kw_callV hC (d_X7_store hD (by omega) (by omega) (by omega) (by omega) hRS6 hv8 (by omega) (by omega)) gX7_way_X7_store ⟨_, rfl⟩ rfl (by decide) (by decide) rfl ⟨rfl, rfl⟩ 2 (by decide +kernel) ⟨by decide, by decide⟩ rfl rfl (Nat.le_of_ble_eq_true rfl) dX7_way_59 rfl (kd_i (fun r9 Sz hp9 => ?_))
            refine kw_goto (tgt := 67) hC dX7_way_62 rfl (by decide) ?_
            exact hR9.1 rfl _ _ _ _ dX7_way_67 (by first | (exfalso; omega) | exact ⟨_, rfl, hRS6, tC_tXw hfS6, by unfold fWay; rw [if_neg (by omega), cSl_tC hfS6]⟩ | exact ⟨_, rfl, hRS6, tC_tXw hfS6, by have h8 := eJ; have h9 := (hfj.resolve_right (fun z => by omega)).2; unfold fWay; rw [if_pos (by omega), if_neg (by omega), h9, cSl_tC hfS6]; rfl⟩ | exact ⟨_, rfl, hp9.2.1, (tC_tXw hfS6).trans (fWd_tXw hp9.2.2.1), by have h9 := hfj9.2.1; unfold fWay; rw [if_pos (by omega), if_neg (by omega), h9]; exact st_k (by omega) (by omega) (by omega) hp9 (cSl_tC hfS6) rfl⟩ | exact ⟨_, rfl, hRS6, tC_tXw hfS6, by have h9 := (hqJ.resolve_right (fun z => by omega)).2; unfold fWay; rw [if_pos (by omega), if_pos h9, cSl_tC hfS6]⟩)
        · refine kw_bipush hC dX7_way_32 rfl (by decide) ?_
          exact hR9.1 rfl _ _ _ _ dX7_way_34 (by first | (exfalso; omega) | exact ⟨_, rfl, hRS4, tC_tXw hfS4, by unfold fWay; rw [if_neg (by omega), cSl_tC hfS4]⟩ | exact ⟨_, rfl, hRS4, tC_tXw hfS4, by have h8 := eJ; have h9 := (hfj.resolve_right (fun z => by omega)).2; unfold fWay; rw [if_pos (by omega), if_neg (by omega), h9, cSl_tC hfS4]; rfl⟩ | exact ⟨_, rfl, hp9.2.1, (tC_tXw hfS4).trans (fWd_tXw hp9.2.2.1), by have h9 := hfj9.2.1; unfold fWay; rw [if_pos (by omega), if_neg (by omega), h9]; exact st_k (by omega) (by omega) (by omega) hp9 (cSl_tC hfS4) rfl⟩ | exact ⟨_, rfl, hRS4, tC_tXw hfS4, by have h9 := (hqJ.resolve_right (fun z => by omega)).2; unfold fWay; rw [if_pos (by omega), if_pos h9, cSl_tC hfS4]⟩)
      · refine kw_iconst hC dX7_way_21 rfl ?_
        exact hR9.1 rfl _ _ _ _ dX7_way_22 (by first | (exfalso; omega) | exact ⟨_, rfl, hRS, tC_tXw hfS, by unfold fWay; rw [if_neg (by omega), cSl_tC hfS]⟩ | exact ⟨_, rfl, hRS, tC_tXw hfS, by have h8 := eJ; have h9 := (hfj.resolve_right (fun z => by omega)).2; unfold fWay; rw [if_pos (by omega), if_neg (by omega), h9, cSl_tC hfS]; rfl⟩ | exact ⟨_, rfl, hp9.2.1, (tC_tXw hfS).trans (fWd_tXw hp9.2.2.1), by have h9 := hfj9.2.1; unfold fWay; rw [if_pos (by omega), if_neg (by omega), h9]; exact st_k (by omega) (by omega) (by omega) hp9 (cSl_tC hfS) rfl⟩ | exact ⟨_, rfl, hRS, tC_tXw hfS, by have h9 := (hqJ.resolve_right (fun z => by omega)).2; unfold fWay; rw [if_pos (by omega), if_pos h9, cSl_tC hfS]⟩)
end
