section
set_option maxHeartbeats 4000000 in
set_option maxRecDepth 100000 in
theorem f_X8_parts {g : wG} (hD : wD g) {S : wSt} {a b c d : Int} (ha : -2147483648 ≤ a ∧ a ≤ 2147483647) (hb : -2147483648 ≤ b ∧ b ≤ 2147483647) (hc : -2147483648 ≤ c ∧ c ≤ 2147483647) (hd : -2147483648 ≤ d ∧ d ≤ 2147483647) (hRS : RI S) (l : Launch) : Kt l yX8_parts wsX8_parts ({ frames := 5, cells := 0, slots := 0, locals := 114 } : Room) g S [vr g 30 0, vi a, vi b, vi c, vi d] (pI (fun r S' => RI S' ∧ Fr tW S S' ∧ fParts (rM S) (rn S) (bJ (ptB (rK S) (rn S) b)) a c d (rSl S) = (r, rSl S'))) := by
  refine Kt.of (cc := cX8_parts) (nL := 10) (ret := (some .int)) (own := RX8) rfl hD (by decide) rfl (Nat.le_of_ble_eq_true rfl) ⟨rfl, rfl⟩ ?_
  intro E hC hR9
  have f11 : Cond.fieldLink RX8 11 "MirrorBenchModel" "mirrors" "I" ∈ wsX8_parts := by decide +kernel
  have f14 : Cond.fieldLink RX8 14 "MirrorBenchModel" "kinds" "[I" ∈ wsX8_parts := by decide +kernel
  have f57 : Cond.fieldLink RX8 57 "MirrorBenchModel" "wMany" "I" ∈ wsX8_parts := by decide +kernel
  have f60 : Cond.fieldLink RX8 60 "MirrorBenchModel" "w" "[I" ∈ wsX8_parts := by decide +kernel
  have f81 : Cond.fieldLink RX8 81 "MirrorBenchModel" "isGreat" "Z" ∈ wsX8_parts := by decide +kernel
  have f92 : Cond.fieldLink RX8 92 "MirrorBenchModel" "rMany" "I" ∈ wsX8_parts := by decide +kernel
  have f95 : Cond.fieldLink RX8 95 "MirrorBenchModel" "r" "[I" ∈ wsX8_parts := by decide +kernel
  have f126 : Cond.fieldLink RX8 126 "MirrorBenchModel" "vMany" "I" ∈ wsX8_parts := by decide +kernel
  have f129 : Cond.fieldLink RX8 129 "MirrorBenchModel" "v" "[I" ∈ wsX8_parts := by decide +kernel
  have f223 : Cond.fieldLink RX8 223 "MirrorBenchModel" "part" "[I" ∈ wsX8_parts := by decide +kernel
  have w8 : ∀ w ∈ wsX80, w ∈ wsX8_parts := by decide +kernel
  show Wk E g 10 S 0 [(0, vr g 30 0), (1, vi a), (2, vi b), (3, vi c), (4, vi d)] []
  have hfS : Fr tR S S := Fr.rfl _ S
  have hRS := hRS.fr hfS
  have hnS := hRS.n
  have enS : S 30 0 0 = S 30 0 0 := hfS 30 0 0 (by unfold tR; omega)
  have hnS := hRS.n
  have hnn : (rn S : Int) = S 30 0 0 := by unfold rn; omega
  refine kw_iload_n hC dX8_parts_0 rfl 1 rfl ?_
  refine kw_callS hC (d_X8_isSlot hD (by omega)) gX8_parts_X8_isSlot rfl ⟨rfl, rfl⟩ 1 (by decide +kernel) ⟨by decide, by decide⟩ rfl rfl (Nat.le_of_ble_eq_true rfl) dX8_parts_1 rfl (kd_ie ?_)
  refine kw_ifeq_b (tgt := 28) hC dX8_parts_4 rfl (by decide) ⟨fun c4 => ?_, fun c4 => ?_⟩
  · refine kw_iconst hC dX8_parts_28 rfl ?_
    exact hR9.1 rfl _ _ _ _ dX8_parts_29 (by first | (exfalso; omega) | exact ⟨_, rfl, hRS, tR_tW hfS, by unfold fParts; rw [if_neg (by omega), rSl_tR hfS]⟩ | exact ⟨_, rfl, hRS, tR_tW hfS, by have h9 := (hsh.resolve_right (fun z => by omega)).2.2; unfold fParts; rw [if_pos (by omega), ptP_n1 h9, rSl_tR hfS]⟩ | exact ⟨_, rfl, hRS, tR_tW hfS, by have h9 := hfs.2.2.1 (bJ_t s0 c122) (by omega); rw [hRS9] at h9; unfold fParts; rw [if_pos (by omega), ptP_n2 hsA h9, rSl_tR hfS]⟩ | exact ⟨_, rfl, hRS, tR_tW hfS, by have h8 := hTT; have h9 := hfB; have h7 := (h9.resolve_right (fun z => by omega)).2.2; unfold fParts; rw [if_pos (by omega), ptP_n4 hsA h8 hA9 h7, rSl_tR hfS]⟩ | exact ⟨_, rfl, hRS, tR_tW hfS, by have h8 := hTT; have h9 := (hfA.resolve_right (fun z => by omega)).2.2; unfold fParts; rw [if_pos (by omega), ptP_n3 hsA h8 h9, rSl_tR hfS]⟩ | exact ⟨_, rfl, hp9.2.1, hbW.trans ((tR_tW hfS).trans (fV_tW hp9.2.2.1)), by have h9 := st_f hRS (by omega) (by omega) (by omega) (by omega) hp9 ((rSl_tR hfS).trans hB8) (show rW S = AA from (wl_eq q14 hx).trans eP); unfold fParts; rw [if_pos (by omega), ptP_s hsA hTT hA9 hB9]; exact h9⟩)
  · refine kw_iload_n hC dX8_parts_7 rfl 3 rfl ?_
    refine kw_callS hC (d_X8_isSlot hD (by omega)) gX8_parts_X8_isSlot rfl ⟨rfl, rfl⟩ 1 (by decide +kernel) ⟨by decide, by decide⟩ rfl rfl (Nat.le_of_ble_eq_true rfl) dX8_parts_8 rfl (kd_ie ?_)
    refine kw_ifeq_b (tgt := 28) hC dX8_parts_11 rfl (by decide) ⟨fun c11 => ?_, fun c11 => ?_⟩
    · refine kw_iconst hC dX8_parts_28 rfl ?_
      exact hR9.1 rfl _ _ _ _ dX8_parts_29 (by first | (exfalso; omega) | exact ⟨_, rfl, hRS, tR_tW hfS, by unfold fParts; rw [if_neg (by omega), rSl_tR hfS]⟩ | exact ⟨_, rfl, hRS, tR_tW hfS, by have h9 := (hsh.resolve_right (fun z => by omega)).2.2; unfold fParts; rw [if_pos (by omega), ptP_n1 h9, rSl_tR hfS]⟩ | exact ⟨_, rfl, hRS, tR_tW hfS, by have h9 := hfs.2.2.1 (bJ_t s0 c122) (by omega); rw [hRS9] at h9; unfold fParts; rw [if_pos (by omega), ptP_n2 hsA h9, rSl_tR hfS]⟩ | exact ⟨_, rfl, hRS, tR_tW hfS, by have h8 := hTT; have h9 := hfB; have h7 := (h9.resolve_right (fun z => by omega)).2.2; unfold fParts; rw [if_pos (by omega), ptP_n4 hsA h8 hA9 h7, rSl_tR hfS]⟩ | exact ⟨_, rfl, hRS, tR_tW hfS, by have h8 := hTT; have h9 := (hfA.resolve_right (fun z => by omega)).2.2; unfold fParts; rw [if_pos (by omega), ptP_n3 hsA h8 h9, rSl_tR hfS]⟩ | exact ⟨_, rfl, hp9.2.1, hbW.trans ((tR_tW hfS).trans (fV_tW hp9.2.2.1)), by have h9 := st_f hRS (by omega) (by omega) (by omega) (by omega) hp9 ((rSl_tR hfS).trans hB8) (show rW S = AA from (wl_eq q14 hx).trans eP); unfold fParts; rw [if_pos (by omega), ptP_s hsA hTT hA9 hB9]; exact h9⟩)
    · refine kw_iload hC dX8_parts_14 rfl 4 rfl ?_
      refine kw_callS hC (d_X8_isSlot hD (by omega)) gX8_parts_X8_isSlot rfl ⟨rfl, rfl⟩ 1 (by decide +kernel) ⟨by decide, by decide⟩ rfl rfl (Nat.le_of_ble_eq_true rfl) dX8_parts_16 rfl (kd_ie ?_)
      refine kw_ifeq_b (tgt := 28) hC dX8_parts_19 rfl (by decide) ⟨fun c19 => ?_, fun c19 => ?_⟩
      · refine kw_iconst hC dX8_parts_28 rfl ?_
        exact hR9.1 rfl _ _ _ _ dX8_parts_29 (by first | (exfalso; omega) | exact ⟨_, rfl, hRS, tR_tW hfS, by unfold fParts; rw [if_neg (by omega), rSl_tR hfS]⟩ | exact ⟨_, rfl, hRS, tR_tW hfS, by have h9 := (hsh.resolve_right (fun z => by omega)).2.2; unfold fParts; rw [if_pos (by omega), ptP_n1 h9, rSl_tR hfS]⟩ | exact ⟨_, rfl, hRS, tR_tW hfS, by have h9 := hfs.2.2.1 (bJ_t s0 c122) (by omega); rw [hRS9] at h9; unfold fParts; rw [if_pos (by omega), ptP_n2 hsA h9, rSl_tR hfS]⟩ | exact ⟨_, rfl, hRS, tR_tW hfS, by have h8 := hTT; have h9 := hfB; have h7 := (h9.resolve_right (fun z => by omega)).2.2; unfold fParts; rw [if_pos (by omega), ptP_n4 hsA h8 hA9 h7, rSl_tR hfS]⟩ | exact ⟨_, rfl, hRS, tR_tW hfS, by have h8 := hTT; have h9 := (hfA.resolve_right (fun z => by omega)).2.2; unfold fParts; rw [if_pos (by omega), ptP_n3 hsA h8 h9, rSl_tR hfS]⟩ | exact ⟨_, rfl, hp9.2.1, hbW.trans ((tR_tW hfS).trans (fV_tW hp9.2.2.1)), by have h9 := st_f hRS (by omega) (by omega) (by omega) (by omega) hp9 ((rSl_tR hfS).trans hB8) (show rW S = AA from (wl_eq q14 hx).trans eP); unfold fParts; rw [if_pos (by omega), ptP_s hsA hTT hA9 hB9]; exact h9⟩)
      · refine kw_iload_n hC dX8_parts_22 rfl 3 rfl ?_
        refine kw_iload hC dX8_parts_23 rfl 4 rfl ?_
        refine kw_icmp_ne (tgt := 30) hC dX8_parts_25 rfl (by decide) (by omega) (by omega) ⟨fun c25 => ?_, fun c25 => ?_⟩
        · refine kw_iload_n hC dX8_parts_30 rfl 2 rfl ?_
          refine kw_istore (lv' := [(5, _), (0, _), (1, _), (2, _), (3, _), (4, _)]) hC dX8_parts_31 rfl (by decide) rfl ?_
          refine kw_iload_n hC dX8_parts_33 rfl 3 rfl ?_
          refine kw_iconst hC dX8_parts_34 rfl ?_
          have hJ82 : ∀ (z : Int), (z = ptB (rK S) (rn S) b) → Wk E g 10 S 82 [(0, vr g 30 0), (1, vi a), (2, vi b), (3, vi c), (4, vi d), (5, vi z)] [] := by
            intro z hz
            refine kw_aload_n hC dX8_parts_82 rfl 0 rfl ?_
            refine kw_iload_n hC dX8_parts_83 rfl 1 rfl ?_
            refine kw_callV hC (d_X8_load hD (by omega) (by omega) hRS) gX8_parts_X8_load ⟨_, rfl⟩ rfl (by decide) (by decide) rfl ⟨rfl, rfl⟩ 1 (by decide +kernel) ⟨by decide, by decide⟩ rfl rfl (Nat.le_of_ble_eq_true rfl) dX8_parts_84 rfl (kd_v (fun S5 hp5 => ?_))
            obtain ⟨hg5, hp5⟩ := hp5
            have hfS5 : Fr tR S S5 := hfS.trans (hg5.mono (fun k i j h => by unfold fL at h; unfold tR; omega))
            have hRS5 := hRS.fr hfS5
            have hnS5 := hRS5.n
            have enS5 : S5 30 0 0 = S 30 0 0 := hfS5 30 0 0 (by unfold tR; omega)
            obtain ⟨q14, qW⟩ := hp5
            have hwv : WV (S5 53 0) (S5 30 0 14) (S5 30 0 0) := ldWV hRS (by omega) (by omega) q14 qW (by omega)
            have hl5 := hRS.ln a (by omega) (by omega)
            have eWa : rW S5 = rSl S a := (ld_rW (by omega) (by omega) q14 qW).trans (by rw [rSl_tR hfS])
            refine kw_aload_n hC dX8_parts_87 rfl 0 rfl ?_
            refine kw_callV hC (f_X8_shortOf hD hRS5 hwv (by omega) (by omega)) gX8_parts_X8_shortOf ⟨_, rfl⟩ rfl (by decide) (by decide) rfl ⟨rfl, rfl⟩ 0 (by decide +kernel) ⟨by decide, by decide⟩ rfl rfl (Nat.le_of_ble_eq_true rfl) dX8_parts_88 rfl (kd_i (fun r6 S6 hp6 => ?_))
            obtain ⟨hg6, hp6⟩ := hp6
            have hfS6 : Fr tR S S6 := hfS5.trans (hg6.mono (fun k i j h => by unfold fS at h; unfold tR; omega))
            have hRS6 := hRS.fr hfS6
            have hnS6 := hRS6.n
            have enS6 : S6 30 0 0 = S 30 0 0 := hfS6 30 0 0 (by unfold tR; omega)
            obtain ⟨⟨r0, r1⟩, hrv, hq6⟩ := hp6
            rw [rM_eq (W := S5) (S := S) (hfS5 30 0 0 (by unfold tR; omega)) (fun j => hfS5 42 0 j (by unfold tR; omega)), rn_eq (W := S5) (S := S) (hfS5 30 0 0 (by unfold tR; omega))] at hq6
            rw [eWa] at hq6
            have hsh := hq6
            replace hrv : WV (S6 47 0) (S6 30 0 8) (S6 30 0 0) := hrv.eq (fun _ _ _ => rfl) rfl (by omega)
            refine kw_if_ne (tgt := 97) hC dX8_parts_91 rfl (by decide) (by omega) ⟨fun c91 => ?_, fun c91 => ?_⟩
            · have hs9 := hsh.resolve_left (fun z => by omega)
              obtain ⟨RS, hRSx⟩ : ∃ q, q = rR S6 := ⟨_, rfl⟩
              have hsA : shoP (rM S) (rn S) [] (rSl S a) = some RS := by rw [hs9.2.2, hRSx]
              have hgw : S6 30 0 16 = 0 := hs9.2.1
              have hRS9 : frs (rM S) (rn S) (bJ z) (rn S) RS [] = frm (rM S) (rn S) (bJ (ptB (rK S) (rn S) b)) RS.length RS [] := by rw [frs_frm, hz]
              refine kw_aload_n hC dX8_parts_97 rfl 0 rfl ?_
              refine kw_iconst hC dX8_parts_98 rfl ?_
              refine kp_30_12 hC w8 f126 dX8_parts_99 rfl (by decide) (by decide) ?_
              refine kw_hv hfS6 (by unfold tR; omega) (fun S8 hfS8 hv8 ho8 => ?_)
              have hRS8 := hRS.fr hfS8
              have hnS8 := hRS8.n
              have enS8 : S8 30 0 0 = S 30 0 0 := hfS8 30 0 0 (by unfold tR; omega)
              have e8_8 : S8 30 0 8 = S6 30 0 8 := ho8 30 0 8 (by omega)
              replace hrv : WV (S8 47 0) (S8 30 0 8) (S8 30 0 0) := hrv.eq (fun j _ _ => ho8 47 0 j (by omega)) e8_8 (ho8 30 0 0 (by omega))
              have e168 : S8 30 0 16 = S6 30 0 16 := ho8 30 0 16 (by omega)
              have x12 := hv8
              have eR0 : rR S8 = RS := (wl_eq (ho8 30 0 8 (by omega)) (fun j _ _ => ho8 47 0 j (by omega))).trans hRSx.symm
              have eV0 : rV S8 = [] := by unfold rV; rw [hv8]; rfl
              replace hgw : S8 30 0 16 = 0 := by omega
              refine kw_iconst hC dX8_parts_102 rfl ?_
              refine kw_istore (lv' := [(6, _), (0, _), (1, _), (2, _), (3, _), (4, _), (5, _)]) hC dX8_parts_103 rfl (by decide) rfl ?_
              have hL105 : ∀ (n105 : Nat) (s : Int) (W105 : wSt), Fr tR S W105 → (0 ≤ s) → (s ≤ W105 30 0 0) → (s ≤ 6) → (WV (W105 47 0) (W105 30 0 8) (W105 30 0 0)) → (0 ≤ W105 30 0 8) → (WV (W105 51 0) (W105 30 0 12) (W105 30 0 0)) → (0 ≤ W105 30 0 12) → (W105 30 0 12 + W105 30 0 8 ≤ 100) → (W105 30 0 16 = 0) → (frs (rM S) (rn S) (bJ z) (rn S - s.toNat) (rR W105) (rV W105) = frs (rM S) (rn S) (bJ z) (rn S) RS []) → 7 * W105 30 0 8 + 6 - s < (n105 : Int) → Wk E g 10 W105 105 [(0, vr g 30 0), (1, vi a), (2, vi b), (3, vi c), (4, vi d), (5, vi z), (6, vi s)] [] := by
                intro n105
                induction n105 with
                | zero => intro s W105 hfW105 s0 s1 s6 hrv r0 hvv v0 hs hgw hT hm105; exact absurd hm105 (by omega)
                | succ n105 ih105 =>
                  intro s W105 hfW105 s0 s1 s6 hrv r0 hvv v0 hs hgw hT hm105
                  have hRW105 := hRS.fr hfW105
                  have hnW105 := hRW105.n
                  have enW105 : W105 30 0 0 = S 30 0 0 := hfW105 30 0 0 (by unfold tR; omega)
                  refine kw_iload hC dX8_parts_105 rfl 6 rfl ?_
                  refine kw_aload_n hC dX8_parts_107 rfl 0 rfl ?_
                  refine kg_30_0 hC w8 f11 dX8_parts_108 rfl (by decide) (by decide) ?_
                  refine kw_icmp_ge (tgt := 191) hC dX8_parts_111 rfl (by decide) (by omega) (by omega) ⟨fun c111 => ?_, fun c111 => ?_⟩
                  · have hTT := frs_e hT (by omega)
                    rw [hRS9] at hTT
                    obtain ⟨RR, hRR⟩ : ∃ q, q = rR W105 := ⟨_, rfl⟩
                    obtain ⟨VV, hVV⟩ : ∃ q, q = rV W105 := ⟨_, rfl⟩
                    rw [← hRR, ← hVV] at hTT
                    refine kw_iconst hC dX8_parts_191 rfl ?_
                    refine kw_istore (lv' := [(7, _), (0, _), (1, _), (2, _), (3, _), (4, _), (5, _), (6, _)]) hC dX8_parts_192 rfl (by decide) rfl ?_
                    have hL194 : ∀ (n194 : Nat) (x : Int) (W194 : wSt), Fr tR S W194 → (0 ≤ x) → (x ≤ W194 30 0 12) → (WV (W194 53 0) x (W194 30 0 0)) → (∀ j, 0 ≤ j → j < x → W194 53 0 j = W194 51 0 j) → (rV W194 = VV) → (rR W194 = RR) → (WV (W194 47 0) (W194 30 0 8) (W194 30 0 0)) → (0 ≤ W194 30 0 8) → (WV (W194 51 0) (W194 30 0 12) (W194 30 0 0)) → (0 ≤ W194 30 0 12) → (W194 30 0 12 + W194 30 0 8 ≤ 100) → W194 30 0 12 - x < (n194 : Int) → Wk E g 10 W194 194 [(0, vr g 30 0), (1, vi a), (2, vi b), (3, vi c), (4, vi d), (5, vi z), (6, vi s), (7, vi x)] [] := by
                      intro n194
                      induction n194 with
                      | zero => intro x W194 hfW194 x0 x1 hw hx eV eR hrv r0 hvv v0 hs hm194; exact absurd hm194 (by omega)
                      | succ n194 ih194 =>
                        intro x W194 hfW194 x0 x1 hw hx eV eR hrv r0 hvv v0 hs hm194
                        have hRW194 := hRS.fr hfW194
                        have hnW194 := hRW194.n
                        have enW194 : W194 30 0 0 = S 30 0 0 := hfW194 30 0 0 (by unfold tR; omega)
                        refine kw_iload hC dX8_parts_194 rfl 7 rfl ?_
                        refine kw_aload_n hC dX8_parts_196 rfl 0 rfl ?_
                        refine kg_30_12 hC w8 f126 dX8_parts_197 rfl (by decide) (by decide) ?_
                        refine kw_icmp_ge (tgt := 223) hC dX8_parts_200 rfl (by decide) (by omega) (by omega) ⟨fun c200 => ?_, fun c200 => ?_⟩
                        · refine kw_aload_n hC dX8_parts_223 rfl 0 rfl ?_
                          refine kw_aload_n hC dX8_parts_224 rfl 0 rfl ?_
                          refine kg_30_12 hC w8 f126 dX8_parts_225 rfl (by decide) (by decide) ?_
                          refine kp_30_14 hC w8 f57 dX8_parts_228 rfl (by decide) (by decide) ?_
                          refine kw_hv hfW194 (by unfold tR; omega) (fun S11 hfS11 hv11 ho11 => ?_)
                          have hRS11 := hRS.fr hfS11
                          have hnS11 := hRS11.n
                          have enS11 : S11 30 0 0 = S 30 0 0 := hfS11 30 0 0 (by unfold tR; omega)
                          have e12_11 : S11 30 0 12 = W194 30 0 12 := ho11 30 0 12 (by omega)
                          replace hvv : WV (S11 51 0) (S11 30 0 12) (S11 30 0 0) := hvv.eq (fun j _ _ => ho11 51 0 j (by omega)) e12_11 (ho11 30 0 0 (by omega))
                          have e8_11 : S11 30 0 8 = W194 30 0 8 := ho11 30 0 8 (by omega)
                          replace hrv : WV (S11 47 0) (S11 30 0 8) (S11 30 0 0) := hrv.eq (fun j _ _ => ho11 47 0 j (by omega)) e8_11 (ho11 30 0 0 (by omega))
                          have hwv : WV (S11 53 0) (S11 30 0 14) (S11 30 0 0) := hw.eq (fun j _ _ => ho11 53 0 j (by omega)) (by have := hv11; omega) (ho11 30 0 0 (by omega))
                          have x14 := hv11
                          have eW : rW S11 = VV := (wl_eq (by omega) (fun j j0 j1 => (ho11 53 0 j (by omega)).trans (hx j j0 (by omega)))).trans eV
                          replace eR : rR S11 = RR := (wl_eq (ho11 30 0 8 (by omega)) (fun j _ _ => ho11 47 0 j (by omega))).trans eR
                          refine kw_iconst hC dX8_parts_231 rfl ?_
                          refine kw_istore (lv' := [(7, _), (0, _), (1, _), (2, _), (3, _), (4, _), (5, _), (6, _)]) hC dX8_parts_232 rfl (by decide) rfl ?_
                          have hL234 : ∀ (n234 : Nat) (x : Int) (W234 : wSt), Fr tR S W234 → (0 ≤ x) → (x ≤ W234 30 0 8) → (WV (W234 51 0) x (W234 30 0 0)) → (∀ j, 0 ≤ j → j < x → W234 51 0 j = W234 47 0 j) → (rW W234 = VV) → (rR W234 = RR) → (W234 30 0 8 ≤ 100) → (WV (W234 47 0) (W234 30 0 8) (W234 30 0 0)) → (0 ≤ W234 30 0 8) → (WV (W234 53 0) (W234 30 0 14) (W234 30 0 0)) → (0 ≤ W234 30 0 14) → (W234 30 0 14 ≤ 100) → W234 30 0 8 - x < (n234 : Int) → Wk E g 10 W234 234 [(0, vr g 30 0), (1, vi a), (2, vi b), (3, vi c), (4, vi d), (5, vi z), (6, vi s), (7, vi x)] [] := by
                            intro n234
                            induction n234 with
                            | zero => intro x W234 hfW234 x0 x1 hw hx eW eR r2 hrv r0 hwv w0 w1 hm234; exact absurd hm234 (by omega)
                            | succ n234 ih234 =>
                              intro x W234 hfW234 x0 x1 hw hx eW eR r2 hrv r0 hwv w0 w1 hm234
                              have hRW234 := hRS.fr hfW234
                              have hnW234 := hRW234.n
                              have enW234 : W234 30 0 0 = S 30 0 0 := hfW234 30 0 0 (by unfold tR; omega)
                              refine kw_iload hC dX8_parts_234 rfl 7 rfl ?_
                              refine kw_aload_n hC dX8_parts_236 rfl 0 rfl ?_
                              refine kg_30_8 hC w8 f92 dX8_parts_237 rfl (by decide) (by decide) ?_
                              refine kw_icmp_ge (tgt := 263) hC dX8_parts_240 rfl (by decide) (by omega) (by omega) ⟨fun c240 => ?_, fun c240 => ?_⟩
                              · refine kw_aload_n hC dX8_parts_263 rfl 0 rfl ?_
                                refine kw_aload_n hC dX8_parts_264 rfl 0 rfl ?_
                                refine kg_30_8 hC w8 f92 dX8_parts_265 rfl (by decide) (by decide) ?_
                                refine kp_30_12 hC w8 f126 dX8_parts_268 rfl (by decide) (by decide) ?_
                                refine kw_hv hfW234 (by unfold tR; omega) (fun S13 hfS13 hv13 ho13 => ?_)
                                have hRS13 := hRS.fr hfS13
                                have hnS13 := hRS13.n
                                have enS13 : S13 30 0 0 = S 30 0 0 := hfS13 30 0 0 (by unfold tR; omega)
                                have e14_13 : S13 30 0 14 = W234 30 0 14 := ho13 30 0 14 (by omega)
                                replace hwv : WV (S13 53 0) (S13 30 0 14) (S13 30 0 0) := hwv.eq (fun j _ _ => ho13 53 0 j (by omega)) e14_13 (ho13 30 0 0 (by omega))
                                have e8_13 : S13 30 0 8 = W234 30 0 8 := ho13 30 0 8 (by omega)
                                replace hrv : WV (S13 47 0) (S13 30 0 8) (S13 30 0 0) := hrv.eq (fun j _ _ => ho13 47 0 j (by omega)) e8_13 (ho13 30 0 0 (by omega))
                                have hvv : WV (S13 51 0) (S13 30 0 12) (S13 30 0 0) := hw.eq (fun j _ _ => ho13 51 0 j (by omega)) (by have := hv13; omega) (ho13 30 0 0 (by omega))
                                have x12 := hv13
                                have eV : rV S13 = RR := (wl_eq (by omega) (fun j j0 j1 => (ho13 51 0 j (by omega)).trans (hx j j0 (by omega)))).trans eR
                                replace eW : rW S13 = VV := (wl_eq (ho13 30 0 14 (by omega)) (fun j _ _ => ho13 53 0 j (by omega))).trans eW
                                refine kw_aload_n hC dX8_parts_271 rfl 0 rfl ?_
                                refine kw_callV hC (f_X8_formOfW hD hRS13 hwv (by omega) (by omega)) gX8_parts_X8_formOfW ⟨_, rfl⟩ rfl (by decide) (by decide) rfl ⟨rfl, rfl⟩ 0 (by decide +kernel) ⟨by decide, by decide⟩ rfl rfl (Nat.le_of_ble_eq_true rfl) dX8_parts_272 rfl (kd_i (fun r14 S14 hp14 => ?_))
                                obtain ⟨hg14, hp14⟩ := hp14
                                have hfS14 : Fr tR S S14 := hfS13.trans (hg14.mono (fun k i j h => by unfold fW at h; unfold tR; omega))
                                have hRS14 := hRS.fr hfS14
                                have hnS14 := hRS14.n
                                have enS14 : S14 30 0 0 = S 30 0 0 := hfS14 30 0 0 (by unfold tR; omega)
                                obtain ⟨⟨w0, w1⟩, hwv, hq14⟩ := hp14
                                rw [rM_eq (W := S13) (S := S) (hfS13 30 0 0 (by unfold tR; omega)) (fun j => hfS13 42 0 j (by unfold tR; omega)), rn_eq (W := S13) (S := S) (hfS13 30 0 0 (by unfold tR; omega))] at hq14
                                rw [eW] at hq14
                                have hfA := hq14
                                replace hwv : WV (S14 53 0) (S14 30 0 14) (S14 30 0 0) := hwv.eq (fun _ _ _ => rfl) rfl (by omega)
                                have e12_14 : S14 30 0 12 = S13 30 0 12 := hg14 30 0 12 (by unfold fW; omega)
                                replace hvv : WV (S14 51 0) (S14 30 0 12) (S14 30 0 0) := hvv.eq (fun j _ _ => hg14 51 0 j (by unfold fW; omega)) e12_14 (hg14 30 0 0 (by unfold fW; omega))
                                replace eV : rV S14 = RR := (wl_eq (hg14 30 0 12 (by unfold fW; omega)) (fun j _ _ => hg14 51 0 j (by unfold fW; omega))).trans eV
                                refine kw_if_ne (tgt := 281) hC dX8_parts_275 rfl (by decide) (by omega) ⟨fun c275 => ?_, fun c275 => ?_⟩
                                · refine kw_aload_n hC dX8_parts_281 rfl 0 rfl ?_
                                  refine kg_30_14 hC w8 f57 dX8_parts_282 rfl (by decide) (by decide) ?_
                                  obtain ⟨LEN, hLEN⟩ : ∃ z, z = S14 30 0 14 := ⟨_, rfl⟩
                                  rw [← hLEN]
                                  obtain ⟨AA, hAA⟩ : ∃ q, q = rW S14 := ⟨_, rfl⟩
                                  have hA9 := (hfA.resolve_left (fun z => by omega)).2.2
                                  rw [← hAA] at hA9
                                  have eW : rW S14 = AA := hAA.symm
                                  refine kw_istore (lv' := [(7, _), (0, _), (1, _), (2, _), (3, _), (4, _), (5, _), (6, _)]) hC dX8_parts_285 rfl (by decide) rfl ?_
                                  refine kw_iconst hC dX8_parts_287 rfl ?_
                                  refine kw_istore (lv' := [(8, _), (7, _), (0, _), (1, _), (2, _), (3, _), (4, _), (5, _), (6, _)]) hC dX8_parts_288 rfl (by decide) rfl ?_
                                  have hL290 : ∀ (n290 : Nat) (x : Int) (W290 : wSt), Fr tR S W290 → (0 ≤ x) → (x ≤ W290 30 0 14) → (WV (W290 68 0) x (W290 30 0 0)) → (∀ j, 0 ≤ j → j < x → W290 68 0 j = W290 53 0 j) → (rW W290 = AA) → (rV W290 = RR) → (LEN = W290 30 0 14) → (W290 30 0 12 ≤ 100) → (WV (W290 51 0) (W290 30 0 12) (W290 30 0 0)) → (0 ≤ W290 30 0 12) → (WV (W290 53 0) (W290 30 0 14) (W290 30 0 0)) → (0 ≤ W290 30 0 14) → (W290 30 0 14 ≤ 100) → W290 30 0 14 - x < (n290 : Int) → Wk E g 10 W290 290 [(0, vr g 30 0), (1, vi a), (2, vi b), (3, vi c), (4, vi d), (5, vi z), (6, vi s), (7, vi LEN), (8, vi x)] [] := by
                                    intro n290
                                    induction n290 with
                                    | zero => intro x W290 hfW290 x0 x1 hw hx eW eV hLEN v2 hvv v0 hwv w0 w1 hm290; exact absurd hm290 (by omega)
                                    | succ n290 ih290 =>
                                      intro x W290 hfW290 x0 x1 hw hx eW eV hLEN v2 hvv v0 hwv w0 w1 hm290
                                      have hRW290 := hRS.fr hfW290
                                      have hnW290 := hRW290.n
                                      have enW290 : W290 30 0 0 = S 30 0 0 := hfW290 30 0 0 (by unfold tR; omega)
                                      refine kw_iload hC dX8_parts_290 rfl 8 rfl ?_
                                      refine kw_aload_n hC dX8_parts_292 rfl 0 rfl ?_
                                      refine kg_30_14 hC w8 f57 dX8_parts_293 rfl (by decide) (by decide) ?_
                                      refine kw_icmp_ge (tgt := 319) hC dX8_parts_296 rfl (by decide) (by omega) (by omega) ⟨fun c296 => ?_, fun c296 => ?_⟩
                                      · refine kw_aload_n hC dX8_parts_319 rfl 0 rfl ?_
                                        refine kw_aload_n hC dX8_parts_320 rfl 0 rfl ?_
                                        refine kg_30_12 hC w8 f126 dX8_parts_321 rfl (by decide) (by decide) ?_
                                        have hpt : WV (W290 68 0) LEN (W290 30 0 0) := hw.eq (fun _ _ _ => rfl) (by omega) rfl
                                        have eP : wl (W290 68 0) LEN.toNat = AA := (wl_eq hLEN (fun j j0 j1 => hx j j0 (by omega))).trans eW
                                        refine kp_30_14 hC w8 f57 dX8_parts_324 rfl (by decide) (by decide) ?_
                                        refine kw_hv hfW290 (by unfold tR; omega) (fun S17 hfS17 hv17 ho17 => ?_)
                                        have hRS17 := hRS.fr hfS17
                                        have hnS17 := hRS17.n
                                        have enS17 : S17 30 0 0 = S 30 0 0 := hfS17 30 0 0 (by unfold tR; omega)
                                        have e12_17 : S17 30 0 12 = W290 30 0 12 := ho17 30 0 12 (by omega)
                                        replace hvv : WV (S17 51 0) (S17 30 0 12) (S17 30 0 0) := hvv.eq (fun j _ _ => ho17 51 0 j (by omega)) e12_17 (ho17 30 0 0 (by omega))
                                        replace hpt : WV (S17 68 0) LEN (S17 30 0 0) := hpt.eq (fun j _ _ => ho17 68 0 j (by omega)) rfl (ho17 30 0 0 (by omega))
                                        have x14 := hv17
                                        replace eP : wl (S17 68 0) LEN.toNat = AA := (wl_eq rfl (fun j _ _ => ho17 68 0 j (by omega))).trans eP
                                        replace eV : rV S17 = RR := (wl_eq (ho17 30 0 12 (by omega)) (fun j _ _ => ho17 51 0 j (by omega))).trans eV
                                        refine kw_iconst hC dX8_parts_327 rfl ?_
                                        refine kw_istore (lv' := [(8, _), (0, _), (1, _), (2, _), (3, _), (4, _), (5, _), (6, _), (7, _)]) hC dX8_parts_328 rfl (by decide) rfl ?_
                                        have hL330 : ∀ (n330 : Nat) (x : Int) (W330 : wSt), Fr tR S W330 → (0 ≤ x) → (x ≤ W330 30 0 12) → (WV (W330 53 0) x (W330 30 0 0)) → (∀ j, 0 ≤ j → j < x → W330 53 0 j = W330 51 0 j) → (rV W330 = RR) → (wl (W330 68 0) LEN.toNat = AA) → (WV (W330 68 0) LEN (W330 30 0 0)) → (W330 30 0 14 = W330 30 0 12) → (W330 30 0 12 ≤ 100) → (WV (W330 51 0) (W330 30 0 12) (W330 30 0 0)) → (0 ≤ W330 30 0 12) → W330 30 0 12 - x < (n330 : Int) → Wk E g 10 W330 330 [(0, vr g 30 0), (1, vi a), (2, vi b), (3, vi c), (4, vi d), (5, vi z), (6, vi s), (7, vi LEN), (8, vi x)] [] := by
                                          intro n330
                                          induction n330 with
                                          | zero => intro x W330 hfW330 x0 x1 hw hx eV eP hpt q14 v2 hvv v0 hm330; exact absurd hm330 (by omega)
                                          | succ n330 ih330 =>
                                            intro x W330 hfW330 x0 x1 hw hx eV eP hpt q14 v2 hvv v0 hm330
                                            have hRW330 := hRS.fr hfW330
                                            have hnW330 := hRW330.n
                                            have enW330 : W330 30 0 0 = S 30 0 0 := hfW330 30 0 0 (by unfold tR; omega)
                                            refine kw_iload hC dX8_parts_330 rfl 8 rfl ?_
                                            refine kw_aload_n hC dX8_parts_332 rfl 0 rfl ?_
                                            refine kg_30_12 hC w8 f126 dX8_parts_333 rfl (by decide) (by decide) ?_
                                            refine kw_icmp_ge (tgt := 359) hC dX8_parts_336 rfl (by decide) (by omega) (by omega) ⟨fun c336 => ?_, fun c336 => ?_⟩
                                            · have hwv : WV (W330 53 0) (W330 30 0 14) (W330 30 0 0) := hw.eq (fun _ _ _ => rfl) (by omega) rfl
                                              have eW : rW W330 = RR := (wl_eq q14 (fun j j0 j1 => hx j j0 (by omega))).trans eV
                                              refine kw_aload_n hC dX8_parts_359 rfl 0 rfl ?_
                                              refine kw_callV hC (f_X8_formOfW hD hRW330 hwv (by omega) (by omega)) gX8_parts_X8_formOfW ⟨_, rfl⟩ rfl (by decide) (by decide) rfl ⟨rfl, rfl⟩ 0 (by decide +kernel) ⟨by decide, by decide⟩ rfl rfl (Nat.le_of_ble_eq_true rfl) dX8_parts_360 rfl (kd_i (fun r19 S19 hp19 => ?_))
                                              obtain ⟨hg19, hp19⟩ := hp19
                                              have hfS19 : Fr tR S S19 := hfW330.trans (hg19.mono (fun k i j h => by unfold fW at h; unfold tR; omega))
                                              have hRS19 := hRS.fr hfS19
                                              have hnS19 := hRS19.n
                                              have enS19 : S19 30 0 0 = S 30 0 0 := hfS19 30 0 0 (by unfold tR; omega)
                                              obtain ⟨⟨w0, w1⟩, hwv, hq19⟩ := hp19
                                              rw [rM_eq (W := W330) (S := S) (hfW330 30 0 0 (by unfold tR; omega)) (fun j => hfW330 42 0 j (by unfold tR; omega)), rn_eq (W := W330) (S := S) (hfW330 30 0 0 (by unfold tR; omega))] at hq19
                                              rw [eW] at hq19
                                              have hfB := hq19
                                              replace hwv : WV (S19 53 0) (S19 30 0 14) (S19 30 0 0) := hwv.eq (fun _ _ _ => rfl) rfl (by omega)
                                              replace hpt : WV (S19 68 0) LEN (S19 30 0 0) := hpt.eq (fun j _ _ => hg19 68 0 j (by unfold fW; omega)) rfl (hg19 30 0 0 (by unfold fW; omega))
                                              replace eP : wl (S19 68 0) LEN.toNat = AA := (wl_eq rfl (fun j _ _ => hg19 68 0 j (by unfold fW; omega))).trans eP
                                              refine kw_if_ne (tgt := 369) hC dX8_parts_363 rfl (by decide) (by omega) ⟨fun c363 => ?_, fun c363 => ?_⟩
                                              · have hB9 := (hfB.resolve_left (fun z => by omega)).2.2
                                                refine kw_aload_n hC dX8_parts_369 rfl 0 rfl ?_
                                                refine kw_iload hC dX8_parts_370 rfl 4 rfl ?_
                                                refine kw_callV hC (d_X8_store hD (by omega) (by omega) hRS19 hwv (by omega) (by omega)) gX8_parts_X8_store ⟨_, rfl⟩ rfl (by decide) (by decide) rfl ⟨rfl, rfl⟩ 1 (by decide +kernel) ⟨by decide, by decide⟩ rfl rfl (Nat.le_of_ble_eq_true rfl) dX8_parts_372 rfl (kd_i (fun r21 S21 hp21 => ?_))
                                                have hst9 := st_rSl hRS19 (by omega) (by omega) (by omega) hp21
                                                obtain ⟨-, hRS21, hgV, -⟩ := hp21
                                                have hB8 : rSl S21 = upw (rSl S) d (rW S19) := by rw [hst9, rSl_tR hfS19]
                                                have hbW : Fr tW S S21 := (tR_tW hfS19).trans (fV_tW hgV)
                                                have hfS21 : Fr tR S21 S21 := Fr.rfl _ _
                                                have hnS21 := hRS21.n
                                                have eb0 : S21 30 0 0 = S19 30 0 0 := hgV 30 0 0 (by unfold fV; omega)
                                                replace hpt : WV (S21 68 0) LEN (S21 30 0 0) := hpt.eq (fun j _ _ => hgV 68 0 j (by unfold fV; omega)) rfl eb0
                                                replace eP : wl (S21 68 0) LEN.toNat = AA := (wl_eq rfl (fun j _ _ => hgV 68 0 j (by unfold fV; omega))).trans eP
                                                refine kw_istore (lv' := [(8, _), (0, _), (1, _), (2, _), (3, _), (4, _), (5, _), (6, _), (7, _)]) hC dX8_parts_375 rfl (by decide) rfl ?_
                                                refine kw_aload_n hC dX8_parts_377 rfl 1 rfl ?_
                                                refine kw_iload hC dX8_parts_378 rfl 8 rfl ?_
                                                refine kp_30_14 hC w8 f57 dX8_parts_380 rfl (by decide) (by decide) ?_
                                                refine kw_hv hfS21 (by unfold tR; omega) (fun S22 hfS22 hv22 ho22 => ?_)
                                                have hRS22 := hRS21.fr hfS22
                                                have hnS22 := hRS22.n
                                                have enS22 : S22 30 0 0 = S21 30 0 0 := hfS22 30 0 0 (by unfold tR; omega)
                                                replace hpt : WV (S22 68 0) LEN (S22 30 0 0) := hpt.eq (fun j _ _ => ho22 68 0 j (by omega)) rfl (ho22 30 0 0 (by omega))
                                                have x14 := hv22
                                                replace eP : wl (S22 68 0) LEN.toNat = AA := (wl_eq rfl (fun j _ _ => ho22 68 0 j (by omega))).trans eP
                                                refine kw_iconst hC dX8_parts_383 rfl ?_
                                                refine kw_istore (lv' := [(9, _), (8, _), (0, _), (1, _), (2, _), (3, _), (4, _), (5, _), (6, _), (7, _)]) hC dX8_parts_384 rfl (by decide) rfl ?_
                                                have hL386 : ∀ (n386 : Nat) (x : Int) (W386 : wSt), Fr tR S21 W386 → (0 ≤ x) → (x ≤ LEN) → (WV (W386 53 0) x (W386 30 0 0)) → (∀ j, 0 ≤ j → j < x → W386 53 0 j = W386 68 0 j) → (wl (W386 68 0) LEN.toNat = AA) → (WV (W386 68 0) LEN (W386 30 0 0)) → (W386 30 0 14 = LEN) → LEN - x < (n386 : Int) → Wk E g 10 W386 386 [(0, vr g 30 0), (3, vi c), (7, vi LEN), (9, vi x)] [] := by
                                                  intro n386
                                                  induction n386 with
                                                  | zero => intro x W386 hfW386 x0 x1 hw hx eP hpt q14 hm386; exact absurd hm386 (by omega)
                                                  | succ n386 ih386 =>
                                                    intro x W386 hfW386 x0 x1 hw hx eP hpt q14 hm386
                                                    have hRW386 := hRS21.fr hfW386
                                                    have hnW386 := hRW386.n
                                                    have enW386 : W386 30 0 0 = S21 30 0 0 := hfW386 30 0 0 (by unfold tR; omega)
                                                    refine kw_iload hC dX8_parts_386 rfl 3 rfl ?_
                                                    refine kw_iload hC dX8_parts_388 rfl 2 rfl ?_
                                                    refine kw_icmp_ge (tgt := 413) hC dX8_parts_390 rfl (by decide) (by omega) (by omega) ⟨fun c390 => ?_, fun c390 => ?_⟩
                                                    · have hwv : WV (W386 53 0) (W386 30 0 14) (W386 30 0 0) := hw.eq (fun _ _ _ => rfl) (by omega) rfl
                                                      replace hx : ∀ j, 0 ≤ j → j < LEN → W386 53 0 j = W386 68 0 j := fun j j0 j1 => hx j j0 (by omega)
                                                      refine kw_aload_n hC dX8_parts_413 rfl 0 rfl ?_
                                                      refine kw_iload_n hC dX8_parts_414 rfl 1 rfl ?_
                                                      refine kw_callV hC (d_X8_store hD (by omega) (by omega) hRW386 hwv (by omega) (by omega)) gX8_parts_X8_store ⟨_, rfl⟩ rfl (by decide) (by decide) rfl ⟨rfl, rfl⟩ 1 (by decide +kernel) ⟨by decide, by decide⟩ rfl rfl (Nat.le_of_ble_eq_true rfl) dX8_parts_415 rfl (kd_i (fun r9 Sz hp9 => ?_))
                                                      exact hR9.1 rfl _ _ _ _ dX8_parts_418 (by first | (exfalso; omega) | exact ⟨_, rfl, hRW386, tR_tW hfW386, by unfold fParts; rw [if_neg (by omega), rSl_tR hfW386]⟩ | exact ⟨_, rfl, hRW386, tR_tW hfW386, by have h9 := (hsh.resolve_right (fun z => by omega)).2.2; unfold fParts; rw [if_pos (by omega), ptP_n1 h9, rSl_tR hfW386]⟩ | exact ⟨_, rfl, hRW386, tR_tW hfW386, by have h9 := hfs.2.2.1 (bJ_t s0 c122) (by omega); rw [hRS9] at h9; unfold fParts; rw [if_pos (by omega), ptP_n2 hsA h9, rSl_tR hfW386]⟩ | exact ⟨_, rfl, hRW386, tR_tW hfW386, by have h8 := hTT; have h9 := hfB; have h7 := (h9.resolve_right (fun z => by omega)).2.2; unfold fParts; rw [if_pos (by omega), ptP_n4 hsA h8 hA9 h7, rSl_tR hfW386]⟩ | exact ⟨_, rfl, hRW386, tR_tW hfW386, by have h8 := hTT; have h9 := (hfA.resolve_right (fun z => by omega)).2.2; unfold fParts; rw [if_pos (by omega), ptP_n3 hsA h8 h9, rSl_tR hfW386]⟩ | exact ⟨_, rfl, hp9.2.1, hbW.trans ((tR_tW hfW386).trans (fV_tW hp9.2.2.1)), by have h9 := st_f hRW386 (by omega) (by omega) (by omega) (by omega) hp9 ((rSl_tR hfW386).trans hB8) (show rW W386 = AA from (wl_eq q14 hx).trans eP); unfold fParts; rw [if_pos (by omega), ptP_s hsA hTT hA9 hB9]; exact h9⟩)
                                                    · refine kw_aload_n hC dX8_parts_393 rfl 0 rfl ?_
                                                      refine kg_30_13 hC w8 f60 dX8_parts_394 rfl (by decide) (by decide) ?_
                                                      refine kw_iload hC dX8_parts_397 rfl 3 rfl ?_
                                                      refine kw_aload_n hC dX8_parts_399 rfl 0 rfl ?_
                                                      refine kg_30_28 hC w8 f223 dX8_parts_400 rfl (by decide) (by decide) ?_
                                                      refine kw_iload hC dX8_parts_403 rfl 3 rfl ?_
                                                      refine ka_68 hC dX8_parts_405 rfl (by decide) (by decide) (by omega) (by omega) ?_
                                                      have hvx := hpt x (by omega) (by omega)
                                                      refine ks_53 hC dX8_parts_406 rfl (by decide) (by decide) (by omega) (by omega) ?_
                                                      refine kw_hv hfW386 (by unfold tR; omega) (fun S24 hfS24 hv24 ho24 => ?_)
                                                      have hRS24 := hRS21.fr hfS24
                                                      have hnS24 := hRS24.n
                                                      have enS24 : S24 30 0 0 = S21 30 0 0 := hfS24 30 0 0 (by unfold tR; omega)
                                                      replace hpt : WV (S24 68 0) LEN (S24 30 0 0) := hpt.eq (fun j _ _ => ho24 68 0 j (by omega)) rfl (ho24 30 0 0 (by omega))
                                                      have hw9 : WV (S24 53 0) (x + 1) (S24 30 0 0) := (hw.add (fun j hj => ho24 53 0 j (by omega)) (by rw [hv24]; exact hvx)).eq (fun _ _ _ => rfl) rfl (ho24 30 0 0 (by omega))
                                                      have x14 := ho24 30 0 14 (by omega)
                                                      replace eP : wl (S24 68 0) LEN.toNat = AA := (wl_eq rfl (fun j _ _ => ho24 68 0 j (by omega))).trans eP
                                                      have hk1 : ∀ j, S24 68 0 j = W386 68 0 j := fun j => ho24 68 0 j (by omega)
                                                      refine kw_iinc (lv' := [(9, _), (0, _), (3, _), (7, _)]) hC dX8_parts_407 rfl 3 rfl (by decide) rfl ?_
                                                      refine kw_goto (tgt := 386) hC dX8_parts_410 rfl (by decide) ?_
                                                      refine kw_lv [1, 2, 3, 0] rfl ?_
                                                      exact ih386 (x + 1) S24 hfS24 (by omega) (by omega) hw9 (fun j j0 j1 => by rw [hk1]; rcases Decidable.em (j = x) with e | e; exact (by rw [e]; exact hv24); exact (by rw [ho24 53 0 j (by omega)]; exact hx j j0 (by omega))) eP hpt (by omega) (by omega)
                                                refine kw_lv [2, 5, 9, 0] rfl ?_
                                                exact hL386 101 0 S22 hfS22 (by omega) (by omega) (fun j _ _ => by omega) (fun j _ _ => by omega) eP hpt (by omega) (by omega)
                                              · refine kw_bipush hC dX8_parts_366 rfl (by decide) ?_
                                                exact hR9.1 rfl _ _ _ _ dX8_parts_368 (by first | (exfalso; omega) | exact ⟨_, rfl, hRS19, tR_tW hfS19, by unfold fParts; rw [if_neg (by omega), rSl_tR hfS19]⟩ | exact ⟨_, rfl, hRS19, tR_tW hfS19, by have h9 := (hsh.resolve_right (fun z => by omega)).2.2; unfold fParts; rw [if_pos (by omega), ptP_n1 h9, rSl_tR hfS19]⟩ | exact ⟨_, rfl, hRS19, tR_tW hfS19, by have h9 := hfs.2.2.1 (bJ_t s0 c122) (by omega); rw [hRS9] at h9; unfold fParts; rw [if_pos (by omega), ptP_n2 hsA h9, rSl_tR hfS19]⟩ | exact ⟨_, rfl, hRS19, tR_tW hfS19, by have h8 := hTT; have h9 := hfB; have h7 := (h9.resolve_right (fun z => by omega)).2.2; unfold fParts; rw [if_pos (by omega), ptP_n4 hsA h8 hA9 h7, rSl_tR hfS19]⟩ | exact ⟨_, rfl, hRS19, tR_tW hfS19, by have h8 := hTT; have h9 := (hfA.resolve_right (fun z => by omega)).2.2; unfold fParts; rw [if_pos (by omega), ptP_n3 hsA h8 h9, rSl_tR hfS19]⟩ | exact ⟨_, rfl, hp9.2.1, hbW.trans ((tR_tW hfS19).trans (fV_tW hp9.2.2.1)), by have h9 := st_f hRS19 (by omega) (by omega) (by omega) (by omega) hp9 ((rSl_tR hfS19).trans hB8) (show rW S19 = AA from (wl_eq q14 hx).trans eP); unfold fParts; rw [if_pos (by omega), ptP_s hsA hTT hA9 hB9]; exact h9⟩)
                                            · refine kw_aload_n hC dX8_parts_339 rfl 0 rfl ?_
                                              refine kg_30_13 hC w8 f60 dX8_parts_340 rfl (by decide) (by decide) ?_
                                              refine kw_iload hC dX8_parts_343 rfl 8 rfl ?_
                                              refine kw_aload_n hC dX8_parts_345 rfl 0 rfl ?_
                                              refine kg_30_11 hC w8 f129 dX8_parts_346 rfl (by decide) (by decide) ?_
                                              refine kw_iload hC dX8_parts_349 rfl 8 rfl ?_
                                              refine ka_51 hC dX8_parts_351 rfl (by decide) (by decide) (by omega) (by omega) ?_
                                              have hvx := hvv x (by omega) (by omega)
                                              refine ks_53 hC dX8_parts_352 rfl (by decide) (by decide) (by omega) (by omega) ?_
                                              refine kw_hv hfW330 (by unfold tR; omega) (fun S25 hfS25 hv25 ho25 => ?_)
                                              have hRS25 := hRS.fr hfS25
                                              have hnS25 := hRS25.n
                                              have enS25 : S25 30 0 0 = S 30 0 0 := hfS25 30 0 0 (by unfold tR; omega)
                                              have e12_25 : S25 30 0 12 = W330 30 0 12 := ho25 30 0 12 (by omega)
                                              replace hvv : WV (S25 51 0) (S25 30 0 12) (S25 30 0 0) := hvv.eq (fun j _ _ => ho25 51 0 j (by omega)) e12_25 (ho25 30 0 0 (by omega))
                                              have e14_25 : S25 30 0 14 = W330 30 0 14 := ho25 30 0 14 (by omega)
                                              replace hpt : WV (S25 68 0) LEN (S25 30 0 0) := hpt.eq (fun j _ _ => ho25 68 0 j (by omega)) rfl (ho25 30 0 0 (by omega))
                                              have hw9 : WV (S25 53 0) (x + 1) (S25 30 0 0) := (hw.add (fun j hj => ho25 53 0 j (by omega)) (by rw [hv25]; exact hvx)).eq (fun _ _ _ => rfl) rfl (ho25 30 0 0 (by omega))
                                              replace eP : wl (S25 68 0) LEN.toNat = AA := (wl_eq rfl (fun j _ _ => ho25 68 0 j (by omega))).trans eP
                                              replace eV : rV S25 = RR := (wl_eq (ho25 30 0 12 (by omega)) (fun j _ _ => ho25 51 0 j (by omega))).trans eV
                                              have hk1 : ∀ j, S25 51 0 j = W330 51 0 j := fun j => ho25 51 0 j (by omega)
                                              refine kw_iinc (lv' := [(8, _), (0, _), (1, _), (2, _), (3, _), (4, _), (5, _), (6, _), (7, _)]) hC dX8_parts_353 rfl 8 rfl (by decide) rfl ?_
                                              refine kw_goto (tgt := 330) hC dX8_parts_356 rfl (by decide) ?_
                                              refine kw_lv [1, 2, 3, 4, 5, 6, 7, 8, 0] rfl ?_
                                              exact ih330 (x + 1) S25 hfS25 (by omega) (by omega) hw9 (fun j j0 j1 => by rw [hk1]; rcases Decidable.em (j = x) with e | e; exact (by rw [e]; exact hv25); exact (by rw [ho25 53 0 j (by omega)]; exact hx j j0 (by omega))) eV eP hpt (by omega) (by omega) hvv (by omega) (by omega)
                                        refine kw_lv [1, 2, 3, 4, 5, 6, 7, 8, 0] rfl ?_
                                        exact hL330 101 0 S17 hfS17 (by omega) (by omega) (fun j _ _ => by omega) (fun j _ _ => by omega) eV eP hpt (by omega) (by omega) hvv (by omega) (by omega)
                                      · refine kw_aload_n hC dX8_parts_299 rfl 0 rfl ?_
                                        refine kg_30_28 hC w8 f223 dX8_parts_300 rfl (by decide) (by decide) ?_
                                        refine kw_iload hC dX8_parts_303 rfl 8 rfl ?_
                                        refine kw_aload_n hC dX8_parts_305 rfl 0 rfl ?_
                                        refine kg_30_13 hC w8 f60 dX8_parts_306 rfl (by decide) (by decide) ?_
                                        refine kw_iload hC dX8_parts_309 rfl 8 rfl ?_
                                        refine ka_53 hC dX8_parts_311 rfl (by decide) (by decide) (by omega) (by omega) ?_
                                        have hvx := hwv x (by omega) (by omega)
                                        refine ks_68 hC dX8_parts_312 rfl (by decide) (by decide) (by omega) (by omega) ?_
                                        refine kw_hv hfW290 (by unfold tR; omega) (fun S26 hfS26 hv26 ho26 => ?_)
                                        have hRS26 := hRS.fr hfS26
                                        have hnS26 := hRS26.n
                                        have enS26 : S26 30 0 0 = S 30 0 0 := hfS26 30 0 0 (by unfold tR; omega)
                                        have e14_26 : S26 30 0 14 = W290 30 0 14 := ho26 30 0 14 (by omega)
                                        replace hwv : WV (S26 53 0) (S26 30 0 14) (S26 30 0 0) := hwv.eq (fun j _ _ => ho26 53 0 j (by omega)) e14_26 (ho26 30 0 0 (by omega))
                                        have e12_26 : S26 30 0 12 = W290 30 0 12 := ho26 30 0 12 (by omega)
                                        replace hvv : WV (S26 51 0) (S26 30 0 12) (S26 30 0 0) := hvv.eq (fun j _ _ => ho26 51 0 j (by omega)) e12_26 (ho26 30 0 0 (by omega))
                                        have hw9 : WV (S26 68 0) (x + 1) (S26 30 0 0) := (hw.add (fun j hj => ho26 68 0 j (by omega)) (by rw [hv26]; exact hvx)).eq (fun _ _ _ => rfl) rfl (ho26 30 0 0 (by omega))
                                        replace eV : rV S26 = RR := (wl_eq (ho26 30 0 12 (by omega)) (fun j _ _ => ho26 51 0 j (by omega))).trans eV
                                        replace eW : rW S26 = AA := (wl_eq (ho26 30 0 14 (by omega)) (fun j _ _ => ho26 53 0 j (by omega))).trans eW
                                        have hk1 : ∀ j, S26 53 0 j = W290 53 0 j := fun j => ho26 53 0 j (by omega)
                                        refine kw_iinc (lv' := [(8, _), (0, _), (1, _), (2, _), (3, _), (4, _), (5, _), (6, _), (7, _)]) hC dX8_parts_313 rfl 8 rfl (by decide) rfl ?_
                                        refine kw_goto (tgt := 290) hC dX8_parts_316 rfl (by decide) ?_
                                        refine kw_lv [1, 2, 3, 4, 5, 6, 7, 8, 0] rfl ?_
                                        exact ih290 (x + 1) S26 hfS26 (by omega) (by omega) hw9 (fun j j0 j1 => by rw [hk1]; rcases Decidable.em (j = x) with e | e; exact (by rw [e]; exact hv26); exact (by rw [ho26 68 0 j (by omega)]; exact hx j j0 (by omega))) eW eV (by omega) (by omega) hvv (by omega) hwv (by omega) (by omega) (by omega)
                                  refine kw_lv [2, 3, 4, 5, 6, 7, 8, 1, 0] rfl ?_
                                  exact hL290 101 0 S14 hfS14 (by omega) (by omega) (fun j _ _ => by omega) (fun j _ _ => by omega) eW eV (by omega) (by omega) hvv (by omega) hwv (by omega) (by omega) (by omega)
                                · refine kw_bipush hC dX8_parts_278 rfl (by decide) ?_
                                  exact hR9.1 rfl _ _ _ _ dX8_parts_280 (by first | (exfalso; omega) | exact ⟨_, rfl, hRS14, tR_tW hfS14, by unfold fParts; rw [if_neg (by omega), rSl_tR hfS14]⟩ | exact ⟨_, rfl, hRS14, tR_tW hfS14, by have h9 := (hsh.resolve_right (fun z => by omega)).2.2; unfold fParts; rw [if_pos (by omega), ptP_n1 h9, rSl_tR hfS14]⟩ | exact ⟨_, rfl, hRS14, tR_tW hfS14, by have h9 := hfs.2.2.1 (bJ_t s0 c122) (by omega); rw [hRS9] at h9; unfold fParts; rw [if_pos (by omega), ptP_n2 hsA h9, rSl_tR hfS14]⟩ | exact ⟨_, rfl, hRS14, tR_tW hfS14, by have h8 := hTT; have h9 := hfB; have h7 := (h9.resolve_right (fun z => by omega)).2.2; unfold fParts; rw [if_pos (by omega), ptP_n4 hsA h8 hA9 h7, rSl_tR hfS14]⟩ | exact ⟨_, rfl, hRS14, tR_tW hfS14, by have h8 := hTT; have h9 := (hfA.resolve_right (fun z => by omega)).2.2; unfold fParts; rw [if_pos (by omega), ptP_n3 hsA h8 h9, rSl_tR hfS14]⟩ | exact ⟨_, rfl, hp9.2.1, hbW.trans ((tR_tW hfS14).trans (fV_tW hp9.2.2.1)), by have h9 := st_f hRS14 (by omega) (by omega) (by omega) (by omega) hp9 ((rSl_tR hfS14).trans hB8) (show rW S14 = AA from (wl_eq q14 hx).trans eP); unfold fParts; rw [if_pos (by omega), ptP_s hsA hTT hA9 hB9]; exact h9⟩)
                              · refine kw_aload_n hC dX8_parts_243 rfl 0 rfl ?_
                                refine kg_30_11 hC w8 f129 dX8_parts_244 rfl (by decide) (by decide) ?_
                                refine kw_iload hC dX8_parts_247 rfl 7 rfl ?_
                                refine kw_aload_n hC dX8_parts_249 rfl 0 rfl ?_
                                refine kg_30_7 hC w8 f95 dX8_parts_250 rfl (by decide) (by decide) ?_
                                refine kw_iload hC dX8_parts_253 rfl 7 rfl ?_
                                refine ka_47 hC dX8_parts_255 rfl (by decide) (by decide) (by omega) (by omega) ?_
                                have hvx := hrv x (by omega) (by omega)
                                refine ks_51 hC dX8_parts_256 rfl (by decide) (by decide) (by omega) (by omega) ?_
                                refine kw_hv hfW234 (by unfold tR; omega) (fun S27 hfS27 hv27 ho27 => ?_)
                                have hRS27 := hRS.fr hfS27
                                have hnS27 := hRS27.n
                                have enS27 : S27 30 0 0 = S 30 0 0 := hfS27 30 0 0 (by unfold tR; omega)
                                have e14_27 : S27 30 0 14 = W234 30 0 14 := ho27 30 0 14 (by omega)
                                replace hwv : WV (S27 53 0) (S27 30 0 14) (S27 30 0 0) := hwv.eq (fun j _ _ => ho27 53 0 j (by omega)) e14_27 (ho27 30 0 0 (by omega))
                                have e8_27 : S27 30 0 8 = W234 30 0 8 := ho27 30 0 8 (by omega)
                                replace hrv : WV (S27 47 0) (S27 30 0 8) (S27 30 0 0) := hrv.eq (fun j _ _ => ho27 47 0 j (by omega)) e8_27 (ho27 30 0 0 (by omega))
                                have hw9 : WV (S27 51 0) (x + 1) (S27 30 0 0) := (hw.add (fun j hj => ho27 51 0 j (by omega)) (by rw [hv27]; exact hvx)).eq (fun _ _ _ => rfl) rfl (ho27 30 0 0 (by omega))
                                replace eW : rW S27 = VV := (wl_eq (ho27 30 0 14 (by omega)) (fun j _ _ => ho27 53 0 j (by omega))).trans eW
                                replace eR : rR S27 = RR := (wl_eq (ho27 30 0 8 (by omega)) (fun j _ _ => ho27 47 0 j (by omega))).trans eR
                                have hk1 : ∀ j, S27 47 0 j = W234 47 0 j := fun j => ho27 47 0 j (by omega)
                                refine kw_iinc (lv' := [(7, _), (0, _), (1, _), (2, _), (3, _), (4, _), (5, _), (6, _)]) hC dX8_parts_257 rfl 7 rfl (by decide) rfl ?_
                                refine kw_goto (tgt := 234) hC dX8_parts_260 rfl (by decide) ?_
                                refine kw_lv [1, 2, 3, 4, 5, 6, 7, 0] rfl ?_
                                exact ih234 (x + 1) S27 hfS27 (by omega) (by omega) hw9 (fun j j0 j1 => by rw [hk1]; rcases Decidable.em (j = x) with e | e; exact (by rw [e]; exact hv27); exact (by rw [ho27 51 0 j (by omega)]; exact hx j j0 (by omega))) eW eR (by omega) hrv (by omega) hwv (by omega) (by omega) (by omega)
                          refine kw_lv [1, 2, 3, 4, 5, 6, 7, 0] rfl ?_
                          exact hL234 101 0 S11 hfS11 (by omega) (by omega) (fun j _ _ => by omega) (fun j _ _ => by omega) eW eR (by omega) hrv (by omega) hwv (by omega) (by omega) (by omega)
                        · refine kw_aload_n hC dX8_parts_203 rfl 0 rfl ?_
                          refine kg_30_13 hC w8 f60 dX8_parts_204 rfl (by decide) (by decide) ?_
                          refine kw_iload hC dX8_parts_207 rfl 7 rfl ?_
                          refine kw_aload_n hC dX8_parts_209 rfl 0 rfl ?_
                          refine kg_30_11 hC w8 f129 dX8_parts_210 rfl (by decide) (by decide) ?_
                          refine kw_iload hC dX8_parts_213 rfl 7 rfl ?_
                          refine ka_51 hC dX8_parts_215 rfl (by decide) (by decide) (by omega) (by omega) ?_
                          have hvx := hvv x (by omega) (by omega)
                          refine ks_53 hC dX8_parts_216 rfl (by decide) (by decide) (by omega) (by omega) ?_
                          refine kw_hv hfW194 (by unfold tR; omega) (fun S28 hfS28 hv28 ho28 => ?_)
                          have hRS28 := hRS.fr hfS28
                          have hnS28 := hRS28.n
                          have enS28 : S28 30 0 0 = S 30 0 0 := hfS28 30 0 0 (by unfold tR; omega)
                          have e12_28 : S28 30 0 12 = W194 30 0 12 := ho28 30 0 12 (by omega)
                          replace hvv : WV (S28 51 0) (S28 30 0 12) (S28 30 0 0) := hvv.eq (fun j _ _ => ho28 51 0 j (by omega)) e12_28 (ho28 30 0 0 (by omega))
                          have e8_28 : S28 30 0 8 = W194 30 0 8 := ho28 30 0 8 (by omega)
                          replace hrv : WV (S28 47 0) (S28 30 0 8) (S28 30 0 0) := hrv.eq (fun j _ _ => ho28 47 0 j (by omega)) e8_28 (ho28 30 0 0 (by omega))
                          have hw9 : WV (S28 53 0) (x + 1) (S28 30 0 0) := (hw.add (fun j hj => ho28 53 0 j (by omega)) (by rw [hv28]; exact hvx)).eq (fun _ _ _ => rfl) rfl (ho28 30 0 0 (by omega))
                          replace eV : rV S28 = VV := (wl_eq (ho28 30 0 12 (by omega)) (fun j _ _ => ho28 51 0 j (by omega))).trans eV
                          replace eR : rR S28 = RR := (wl_eq (ho28 30 0 8 (by omega)) (fun j _ _ => ho28 47 0 j (by omega))).trans eR
                          have hk1 : ∀ j, S28 51 0 j = W194 51 0 j := fun j => ho28 51 0 j (by omega)
                          refine kw_iinc (lv' := [(7, _), (0, _), (1, _), (2, _), (3, _), (4, _), (5, _), (6, _)]) hC dX8_parts_217 rfl 7 rfl (by decide) rfl ?_
                          refine kw_goto (tgt := 194) hC dX8_parts_220 rfl (by decide) ?_
                          refine kw_lv [1, 2, 3, 4, 5, 6, 7, 0] rfl ?_
                          exact ih194 (x + 1) S28 hfS28 (by omega) (by omega) hw9 (fun j j0 j1 => by rw [hk1]; rcases Decidable.em (j = x) with e | e; exact (by rw [e]; exact hv28); exact (by rw [ho28 53 0 j (by omega)]; exact hx j j0 (by omega))) eV eR hrv (by omega) hvv (by omega) (by omega) (by omega)
                    refine kw_lv [1, 2, 3, 4, 5, 6, 7, 0] rfl ?_
                    exact hL194 101 0 W105 hfW105 (by omega) (by omega) (fun j _ _ => by omega) (fun j _ _ => by omega) hVV.symm hRR.symm hrv (by omega) hvv (by omega) (by omega) (by omega)
                  · have hfs := frs_s hT s0 (by omega)
                    refine kw_iload hC dX8_parts_114 rfl 5 rfl ?_
                    refine kw_iload hC dX8_parts_116 rfl 6 rfl ?_
                    refine kw_ishrX hC dX8_parts_118 rfl ?_
                    refine kw_iconst hC dX8_parts_119 rfl ?_
                    refine kw_iandX hC dX8_parts_120 rfl ?_
                    refine kw_iconst hC dX8_parts_121 rfl ?_
                    refine kw_icmp_ne (tgt := 134) hC dX8_parts_122 rfl (by decide) (xi_r _) (by omega) ⟨fun c122 => ?_, fun c122 => ?_⟩
                    · refine kw_iconst hC dX8_parts_134 rfl ?_
                      refine kw_istore (lv' := [(7, _), (0, _), (1, _), (2, _), (3, _), (4, _), (5, _), (6, _)]) hC dX8_parts_135 rfl (by decide) rfl ?_
                      refine kw_aload_n hC dX8_parts_137 rfl 1 rfl ?_
                      refine kg_30_16 hC w8 f81 dX8_parts_138 rfl (by decide) (by decide) ?_
                      refine kw_if_eq (tgt := 147) hC dX8_parts_141 rfl (by decide) (by omega) ⟨fun c141 => ?_, fun c141 => ?_⟩
                      · refine kw_iload hC dX8_parts_147 rfl 0 rfl ?_
                        refine kw_if_lt (tgt := 185) hC dX8_parts_149 rfl (by decide) (by omega) ⟨fun c149 => ?_, fun c149 => ?_⟩
                        · refine kw_iinc (lv' := [(6, _), (7, _), (0, _), (1, _), (2, _), (3, _), (4, _), (5, _)]) hC dX8_parts_185 rfl 7 rfl (by decide) rfl ?_
                          refine kw_goto (tgt := 105) hC dX8_parts_188 rfl (by decide) ?_
                          refine kw_lv [2, 3, 4, 5, 6, 7, 0] rfl ?_
                          exact ih105 _ W105 hfW105 (by omega) (by omega) (by omega) hrv (by omega) hvv (by omega) (by omega) (by omega) (by first | (exfalso; omega) | (rw [eR3, eV3]; exact hfs.2.2.2 (bJ_t s0 c122) (by omega)) | (rw [eR9, eV9]; exact hfs.2.1 (bJ_t s0 c122) (by omega)) | exact hfs.1 (bJ_f s0 c122) | (rw [eR9, eV9]; exact hfs.2.1 (bJ_t s0 c122) (by omega)) | (rw [eR3, eV3]; exact hfs.2.2.2 (bJ_t s0 c122) (by omega))) (by omega)
                        · refine kw_aload_n hC dX8_parts_152 rfl 1 rfl ?_
                          refine kw_iload hC dX8_parts_153 rfl 0 rfl ?_
                          refine kw_callV hC (d_X8_goesFromR hD (by omega) (by omega) (by omega)) gX8_parts_X8_goesFromR ⟨_, rfl⟩ rfl (by decide) (by decide) rfl ⟨rfl, rfl⟩ 1 (by decide +kernel) ⟨by decide, by decide⟩ rfl rfl (Nat.le_of_ble_eq_true rfl) dX8_parts_155 rfl (kd_v (fun S32 hp32 => ?_))
                          obtain ⟨hg32, hp32⟩ := hp32
                          have hfS32 : Fr tR S S32 := hfW105.trans (hg32.mono (fun k i j h => by unfold fG at h; unfold tR; omega))
                          have hRS32 := hRS.fr hfS32
                          have hnS32 := hRS32.n
                          have enS32 : S32 30 0 0 = S 30 0 0 := hfS32 30 0 0 (by unfold tR; omega)
                          obtain ⟨q8, qr1, qr2⟩ := hp32
                          have eR1 : rR S32 = (rR W105).eraseIdx _ := (wl_eq q8 (fun _ _ _ => rfl)).trans (wl_del (by omega) (by omega) qr1 qr2)
                          try rw [eR9, hrb.resolve_left (by omega)] at eR1
                          have eV1 : rV S32 = rV W105 := wl_eq (hg32 30 0 12 (by unfold fG; omega)) (fun j _ _ => hg32 51 0 j (by unfold fG; omega))
                          try rw [eV9] at eV1
                          replace hrv : WV (S32 47 0) (S32 30 0 8) (S32 30 0 0) := (q8 ▸ WV.del hrv qr1 qr2 (by omega)).eq (fun _ _ _ => rfl) rfl (hg32 30 0 0 (by unfold fG; omega))
                          have e12_32 : S32 30 0 12 = W105 30 0 12 := hg32 30 0 12 (by unfold fG; omega)
                          replace hvv : WV (S32 51 0) (S32 30 0 12) (S32 30 0 0) := hvv.eq (fun j _ _ => hg32 51 0 j (by unfold fG; omega)) e12_32 (hg32 30 0 0 (by unfold fG; omega))
                          have e1632 : S32 30 0 16 = W105 30 0 16 := hg32 30 0 16 (by unfold fG; omega)
                          refine kw_aload_n hC dX8_parts_158 rfl 1 rfl ?_
                          refine kg_30_11 hC w8 f129 dX8_parts_159 rfl (by decide) (by decide) ?_
                          refine kw_aload_n hC dX8_parts_162 rfl 1 rfl ?_
                          refine kg_30_12 hC w8 f126 dX8_parts_163 rfl (by decide) (by decide) ?_
                          refine kw_iload hC dX8_parts_166 rfl 7 rfl ?_
                          refine ks_51 hC dX8_parts_168 rfl (by decide) (by decide) (by omega) (by omega) ?_
                          refine kw_hv hfS32 (by unfold tR; omega) (fun S33 hfS33 hv33 ho33 => ?_)
                          have hRS33 := hRS.fr hfS33
                          have hnS33 := hRS33.n
                          have enS33 : S33 30 0 0 = S 30 0 0 := hfS33 30 0 0 (by unfold tR; omega)
                          have e8_33 : S33 30 0 8 = S32 30 0 8 := ho33 30 0 8 (by omega)
                          replace hrv : WV (S33 47 0) (S33 30 0 8) (S33 30 0 0) := hrv.eq (fun j _ _ => ho33 47 0 j (by omega)) e8_33 (ho33 30 0 0 (by omega))
                          have e12_33 : S33 30 0 12 = S32 30 0 12 := ho33 30 0 12 (by omega)
                          have e1633 : S33 30 0 16 = S32 30 0 16 := ho33 30 0 16 (by omega)
                          have hv8 : WV (S33 51 0) (S32 30 0 12 + 1) (S33 30 0 0) := (hvv.add (fun j hj => ho33 51 0 j (by omega)) (by rw [hv33]; omega)).eq (fun _ _ _ => rfl) rfl (ho33 30 0 0 (by omega))
                          have eR2 : rR S33 = rR S32 := wl_eq (ho33 30 0 8 (by omega)) (fun j _ _ => ho33 47 0 j (by omega))
                          rw [eR1] at eR2
                          have eV2 : wl (S33 51 0) (S32 30 0 12 + 1).toNat = rV S32 ++ [s.toNat] := wl_add (by omega) (fun j _ _ => ho33 51 0 j (by omega)) hv33
                          try rw [eV1] at eV2
                          have eVX : ∀ m : Int, m = S32 30 0 12 + 1 → wl (S33 51 0) m.toNat = _ := fun m hm => (congrArg (fun q : Int => wl (S33 51 0) q.toNat) hm).trans eV2
                          refine kw_aload_n hC dX8_parts_169 rfl 1 rfl ?_
                          refine kw_dup hC dX8_parts_170 rfl rfl ?_
                          refine kg_30_12 hC w8 f126 dX8_parts_171 rfl (by decide) (by decide) ?_
                          refine kw_iconst hC dX8_parts_174 rfl ?_
                          refine kw_iadd hC dX8_parts_175 rfl ?_
                          refine kp_30_12 hC w8 f126 dX8_parts_176 rfl (by decide) (by decide) ?_
                          refine kw_hv hfS33 (by unfold tR; omega) (fun S34 hfS34 hv34 ho34 => ?_)
                          have hRS34 := hRS.fr hfS34
                          have hnS34 := hRS34.n
                          have enS34 : S34 30 0 0 = S 30 0 0 := hfS34 30 0 0 (by unfold tR; omega)
                          have e8_34 : S34 30 0 8 = S33 30 0 8 := ho34 30 0 8 (by omega)
                          replace hrv : WV (S34 47 0) (S34 30 0 8) (S34 30 0 0) := hrv.eq (fun j _ _ => ho34 47 0 j (by omega)) e8_34 (ho34 30 0 0 (by omega))
                          have e1634 : S34 30 0 16 = S33 30 0 16 := ho34 30 0 16 (by omega)
                          have x12 := hv34
                          have hvv : WV (S34 51 0) (S34 30 0 12) (S34 30 0 0) := hv8.eq (fun j _ _ => ho34 51 0 j (by omega)) (by omega) (ho34 30 0 0 (by omega))
                          have eR3 : rR S34 = rR S33 := wl_eq (ho34 30 0 8 (by omega)) (fun j _ _ => ho34 47 0 j (by omega))
                          rw [eR2] at eR3
                          have eV3 : rV S34 = _ := (wl_eq (f := S33 51 0) (m := S34 30 0 12) rfl (fun j _ _ => ho34 51 0 j (by omega))).trans (eVX _ (by omega))
                          refine kw_iconst hC dX8_parts_179 rfl ?_
                          refine kw_istore (lv' := [(6, _), (7, _), (0, _), (1, _), (2, _), (3, _), (4, _), (5, _)]) hC dX8_parts_180 rfl (by decide) rfl ?_
                          refine kw_goto (tgt := 188) hC dX8_parts_182 rfl (by decide) ?_
                          refine kw_goto (tgt := 105) hC dX8_parts_188 rfl (by decide) ?_
                          refine kw_lv [2, 3, 4, 5, 6, 7, 0] rfl ?_
                          exact ih105 _ S34 hfS34 (by omega) (by omega) (by omega) hrv (by omega) hvv (by omega) (by omega) (by omega) (by first | (exfalso; omega) | (rw [eR3, eV3]; exact hfs.2.2.2 (bJ_t s0 c122) (by omega)) | (rw [eR9, eV9]; exact hfs.2.1 (bJ_t s0 c122) (by omega)) | exact hfs.1 (bJ_f s0 c122) | (rw [eR9, eV9]; exact hfs.2.1 (bJ_t s0 c122) (by omega)) | (rw [eR3, eV3]; exact hfs.2.2.2 (bJ_t s0 c122) (by omega))) (by omega)
                      · refine kw_bipush hC dX8_parts_144 rfl (by decide) ?_
                        exact hR9.1 rfl _ _ _ _ dX8_parts_146 (by first | (exfalso; omega) | exact ⟨_, rfl, hRW105, tR_tW hfW105, by unfold fParts; rw [if_neg (by omega), rSl_tR hfW105]⟩ | exact ⟨_, rfl, hRW105, tR_tW hfW105, by have h9 := (hsh.resolve_right (fun z => by omega)).2.2; unfold fParts; rw [if_pos (by omega), ptP_n1 h9, rSl_tR hfW105]⟩ | exact ⟨_, rfl, hRW105, tR_tW hfW105, by have h9 := hfs.2.2.1 (bJ_t s0 c122) (by omega); rw [hRS9] at h9; unfold fParts; rw [if_pos (by omega), ptP_n2 hsA h9, rSl_tR hfW105]⟩ | exact ⟨_, rfl, hRW105, tR_tW hfW105, by have h8 := hTT; have h9 := hfB; have h7 := (h9.resolve_right (fun z => by omega)).2.2; unfold fParts; rw [if_pos (by omega), ptP_n4 hsA h8 hA9 h7, rSl_tR hfW105]⟩ | exact ⟨_, rfl, hRW105, tR_tW hfW105, by have h8 := hTT; have h9 := (hfA.resolve_right (fun z => by omega)).2.2; unfold fParts; rw [if_pos (by omega), ptP_n3 hsA h8 h9, rSl_tR hfW105]⟩ | exact ⟨_, rfl, hp9.2.1, hbW.trans ((tR_tW hfW105).trans (fV_tW hp9.2.2.1)), by have h9 := st_f hRW105 (by omega) (by omega) (by omega) (by omega) hp9 ((rSl_tR hfW105).trans hB8) (show rW W105 = AA from (wl_eq q14 hx).trans eP); unfold fParts; rw [if_pos (by omega), ptP_s hsA hTT hA9 hB9]; exact h9⟩)
                    · refine kw_aload_n hC dX8_parts_125 rfl 0 rfl ?_
                      refine kw_iload hC dX8_parts_126 rfl 6 rfl ?_
                      refine kw_callV hC (f_X8_ahead hD (by omega) (by omega) hRW105 hrv (by omega) (by omega) hgw) gX8_parts_X8_ahead ⟨_, rfl⟩ rfl (by decide) (by decide) rfl ⟨rfl, rfl⟩ 1 (by decide +kernel) ⟨by decide, by decide⟩ rfl rfl (Nat.le_of_ble_eq_true rfl) dX8_parts_128 rfl (kd_i (fun r35 S35 hp35 => ?_))
                      obtain ⟨hg35, hp35⟩ := hp35
                      have hfS35 : Fr tR S S35 := hfW105.trans (hg35.mono (fun k i j h => by unfold fT at h; unfold tR; omega))
                      have hRS35 := hRS.fr hfS35
                      have hnS35 := hRS35.n
                      have enS35 : S35 30 0 0 = S 30 0 0 := hfS35 30 0 0 (by unfold tR; omega)
                      have hq35 := hp35
                      rw [rM_eq (W := W105) (S := S) (hfW105 30 0 0 (by unfold tR; omega)) (fun j => hfW105 42 0 j (by unfold tR; omega)), rn_eq (W := W105) (S := S) (hfW105 30 0 0 (by unfold tR; omega))] at hq35
                      have hk9 := hq35
                      have har := ah_r (rM S) (rn S) (rR W105) s.toNat
                      have hlr : ((rR W105).length : Int) = W105 30 0 8 := by unfold rR; rw [wl_len]; omega
                      have hrb : r35 < 0 ∨ r35 = ah (rM S) (rn S) (rR W105) s.toNat := by omega
                      have eR9 : rR S35 = rR W105 := wl_eq (hg35 30 0 8 (by unfold fT; omega)) (fun j _ _ => hg35 47 0 j (by unfold fT; omega))
                      have eV9 : rV S35 = rV W105 := wl_eq (hg35 30 0 12 (by unfold fT; omega)) (fun j _ _ => hg35 51 0 j (by unfold fT; omega))
                      have e8_35 : S35 30 0 8 = W105 30 0 8 := hg35 30 0 8 (by unfold fT; omega)
                      replace hrv : WV (S35 47 0) (S35 30 0 8) (S35 30 0 0) := hrv.eq (fun j _ _ => hg35 47 0 j (by unfold fT; omega)) e8_35 (hg35 30 0 0 (by unfold fT; omega))
                      have e12_35 : S35 30 0 12 = W105 30 0 12 := hg35 30 0 12 (by unfold fT; omega)
                      replace hvv : WV (S35 51 0) (S35 30 0 12) (S35 30 0 0) := hvv.eq (fun j _ _ => hg35 51 0 j (by unfold fT; omega)) e12_35 (hg35 30 0 0 (by unfold fT; omega))
                      refine kw_goto (tgt := 135) hC dX8_parts_131 rfl (by decide) ?_
                      refine kw_istore (lv' := [(7, _), (0, _), (1, _), (2, _), (3, _), (4, _), (5, _), (6, _)]) hC dX8_parts_135 rfl (by decide) rfl ?_
                      refine kw_aload_n hC dX8_parts_137 rfl 1 rfl ?_
                      refine kg_30_16 hC w8 f81 dX8_parts_138 rfl (by decide) (by decide) ?_
                      refine kw_if_eq (tgt := 147) hC dX8_parts_141 rfl (by decide) (by omega) ⟨fun c141 => ?_, fun c141 => ?_⟩
                      · refine kw_iload hC dX8_parts_147 rfl 0 rfl ?_
                        refine kw_if_lt (tgt := 185) hC dX8_parts_149 rfl (by decide) (by omega) ⟨fun c149 => ?_, fun c149 => ?_⟩
                        · refine kw_iinc (lv' := [(6, _), (7, _), (0, _), (1, _), (2, _), (3, _), (4, _), (5, _)]) hC dX8_parts_185 rfl 7 rfl (by decide) rfl ?_
                          refine kw_goto (tgt := 105) hC dX8_parts_188 rfl (by decide) ?_
                          refine kw_lv [2, 3, 4, 5, 6, 7, 0] rfl ?_
                          exact ih105 _ S35 hfS35 (by omega) (by omega) (by omega) hrv (by omega) hvv (by omega) (by omega) (by omega) (by first | (exfalso; omega) | (rw [eR3, eV3]; exact hfs.2.2.2 (bJ_t s0 c122) (by omega)) | (rw [eR9, eV9]; exact hfs.2.1 (bJ_t s0 c122) (by omega)) | exact hfs.1 (bJ_f s0 c122) | (rw [eR9, eV9]; exact hfs.2.1 (bJ_t s0 c122) (by omega)) | (rw [eR3, eV3]; exact hfs.2.2.2 (bJ_t s0 c122) (by omega))) (by omega)
                        · refine kw_aload_n hC dX8_parts_152 rfl 1 rfl ?_
                          refine kw_iload hC dX8_parts_153 rfl 0 rfl ?_
                          refine kw_callV hC (d_X8_goesFromR hD (by omega) (by omega) (by omega)) gX8_parts_X8_goesFromR ⟨_, rfl⟩ rfl (by decide) (by decide) rfl ⟨rfl, rfl⟩ 1 (by decide +kernel) ⟨by decide, by decide⟩ rfl rfl (Nat.le_of_ble_eq_true rfl) dX8_parts_155 rfl (kd_v (fun S38 hp38 => ?_))
                          obtain ⟨hg38, hp38⟩ := hp38
                          have hfS38 : Fr tR S S38 := hfS35.trans (hg38.mono (fun k i j h => by unfold fG at h; unfold tR; omega))
                          have hRS38 := hRS.fr hfS38
                          have hnS38 := hRS38.n
                          have enS38 : S38 30 0 0 = S 30 0 0 := hfS38 30 0 0 (by unfold tR; omega)
                          obtain ⟨q8, qr1, qr2⟩ := hp38
                          have eR1 : rR S38 = (rR S35).eraseIdx _ := (wl_eq q8 (fun _ _ _ => rfl)).trans (wl_del (by omega) (by omega) qr1 qr2)
                          try rw [eR9, hrb.resolve_left (by omega)] at eR1
                          have eV1 : rV S38 = rV S35 := wl_eq (hg38 30 0 12 (by unfold fG; omega)) (fun j _ _ => hg38 51 0 j (by unfold fG; omega))
                          try rw [eV9] at eV1
                          replace hrv : WV (S38 47 0) (S38 30 0 8) (S38 30 0 0) := (q8 ▸ WV.del hrv qr1 qr2 (by omega)).eq (fun _ _ _ => rfl) rfl (hg38 30 0 0 (by unfold fG; omega))
                          have e12_38 : S38 30 0 12 = S35 30 0 12 := hg38 30 0 12 (by unfold fG; omega)
                          replace hvv : WV (S38 51 0) (S38 30 0 12) (S38 30 0 0) := hvv.eq (fun j _ _ => hg38 51 0 j (by unfold fG; omega)) e12_38 (hg38 30 0 0 (by unfold fG; omega))
                          have e1638 : S38 30 0 16 = S35 30 0 16 := hg38 30 0 16 (by unfold fG; omega)
                          refine kw_aload_n hC dX8_parts_158 rfl 1 rfl ?_
                          refine kg_30_11 hC w8 f129 dX8_parts_159 rfl (by decide) (by decide) ?_
                          refine kw_aload_n hC dX8_parts_162 rfl 1 rfl ?_
                          refine kg_30_12 hC w8 f126 dX8_parts_163 rfl (by decide) (by decide) ?_
                          refine kw_iload hC dX8_parts_166 rfl 7 rfl ?_
                          refine ks_51 hC dX8_parts_168 rfl (by decide) (by decide) (by omega) (by omega) ?_
                          refine kw_hv hfS38 (by unfold tR; omega) (fun S39 hfS39 hv39 ho39 => ?_)
                          have hRS39 := hRS.fr hfS39
                          have hnS39 := hRS39.n
                          have enS39 : S39 30 0 0 = S 30 0 0 := hfS39 30 0 0 (by unfold tR; omega)
                          have e8_39 : S39 30 0 8 = S38 30 0 8 := ho39 30 0 8 (by omega)
                          replace hrv : WV (S39 47 0) (S39 30 0 8) (S39 30 0 0) := hrv.eq (fun j _ _ => ho39 47 0 j (by omega)) e8_39 (ho39 30 0 0 (by omega))
                          have e12_39 : S39 30 0 12 = S38 30 0 12 := ho39 30 0 12 (by omega)
                          have e1639 : S39 30 0 16 = S38 30 0 16 := ho39 30 0 16 (by omega)
                          have hv8 : WV (S39 51 0) (S38 30 0 12 + 1) (S39 30 0 0) := (hvv.add (fun j hj => ho39 51 0 j (by omega)) (by rw [hv39]; omega)).eq (fun _ _ _ => rfl) rfl (ho39 30 0 0 (by omega))
                          have eR2 : rR S39 = rR S38 := wl_eq (ho39 30 0 8 (by omega)) (fun j _ _ => ho39 47 0 j (by omega))
                          rw [eR1] at eR2
                          have eV2 : wl (S39 51 0) (S38 30 0 12 + 1).toNat = rV S38 ++ [s.toNat] := wl_add (by omega) (fun j _ _ => ho39 51 0 j (by omega)) hv39
                          try rw [eV1] at eV2
                          have eVX : ∀ m : Int, m = S38 30 0 12 + 1 → wl (S39 51 0) m.toNat = _ := fun m hm => (congrArg (fun q : Int => wl (S39 51 0) q.toNat) hm).trans eV2
                          refine kw_aload_n hC dX8_parts_169 rfl 1 rfl ?_
                          refine kw_dup hC dX8_parts_170 rfl rfl ?_
                          refine kg_30_12 hC w8 f126 dX8_parts_171 rfl (by decide) (by decide) ?_
                          refine kw_iconst hC dX8_parts_174 rfl ?_
                          refine kw_iadd hC dX8_parts_175 rfl ?_
                          refine kp_30_12 hC w8 f126 dX8_parts_176 rfl (by decide) (by decide) ?_
                          refine kw_hv hfS39 (by unfold tR; omega) (fun S40 hfS40 hv40 ho40 => ?_)
                          have hRS40 := hRS.fr hfS40
                          have hnS40 := hRS40.n
                          have enS40 : S40 30 0 0 = S 30 0 0 := hfS40 30 0 0 (by unfold tR; omega)
                          have e8_40 : S40 30 0 8 = S39 30 0 8 := ho40 30 0 8 (by omega)
                          replace hrv : WV (S40 47 0) (S40 30 0 8) (S40 30 0 0) := hrv.eq (fun j _ _ => ho40 47 0 j (by omega)) e8_40 (ho40 30 0 0 (by omega))
                          have e1640 : S40 30 0 16 = S39 30 0 16 := ho40 30 0 16 (by omega)
                          have x12 := hv40
                          have hvv : WV (S40 51 0) (S40 30 0 12) (S40 30 0 0) := hv8.eq (fun j _ _ => ho40 51 0 j (by omega)) (by omega) (ho40 30 0 0 (by omega))
                          have eR3 : rR S40 = rR S39 := wl_eq (ho40 30 0 8 (by omega)) (fun j _ _ => ho40 47 0 j (by omega))
                          rw [eR2] at eR3
                          have eV3 : rV S40 = _ := (wl_eq (f := S39 51 0) (m := S40 30 0 12) rfl (fun j _ _ => ho40 51 0 j (by omega))).trans (eVX _ (by omega))
                          refine kw_iconst hC dX8_parts_179 rfl ?_
                          refine kw_istore (lv' := [(6, _), (7, _), (0, _), (1, _), (2, _), (3, _), (4, _), (5, _)]) hC dX8_parts_180 rfl (by decide) rfl ?_
                          refine kw_goto (tgt := 188) hC dX8_parts_182 rfl (by decide) ?_
                          refine kw_goto (tgt := 105) hC dX8_parts_188 rfl (by decide) ?_
                          refine kw_lv [2, 3, 4, 5, 6, 7, 0] rfl ?_
                          exact ih105 _ S40 hfS40 (by omega) (by omega) (by omega) hrv (by omega) hvv (by omega) (by omega) (by omega) (by first | (exfalso; omega) | (rw [eR3, eV3]; exact hfs.2.2.2 (bJ_t s0 c122) (by omega)) | (rw [eR9, eV9]; exact hfs.2.1 (bJ_t s0 c122) (by omega)) | exact hfs.1 (bJ_f s0 c122) | (rw [eR9, eV9]; exact hfs.2.1 (bJ_t s0 c122) (by omega)) | (rw [eR3, eV3]; exact hfs.2.2.2 (bJ_t s0 c122) (by omega))) (by omega)
                      · refine kw_bipush hC dX8_parts_144 rfl (by decide) ?_
                        exact hR9.1 rfl _ _ _ _ dX8_parts_146 (by first | (exfalso; omega) | exact ⟨_, rfl, hRS35, tR_tW hfS35, by unfold fParts; rw [if_neg (by omega), rSl_tR hfS35]⟩ | exact ⟨_, rfl, hRS35, tR_tW hfS35, by have h9 := (hsh.resolve_right (fun z => by omega)).2.2; unfold fParts; rw [if_pos (by omega), ptP_n1 h9, rSl_tR hfS35]⟩ | exact ⟨_, rfl, hRS35, tR_tW hfS35, by have h9 := hfs.2.2.1 (bJ_t s0 c122) (by omega); rw [hRS9] at h9; unfold fParts; rw [if_pos (by omega), ptP_n2 hsA h9, rSl_tR hfS35]⟩ | exact ⟨_, rfl, hRS35, tR_tW hfS35, by have h8 := hTT; have h9 := hfB; have h7 := (h9.resolve_right (fun z => by omega)).2.2; unfold fParts; rw [if_pos (by omega), ptP_n4 hsA h8 hA9 h7, rSl_tR hfS35]⟩ | exact ⟨_, rfl, hRS35, tR_tW hfS35, by have h8 := hTT; have h9 := (hfA.resolve_right (fun z => by omega)).2.2; unfold fParts; rw [if_pos (by omega), ptP_n3 hsA h8 h9, rSl_tR hfS35]⟩ | exact ⟨_, rfl, hp9.2.1, hbW.trans ((tR_tW hfS35).trans (fV_tW hp9.2.2.1)), by have h9 := st_f hRS35 (by omega) (by omega) (by omega) (by omega) hp9 ((rSl_tR hfS35).trans hB8) (show rW S35 = AA from (wl_eq q14 hx).trans eP); unfold fParts; rw [if_pos (by omega), ptP_s hsA hTT hA9 hB9]; exact h9⟩)
              refine kw_lv [1, 2, 3, 4, 5, 6, 0] rfl ?_
              exact hL105 707 0 S8 hfS8 (by omega) (by omega) (by omega) hrv (by omega) (fun j _ _ => by omega) (by omega) (by omega) hgw (by rw [eR0, eV0]; rfl) (by omega)
            · refine kw_bipush hC dX8_parts_94 rfl (by decide) ?_
              exact hR9.1 rfl _ _ _ _ dX8_parts_96 (by first | (exfalso; omega) | exact ⟨_, rfl, hRS6, tR_tW hfS6, by unfold fParts; rw [if_neg (by omega), rSl_tR hfS6]⟩ | exact ⟨_, rfl, hRS6, tR_tW hfS6, by have h9 := (hsh.resolve_right (fun z => by omega)).2.2; unfold fParts; rw [if_pos (by omega), ptP_n1 h9, rSl_tR hfS6]⟩ | exact ⟨_, rfl, hRS6, tR_tW hfS6, by have h9 := hfs.2.2.1 (bJ_t s0 c122) (by omega); rw [hRS9] at h9; unfold fParts; rw [if_pos (by omega), ptP_n2 hsA h9, rSl_tR hfS6]⟩ | exact ⟨_, rfl, hRS6, tR_tW hfS6, by have h8 := hTT; have h9 := hfB; have h7 := (h9.resolve_right (fun z => by omega)).2.2; unfold fParts; rw [if_pos (by omega), ptP_n4 hsA h8 hA9 h7, rSl_tR hfS6]⟩ | exact ⟨_, rfl, hRS6, tR_tW hfS6, by have h8 := hTT; have h9 := (hfA.resolve_right (fun z => by omega)).2.2; unfold fParts; rw [if_pos (by omega), ptP_n3 hsA h8 h9, rSl_tR hfS6]⟩ | exact ⟨_, rfl, hp9.2.1, hbW.trans ((tR_tW hfS6).trans (fV_tW hp9.2.2.1)), by have h9 := st_f hRS6 (by omega) (by omega) (by omega) (by omega) hp9 ((rSl_tR hfS6).trans hB8) (show rW S6 = AA from (wl_eq q14 hx).trans eP); unfold fParts; rw [if_pos (by omega), ptP_s hsA hTT hA9 hB9]; exact h9⟩)
          refine kw_icmp_ne (tgt := 82) hC dX8_parts_35 rfl (by decide) (by omega) (by omega) ⟨fun c35 => ?_, fun c35 => ?_⟩
          · refine kw_lv [1, 2, 3, 4, 5, 0] rfl ?_
            exact hJ82 _ (by unfold ptB; first | rw [if_neg (by omega)] | (rw [if_pos (by omega)]; exact (pbt_e hpt9 (by omega)).symm))
          · refine kw_iconst hC dX8_parts_38 rfl ?_
            refine kw_istore (lv' := [(5, _), (0, _), (1, _), (2, _), (3, _), (4, _)]) hC dX8_parts_39 rfl (by decide) rfl ?_
            refine kw_iconst hC dX8_parts_41 rfl ?_
            refine kw_istore (lv' := [(6, _), (5, _), (0, _), (1, _), (2, _), (3, _), (4, _)]) hC dX8_parts_42 rfl (by decide) rfl ?_
            have hL44 : ∀ (n44 : Nat) (i : Int) (z : Int), (0 ≤ i) → (i ≤ S 30 0 0) → (-2147483648 ≤ z ∧ z ≤ 2147483647) → (pbt (rK S) (rn S) (rn S - i.toNat) z = pbt (rK S) (rn S) (rn S) 0) → S 30 0 0 - i < (n44 : Int) → Wk E g 10 S 44 [(0, vr g 30 0), (1, vi a), (2, vi b), (3, vi c), (4, vi d), (5, vi z), (6, vi i)] [] := by
              intro n44
              induction n44 with
              | zero => intro i z i0 i1 hzr hpt9 hm44; exact absurd hm44 (by omega)
              | succ n44 ih44 =>
                intro i z i0 i1 hzr hpt9 hm44
                refine kw_iload hC dX8_parts_44 rfl 6 rfl ?_
                refine kw_aload_n hC dX8_parts_46 rfl 0 rfl ?_
                refine kg_30_0 hC w8 f11 dX8_parts_47 rfl (by decide) (by decide) ?_
                refine kw_icmp_ge (tgt := 82) hC dX8_parts_50 rfl (by decide) (by omega) (by omega) ⟨fun c50 => ?_, fun c50 => ?_⟩
                · refine kw_lv [0, 1, 2, 3, 4, 5] rfl ?_
                  exact hJ82 _ (by unfold ptB; first | rw [if_neg (by omega)] | (rw [if_pos (by omega)]; exact (pbt_e hpt9 (by omega)).symm))
                · refine kw_iload hC dX8_parts_53 rfl 5 rfl ?_
                  refine kw_aload_n hC dX8_parts_55 rfl 0 rfl ?_
                  refine kg_30_1 hC w8 f14 dX8_parts_56 rfl (by decide) (by decide) ?_
                  refine kw_iload hC dX8_parts_59 rfl 6 rfl ?_
                  refine ka_41 hC dX8_parts_61 rfl (by decide) (by decide) (by omega) (by omega) ?_
                  have hkd := hRS.kd i (by omega) (by omega)
                  have hps := pbt_s hpt9 i0 (by omega)
                  have hrk : rK S i.toNat = S 41 0 i := by unfold rK clK; rw [if_pos (by omega), Int.toNat_of_nonneg i0]
                  refine kw_if_ne (tgt := 72) hC dX8_parts_62 rfl (by decide) (by omega) ⟨fun c62 => ?_, fun c62 => ?_⟩
                  · refine kw_iconst hC dX8_parts_72 rfl ?_
                    refine kw_iorX hC dX8_parts_73 rfl ?_
                    refine kw_istore (lv' := [(5, _), (0, _), (1, _), (2, _), (3, _), (4, _), (6, _)]) hC dX8_parts_74 rfl (by decide) rfl ?_
                    refine kw_iinc (lv' := [(6, _), (5, _), (0, _), (1, _), (2, _), (3, _), (4, _)]) hC dX8_parts_76 rfl 6 rfl (by decide) rfl ?_
                    refine kw_goto (tgt := 44) hC dX8_parts_79 rfl (by decide) ?_
                    refine kw_lv [2, 3, 4, 5, 6, 1, 0] rfl ?_
                    exact ih44 (i + 1) _ (by omega) (by omega) (xi_r _) (by rw [hrk] at hps; first | (rw [if_pos (by omega)] at hps; exact hps) | (rw [if_neg (by omega)] at hps; rw [i_or_0 hzr]; exact hps)) (by omega)
                  · refine kw_iconst hC dX8_parts_65 rfl ?_
                    refine kw_iload hC dX8_parts_66 rfl 6 rfl ?_
                    refine kw_ishlX hC dX8_parts_68 rfl ?_
                    refine kw_goto (tgt := 73) hC dX8_parts_69 rfl (by decide) ?_
                    refine kw_iorX hC dX8_parts_73 rfl ?_
                    refine kw_istore (lv' := [(5, _), (0, _), (1, _), (2, _), (3, _), (4, _), (6, _)]) hC dX8_parts_74 rfl (by decide) rfl ?_
                    refine kw_iinc (lv' := [(6, _), (5, _), (0, _), (1, _), (2, _), (3, _), (4, _)]) hC dX8_parts_76 rfl 6 rfl (by decide) rfl ?_
                    refine kw_goto (tgt := 44) hC dX8_parts_79 rfl (by decide) ?_
                    refine kw_lv [2, 3, 4, 5, 6, 1, 0] rfl ?_
                    exact ih44 (i + 1) _ (by omega) (by omega) (xi_r _) (by rw [hrk] at hps; first | (rw [if_pos (by omega)] at hps; exact hps) | (rw [if_neg (by omega)] at hps; rw [i_or_0 hzr]; exact hps)) (by omega)
            refine kw_lv [2, 3, 4, 5, 6, 1, 0] rfl ?_
            exact hL44 7 0 _ (by omega) (by omega) (by omega) rfl (by omega)
        · refine kw_iconst hC dX8_parts_28 rfl ?_
          exact hR9.1 rfl _ _ _ _ dX8_parts_29 (by first | (exfalso; omega) | exact ⟨_, rfl, hRS, tR_tW hfS, by unfold fParts; rw [if_neg (by omega), rSl_tR hfS]⟩ | exact ⟨_, rfl, hRS, tR_tW hfS, by have h9 := (hsh.resolve_right (fun z => by omega)).2.2; unfold fParts; rw [if_pos (by omega), ptP_n1 h9, rSl_tR hfS]⟩ | exact ⟨_, rfl, hRS, tR_tW hfS, by have h9 := hfs.2.2.1 (bJ_t s0 c122) (by omega); rw [hRS9] at h9; unfold fParts; rw [if_pos (by omega), ptP_n2 hsA h9, rSl_tR hfS]⟩ | exact ⟨_, rfl, hRS, tR_tW hfS, by have h8 := hTT; have h9 := hfB; have h7 := (h9.resolve_right (fun z => by omega)).2.2; unfold fParts; rw [if_pos (by omega), ptP_n4 hsA h8 hA9 h7, rSl_tR hfS]⟩ | exact ⟨_, rfl, hRS, tR_tW hfS, by have h8 := hTT; have h9 := (hfA.resolve_right (fun z => by omega)).2.2; unfold fParts; rw [if_pos (by omega), ptP_n3 hsA h8 h9, rSl_tR hfS]⟩ | exact ⟨_, rfl, hp9.2.1, hbW.trans ((tR_tW hfS).trans (fV_tW hp9.2.2.1)), by have h9 := st_f hRS (by omega) (by omega) (by omega) (by omega) hp9 ((rSl_tR hfS).trans hB8) (show rW S = AA from (wl_eq q14 hx).trans eP); unfold fParts; rw [if_pos (by omega), ptP_s hsA hTT hA9 hB9]; exact h9⟩)

set_option maxHeartbeats 4000000 in
set_option maxRecDepth 100000 in
theorem f_X8_word {g : wG} (hD : wD g) {S : wSt} {a b c d e : Int} (ha : -2147483648 ≤ a ∧ a ≤ 2147483647) (hb : -2147483648 ≤ b ∧ b ≤ 2147483647) (hc : -2147483648 ≤ c ∧ c ≤ 2147483647) (hd : -2147483648 ≤ d ∧ d ≤ 2147483647) (he : -2147483648 ≤ e ∧ e ≤ 2147483647) (hRS : RI S) (l : Launch) : Kt l yX8_word wsX8_word ({ frames := 2, cells := 0, slots := 0, locals := 47 } : Room) g S [vr g 30 0, vi a, vi b, vi c, vi d, vi e] (pI (fun r S' => RI S' ∧ Fr tW S S' ∧ (∀ x y, AR S x → LR S y → r = rWord a b c d e x.1.1 y) ∧ ∀ y, LR S y → rSl S' = if 0 ≤ r then upw (rSl S) a (wl (fun j => y.2.2 b (d + j)) e.toNat) else rSl S)) := by
  refine Kt.of (cc := cX8_word) (nL := 7) (ret := (some .int)) (own := RX8) rfl hD (by decide) rfl (Nat.le_of_ble_eq_true rfl) ⟨rfl, rfl⟩ ?_
  intro E hC hR9
  have f43 : Cond.fieldLink RX8 43 "MirrorBenchModel" "lengths" "[I" ∈ wsX8_word := by decide +kernel
  have f52 : Cond.fieldLink RX8 52 "MirrorBenchModel" "words" "[I" ∈ wsX8_word := by decide +kernel
  have f234 : Cond.fieldLink RX8 234 "MirrorBenchModel" "lanes" "[I" ∈ wsX8_word := by decide +kernel
  have f240 : Cond.fieldLink RX8 240 "MirrorBenchModel" "items" "[J" ∈ wsX8_word := by decide +kernel
  have l28 : Cond.constantLong RX8 28 (Int64.ofInt (2)) ∈ wsX8_word := by decide +kernel
  have w8 : ∀ w ∈ wsX80, w ∈ wsX8_word := by decide +kernel
  show Wk E g 7 S 0 [(0, vr g 30 0), (1, vi a), (2, vi b), (3, vi c), (4, vi d), (5, vi e)] []
  have hfS : Fr fV S S := Fr.rfl _ S
  have hn := hRS.n
  refine kw_iload_n hC dX8_word_0 rfl 1 rfl ?_
  refine kw_callS hC (d_X8_isSlot hD (by omega)) gX8_word_X8_isSlot rfl ⟨rfl, rfl⟩ 1 (by decide +kernel) ⟨by decide, by decide⟩ rfl rfl (Nat.le_of_ble_eq_true rfl) dX8_word_1 rfl (kd_ie ?_)
  refine kw_ifeq_b (tgt := 26) hC dX8_word_4 rfl (by decide) ⟨fun c4 => ?_, fun c4 => ?_⟩
  · refine kw_iconst hC dX8_word_26 rfl ?_
    exact hR9.1 rfl _ _ _ _ dX8_word_27 ⟨_, rfl, hRS, Fr.rfl _ S, (fun x y hx hy => by have e0 := hx.1.1; skip; unfold rWord; (repeat' split) <;> first | omega | rfl), fun y _ => (if_neg (by omega)).symm⟩
  · refine kw_iload_n hC dX8_word_7 rfl 2 rfl ?_
    refine kw_callS hC (d_X8_isLeaf hD (by omega)) gX8_word_X8_isLeaf rfl ⟨rfl, rfl⟩ 1 (by decide +kernel) ⟨by decide, by decide⟩ rfl rfl (Nat.le_of_ble_eq_true rfl) dX8_word_8 rfl (kd_ie ?_)
    refine kw_ifeq_b (tgt := 26) hC dX8_word_11 rfl (by decide) ⟨fun c11 => ?_, fun c11 => ?_⟩
    · refine kw_iconst hC dX8_word_26 rfl ?_
      exact hR9.1 rfl _ _ _ _ dX8_word_27 ⟨_, rfl, hRS, Fr.rfl _ S, (fun x y hx hy => by have e0 := hx.1.1; skip; unfold rWord; (repeat' split) <;> first | omega | rfl), fun y _ => (if_neg (by omega)).symm⟩
    · refine kw_iload_n hC dX8_word_14 rfl 3 rfl ?_
      refine kw_i2l hC dX8_word_15 rfl (by omega) ?_
      refine kw_lconst (z := 0) hC dX8_word_16 rfl rfl ?_
      refine kw_ldc2 (z := 2) hC dX8_word_17 rfl l28 ?_
      refine kw_callS hC (d_X8_in hD (by omega) (by omega) (by omega)) gX8_word_X8_in rfl ⟨rfl, rfl⟩ 3 (by decide +kernel) ⟨by decide, by decide⟩ rfl rfl (Nat.le_of_ble_eq_true rfl) dX8_word_20 rfl (kd_ie ?_)
      refine kw_ifne_b (tgt := 28) hC dX8_word_23 rfl (by decide) ⟨fun c23 => ?_, fun c23 => ?_⟩
      · have hla := hRS.la b (by omega) (by omega)
        have hsz := hRS.sz b (by omega) (by omega)
        refine kw_aload_n hC dX8_word_28 rfl 0 rfl ?_
        refine kg_30_29 hC w8 f234 dX8_word_29 rfl (by decide) (by decide) ?_
        refine kw_iload_n hC dX8_word_32 rfl 2 rfl ?_
        refine ka_69 hC dX8_word_33 rfl (by decide) (by decide) (by omega) (by omega) ?_
        refine kw_if_ge (tgt := 40) hC dX8_word_34 rfl (by decide) (by omega) ⟨fun c34 => ?_, fun c34 => ?_⟩
        · refine kw_aload_n hC dX8_word_40 rfl 0 rfl ?_
          refine kg_30_29 hC w8 f234 dX8_word_41 rfl (by decide) (by decide) ?_
          refine kw_iload_n hC dX8_word_44 rfl 2 rfl ?_
          refine ka_69 hC dX8_word_45 rfl (by decide) (by decide) (by omega) (by omega) ?_
          refine kw_iload_n hC dX8_word_46 rfl 3 rfl ?_
          refine kw_icmp_eq (tgt := 53) hC dX8_word_47 rfl (by decide) (by omega) (by omega) ⟨fun c47 => ?_, fun c47 => ?_⟩
          · refine kw_iload hC dX8_word_53 rfl 5 rfl ?_
            refine kw_if_ge (tgt := 61) hC dX8_word_55 rfl (by decide) (by omega) ⟨fun c55 => ?_, fun c55 => ?_⟩
            · refine kw_aload_n hC dX8_word_61 rfl 0 rfl ?_
              refine kw_iload_n hC dX8_word_62 rfl 2 rfl ?_
              refine kw_iload hC dX8_word_63 rfl 4 rfl ?_
              refine kw_iload hC dX8_word_65 rfl 5 rfl ?_
              refine kw_callV hC (d_X8_isWithin hD (by omega) (by omega) (by omega) (by omega) hRS) gX8_word_X8_isWithin ⟨_, rfl⟩ rfl (by decide) (by decide) rfl ⟨rfl, rfl⟩ 3 (by decide +kernel) ⟨by decide, by decide⟩ rfl rfl (Nat.le_of_ble_eq_true rfl) dX8_word_67 rfl (kd_ie ?_)
              refine kw_ifne_b (tgt := 76) hC dX8_word_70 rfl (by decide) ⟨fun c70 => ?_, fun c70 => ?_⟩
              · refine kw_iconst hC dX8_word_76 rfl ?_
                refine kw_istore (lv' := [(6, _), (0, _), (1, _), (2, _), (3, _), (4, _), (5, _)]) hC dX8_word_77 rfl (by decide) rfl ?_
                have hL79 : ∀ (n79 : Nat) (z : Int), (0 ≤ z) → (z ≤ e) → (∀ j, 0 ≤ j → j < z → 0 ≤ S 71 0 (40 * b + d + j) ∧ S 71 0 (40 * b + d + j) ≤ S 30 0 0 - 1) → e - z < (n79 : Int) → Wk E g 7 S 79 [(0, vr g 30 0), (1, vi a), (2, vi b), (3, vi c), (4, vi d), (5, vi e), (6, vi z)] [] := by
                  intro n79
                  induction n79 with
                  | zero => intro z x0 x1 hall hm79; exact absurd hm79 (by omega)
                  | succ n79 ih79 =>
                    intro z x0 x1 hall hm79
                    refine kw_iload hC dX8_word_79 rfl 6 rfl ?_
                    refine kw_iload hC dX8_word_81 rfl 5 rfl ?_
                    refine kw_icmp_ge (tgt := 116) hC dX8_word_83 rfl (by decide) (by omega) (by omega) ⟨fun c83 => ?_, fun c83 => ?_⟩
                    · refine kw_aload_n hC dX8_word_116 rfl 0 rfl ?_
                      refine kg_30_6 hC w8 f43 dX8_word_117 rfl (by decide) (by decide) ?_
                      refine kw_iload_n hC dX8_word_120 rfl 1 rfl ?_
                      refine kw_iload hC dX8_word_121 rfl 5 rfl ?_
                      refine ks_46 hC dX8_word_123 rfl (by decide) (by decide) (by omega) (by omega) ?_
                      refine kw_hv hfS (by unfold fV; omega) (fun S9 hfS9 hv9 ho9 => ?_)
                      have hv9 := hv9
                      have ho9 := ho9
                      refine kw_iconst hC dX8_word_124 rfl ?_
                      refine kw_istore (lv' := [(6, _), (0, _), (1, _), (2, _), (3, _), (4, _), (5, _)]) hC dX8_word_125 rfl (by decide) rfl ?_
                      have hL127 : ∀ (n127 : Nat) (w : Int) (W127 : wSt), Fr fV S W127 → (0 ≤ w) → (w ≤ e) → (W127 46 0 a = e) → (∀ s, s ≠ a → W127 46 0 s = S 46 0 s) → (∀ j, 0 ≤ j → j < w → W127 45 0 (100 * a + j) = S 71 0 (40 * b + d + j)) → (∀ j, ¬ (100 * a ≤ j ∧ j < 100 * a + w) → W127 45 0 j = S 45 0 j) → e - w < (n127 : Int) → Wk E g 7 W127 127 [(0, vr g 30 0), (1, vi a), (2, vi b), (3, vi c), (4, vi d), (5, vi e), (6, vi w)] [] := by
                        intro n127
                        induction n127 with
                        | zero => intro w W127 hfW127 w0 w1 q46 h46 h3 h4 hm127; exact absurd hm127 (by omega)
                        | succ n127 ih127 =>
                          intro w W127 hfW127 w0 w1 q46 h46 h3 h4 hm127
                          replace hall : ∀ j, 0 ≤ j → j < e → 0 ≤ S 71 0 (40 * b + d + j) ∧ S 71 0 (40 * b + d + j) ≤ S 30 0 0 - 1 := fun j j0 j1 => hall j j0 (by omega)
                          refine kw_iload hC dX8_word_127 rfl 6 rfl ?_
                          refine kw_iload hC dX8_word_129 rfl 5 rfl ?_
                          refine kw_icmp_ge (tgt := 168) hC dX8_word_131 rfl (by decide) (by omega) (by omega) ⟨fun c131 => ?_, fun c131 => ?_⟩
                          · refine kw_iload hC dX8_word_168 rfl 5 rfl ?_
                            have hw9 := hRS.wd hfW127 ⟨fun s s0 s1 => by rcases Decidable.em (s = a) with g9 | g9; exact (by rw [g9, q46]; omega); exact (by rw [h46 s g9]; exact hRS.ln s s0 s1), fun s k s0 s1 k0 k1 => by rcases Decidable.em (s = a) with g9 | g9; exact (by rw [g9] at k1 ⊢; rw [q46] at k1; rw [h3 k k0 (by omega)]; have := hall k k0 k1; omega); exact (by rw [h46 s g9] at k1; have := hRS.ln s s0 s1; rw [h4 _ (by omega)]; exact hRS.lt s k s0 s1 k0 k1)⟩
                            exact hR9.1 rfl _ _ _ _ dX8_word_170 ⟨_, rfl, hw9, fV_tW hfW127, (fun x y hx hy => by have e0 := hx.1.1; obtain ⟨y1, y2, y3⟩ := hy b (by omega) (by omega); have hbz : bz (∀ j, 0 ≤ j → j < e → 0 ≤ y.2.2 b (d + j) ∧ y.2.2 b (d + j) < x.1.1) = 1 := bz_t (fun j j0 j1 => by have q1 := hall j j0 j1; have q2 := y3 (d + j) (by omega) (by omega); rw [← Int.add_assoc] at q2; omega); unfold rWord; (repeat' split) <;> first | omega | (rw [hbz]; omega)), fun y hy => by obtain ⟨y1, y2, y3⟩ := hy b (by omega) (by omega); rw [if_pos (by omega)]; exact rSl_st hRS (by omega) (by omega) q46 h46 (fun j j0 j1 => by rw [h3 j j0 (by omega), Int.add_assoc]; exact y3 (d + j) (by omega) (by omega)) (fun j hj => h4 j (by omega))⟩
                          · refine kw_aload_n hC dX8_word_134 rfl 0 rfl ?_
                            refine kg_30_5 hC w8 f52 dX8_word_135 rfl (by decide) (by decide) ?_
                            refine kw_bipush hC dX8_word_138 rfl (by decide) ?_
                            refine kw_iload_n hC dX8_word_140 rfl 1 rfl ?_
                            refine kw_imul hC dX8_word_141 rfl ?_
                            refine kw_iload hC dX8_word_142 rfl 6 rfl ?_
                            refine kw_iadd hC dX8_word_144 rfl ?_
                            refine kw_aload_n hC dX8_word_145 rfl 0 rfl ?_
                            refine kg_30_31 hC w8 f240 dX8_word_146 rfl (by decide) (by decide) ?_
                            refine kw_bipush hC dX8_word_149 rfl (by decide) ?_
                            refine kw_iload_n hC dX8_word_151 rfl 2 rfl ?_
                            refine kw_imul hC dX8_word_152 rfl ?_
                            refine kw_iload hC dX8_word_153 rfl 4 rfl ?_
                            refine kw_iadd hC dX8_word_155 rfl ?_
                            refine kw_iload hC dX8_word_156 rfl 6 rfl ?_
                            refine kw_iadd hC dX8_word_158 rfl ?_
                            refine ka_71 hC dX8_word_159 rfl (by decide) (by decide) (by omega) (by omega) ?_
                            refine kw_l2i hC dX8_word_160 rfl ?_
                            refine ks_45 hC dX8_word_161 rfl (by decide) (by decide) (by omega) (by omega) ?_
                            refine kw_hv hfW127 (by unfold fV; omega) (fun S11 hfS11 hv11 ho11 => ?_)
                            refine kw_iinc (lv' := [(6, _), (0, _), (1, _), (2, _), (3, _), (4, _), (5, _)]) hC dX8_word_162 rfl 6 rfl (by decide) rfl ?_
                            refine kw_goto (tgt := 127) hC dX8_word_165 rfl (by decide) ?_
                            refine kw_lv [1, 2, 3, 4, 5, 6, 0] rfl ?_
                            exact ih127 (w + 1) S11 hfS11 (by omega) (by omega) ((ho11 46 0 a (by omega)).trans q46) (fun s hs => (ho11 46 0 s (by omega)).trans (h46 s hs)) (fun j j0 j1 => by rcases Decidable.em (j = w) with g9 | g9; exact (by rw [g9, hv11]; exact hfW127 71 0 _ (by unfold fV; omega)); exact (ho11 45 0 _ (by omega)).trans (h3 j j0 (by omega))) (fun j hj => (ho11 45 0 j (by omega)).trans (h4 j (by omega))) (by omega)
                      refine kw_lv [1, 2, 3, 4, 5, 6, 0] rfl ?_
                      exact hL127 41 0 S9 hfS9 (by omega) (by omega) hv9 (fun s hs => ho9 46 0 s (by omega)) (fun j _ _ => by omega) (fun j _ => ho9 45 0 j (by omega)) (by omega)
                    · refine kw_aload_n hC dX8_word_86 rfl 0 rfl ?_
                      refine kw_aload_n hC dX8_word_87 rfl 0 rfl ?_
                      refine kg_30_31 hC w8 f240 dX8_word_88 rfl (by decide) (by decide) ?_
                      refine kw_bipush hC dX8_word_91 rfl (by decide) ?_
                      refine kw_iload_n hC dX8_word_93 rfl 2 rfl ?_
                      refine kw_imul hC dX8_word_94 rfl ?_
                      refine kw_iload hC dX8_word_95 rfl 4 rfl ?_
                      refine kw_iadd hC dX8_word_97 rfl ?_
                      refine kw_iload hC dX8_word_98 rfl 6 rfl ?_
                      refine kw_iadd hC dX8_word_100 rfl ?_
                      refine ka_71 hC dX8_word_101 rfl (by decide) (by decide) (by omega) (by omega) ?_
                      refine kw_callV hC (d_X8_isMirror hD (hRS.it _ (by omega) (by omega)) (by omega) (by omega)) gX8_word_X8_isMirror ⟨_, rfl⟩ rfl (by decide) (by decide) rfl ⟨rfl, rfl⟩ 1 (by decide +kernel) ⟨by decide, by decide⟩ rfl rfl (Nat.le_of_ble_eq_true rfl) dX8_word_102 rfl (kd_ie ?_)
                      refine kw_ifne_b (tgt := 110) hC dX8_word_105 rfl (by decide) ⟨fun c105 => ?_, fun c105 => ?_⟩
                      · refine kw_iinc (lv' := [(6, _), (0, _), (1, _), (2, _), (3, _), (4, _), (5, _)]) hC dX8_word_110 rfl 6 rfl (by decide) rfl ?_
                        refine kw_goto (tgt := 79) hC dX8_word_113 rfl (by decide) ?_
                        refine kw_lv [1, 2, 3, 4, 5, 6, 0] rfl ?_
                        exact ih79 (z + 1) (by omega) (by omega) (ext_p (fun j q => 0 ≤ q ∧ q ≤ S 30 0 0 - 1) (f := fun j => S 71 0 (40 * b + d + j)) (f' := fun j => S 71 0 (40 * b + d + j)) hall (fun _ _ => rfl) c105) (by omega)
                      · refine kw_iconst hC dX8_word_108 rfl ?_
                        exact hR9.1 rfl _ _ _ _ dX8_word_109 ⟨_, rfl, hRS, Fr.rfl _ S, (fun x y hx hy => by have e0 := hx.1.1; obtain ⟨y1, y2, y3⟩ := hy b (by omega) (by omega); have hbz : bz (∀ j, 0 ≤ j → j < e → 0 ≤ y.2.2 b (d + j) ∧ y.2.2 b (d + j) < x.1.1) = 0 := bz_f (fun q => by have q1 := q z (by omega) (by omega); have q2 := y3 (d + z) (by omega) (by omega); rw [← Int.add_assoc] at q2; omega); unfold rWord; (repeat' split) <;> first | omega | (rw [hbz]; omega)), fun y _ => (if_neg (by omega)).symm⟩
                refine kw_lv [1, 2, 3, 4, 5, 6, 0] rfl ?_
                exact hL79 41 0 (by omega) (by omega) (fun j _ _ => by omega) (by omega)
              · refine kw_bipush hC dX8_word_73 rfl (by decide) ?_
                exact hR9.1 rfl _ _ _ _ dX8_word_75 ⟨_, rfl, hRS, Fr.rfl _ S, (fun x y hx hy => by have e0 := hx.1.1; obtain ⟨y1, y2, y3⟩ := hy b (by omega) (by omega); unfold rWord; (repeat' split) <;> first | omega | rfl), fun y _ => (if_neg (by omega)).symm⟩
            · refine kw_bipush hC dX8_word_58 rfl (by decide) ?_
              exact hR9.1 rfl _ _ _ _ dX8_word_60 ⟨_, rfl, hRS, Fr.rfl _ S, (fun x y hx hy => by have e0 := hx.1.1; obtain ⟨y1, y2, y3⟩ := hy b (by omega) (by omega); unfold rWord; (repeat' split) <;> first | omega | rfl), fun y _ => (if_neg (by omega)).symm⟩
          · refine kw_bipush hC dX8_word_50 rfl (by decide) ?_
            exact hR9.1 rfl _ _ _ _ dX8_word_52 ⟨_, rfl, hRS, Fr.rfl _ S, (fun x y hx hy => by have e0 := hx.1.1; obtain ⟨y1, y2, y3⟩ := hy b (by omega) (by omega); unfold rWord; (repeat' split) <;> first | omega | rfl), fun y _ => (if_neg (by omega)).symm⟩
        · refine kw_bipush hC dX8_word_37 rfl (by decide) ?_
          exact hR9.1 rfl _ _ _ _ dX8_word_39 ⟨_, rfl, hRS, Fr.rfl _ S, (fun x y hx hy => by have e0 := hx.1.1; obtain ⟨y1, y2, y3⟩ := hy b (by omega) (by omega); unfold rWord; (repeat' split) <;> first | omega | rfl), fun y _ => (if_neg (by omega)).symm⟩
      · refine kw_iconst hC dX8_word_26 rfl ?_
        exact hR9.1 rfl _ _ _ _ dX8_word_27 ⟨_, rfl, hRS, Fr.rfl _ S, (fun x y hx hy => by have e0 := hx.1.1; skip; unfold rWord; (repeat' split) <;> first | omega | rfl), fun y _ => (if_neg (by omega)).symm⟩
end
section
def eW : wS := fun _ => []
theorem rSl_e {S : wSt} (h : ∀ s, 0 ≤ s → s < 8 → S 46 0 s = 0) : rSl S = eW := by
  funext s
  show rSl S s = []
  by_cases hs : 0 ≤ s ∧ s < 8
  · rw [rSl_at hs.1 hs.2]
    unfold rP
    rw [h s hs.1 hs.2]
    rfl
  · exact rSl_no hs
end
section
set_option maxHeartbeats 4000000 in
set_option maxRecDepth 100000 in
theorem f_X8_mirror {g : wG} (hD : wD g) {S : wSt} {a : Int} (ha : -2147483648 ≤ a ∧ a ≤ 2147483647) (hRS : RI S) (l : Launch) : Kt l yX8_mirror wsX8_mirror ({ frames := 2, cells := 0, slots := 0, locals := 43 } : Room) g S [vr g 30 0, vi a] (pI (fun r S' => RI S' ∧ Fr tS S S' ∧ (rSl S' = if 0 ≤ r then eW else rSl S) ∧ ∀ x, AR S x → AR S' (aMirror a x) ∧ r = rMirror a x)) := by
  refine Kt.of (cc := cX8_mirror) (nL := 3) (ret := (some .int)) (own := RX8) rfl hD (by decide) rfl (Nat.le_of_ble_eq_true rfl) ⟨rfl, rfl⟩ ?_
  intro E hC hR9
  have f11 : Cond.fieldLink RX8 11 "MirrorBenchModel" "mirrors" "I" ∈ wsX8_mirror := by decide +kernel
  have f14 : Cond.fieldLink RX8 14 "MirrorBenchModel" "kinds" "[I" ∈ wsX8_mirror := by decide +kernel
  have f17 : Cond.fieldLink RX8 17 "MirrorBenchModel" "meets" "[I" ∈ wsX8_mirror := by decide +kernel
  have l28 : Cond.constantLong RX8 28 (Int64.ofInt (2)) ∈ wsX8_mirror := by decide +kernel
  have w8 : ∀ w ∈ wsX80, w ∈ wsX8_mirror := by decide +kernel
  show Wk E g 3 S 0 [(0, vr g 30 0), (1, vi a)] []
  have hfS : Fr fM S S := Fr.rfl _ S
  have hn := hRS.n
  refine kw_iload_n hC dX8_mirror_0 rfl 1 rfl ?_
  refine kw_i2l hC dX8_mirror_1 rfl (by omega) ?_
  refine kw_lconst (z := 0) hC dX8_mirror_2 rfl rfl ?_
  refine kw_ldc2 (z := 2) hC dX8_mirror_3 rfl l28 ?_
  refine kw_callS hC (d_X8_in hD (by omega) (by omega) (by omega)) gX8_mirror_X8_in rfl ⟨rfl, rfl⟩ 3 (by decide +kernel) ⟨by decide, by decide⟩ rfl rfl (Nat.le_of_ble_eq_true rfl) dX8_mirror_6 rfl (kd_ie ?_)
  refine kw_ifne_b (tgt := 14) hC dX8_mirror_9 rfl (by decide) ⟨fun c9 => ?_, fun c9 => ?_⟩
  · refine kw_aload_n hC dX8_mirror_14 rfl 0 rfl ?_
    refine kg_30_0 hC w8 f11 dX8_mirror_15 rfl (by decide) (by decide) ?_
    refine kw_bipush hC dX8_mirror_18 rfl (by decide) ?_
    refine kw_icmp_ne (tgt := 26) hC dX8_mirror_20 rfl (by decide) (by omega) (by omega) ⟨fun c20 => ?_, fun c20 => ?_⟩
    · refine kw_aload_n hC dX8_mirror_26 rfl 0 rfl ?_
      refine kw_callV hC (d_X8_keep hD hRS.c.1 hRS.c.2 hRS.n.1 hRS.n.2) gX8_mirror_X8_keep ⟨_, rfl⟩ rfl (by decide) (by decide) rfl ⟨rfl, rfl⟩ 0 (by decide +kernel) ⟨by decide, by decide⟩ rfl rfl (Nat.le_of_ble_eq_true rfl) dX8_mirror_27 rfl (kd_v (fun S3 hp3 => ?_))
      obtain ⟨hg3, hp3⟩ := hp3
      have hfS3 : Fr fM S S3 := hfS.trans (hg3.mono (fun k i j h => by unfold fK at h; unfold fM; omega))
      have hp27 := hp3
      have k0 : S3 30 0 0 = S 30 0 0 := hg3 30 0 0 (by unfold fK; omega)
      have e41 : ∀ j, S3 41 0 j = S 41 0 j := fun j => hg3 41 0 j (by unfold fK; omega)
      have e42 : ∀ j, S3 42 0 j = S 42 0 j := fun j => hg3 42 0 j (by unfold fK; omega)
      refine kw_aload_n hC dX8_mirror_30 rfl 0 rfl ?_
      refine kg_30_1 hC w8 f14 dX8_mirror_31 rfl (by decide) (by decide) ?_
      refine kw_aload_n hC dX8_mirror_34 rfl 0 rfl ?_
      refine kg_30_0 hC w8 f11 dX8_mirror_35 rfl (by decide) (by decide) ?_
      refine kw_chi (z' := S 30 0 0) k0 ?_
      refine kw_iload_n hC dX8_mirror_38 rfl 1 rfl ?_
      refine ks_41 hC dX8_mirror_39 rfl (by decide) (by decide) (by omega) (by omega) ?_
      refine kw_hv hfS3 (by unfold fM; omega) (fun S4 hfS4 hv4 ho4 => ?_)
      refine kw_iconst hC dX8_mirror_40 rfl ?_
      refine kw_istore_n (lv' := [(2, _), (0, _), (1, _)]) hC dX8_mirror_41 rfl (by decide) rfl ?_
      have hL42 : ∀ (n42 : Nat) (x : Int) (W42 : wSt), Fr fM S W42 → (0 ≤ x) → (x ≤ 6) → (W42 30 0 0 = S 30 0 0) → (KpR S W42) → (W42 41 0 (S 30 0 0) = a) → (∀ i, i ≠ S 30 0 0 → W42 41 0 i = S 41 0 i) → (∀ j, 0 ≤ j → j < x → W42 42 0 (6 * S 30 0 0 + j) = 0 ∧ W42 42 0 (6 * j + S 30 0 0) = 0) → (∀ i j, 0 ≤ i → i < 6 → 0 ≤ j → j < 6 → i ≠ S 30 0 0 → j ≠ S 30 0 0 → W42 42 0 (6 * i + j) = S 42 0 (6 * i + j)) → 6 - x < (n42 : Int) → Wk E g 3 W42 42 [(0, vr g 30 0), (1, vi a), (2, vi x)] [] := by
        intro n42
        induction n42 with
        | zero => intro x W42 hfW42 x0 x1 k0 hK hk hko hz hmo hm42; exact absurd hm42 (by omega)
        | succ n42 ih42 =>
          intro x W42 hfW42 x0 x1 k0 hK hk hko hz hmo hm42
          refine kw_iload_n hC dX8_mirror_42 rfl 2 rfl ?_
          refine kw_bipush hC dX8_mirror_43 rfl (by decide) ?_
          refine kw_icmp_ge (tgt := 84) hC dX8_mirror_45 rfl (by decide) (by omega) (by omega) ⟨fun c45 => ?_, fun c45 => ?_⟩
          · refine kw_aload_n hC dX8_mirror_84 rfl 0 rfl ?_
            refine kw_dup hC dX8_mirror_85 rfl rfl ?_
            refine kg_30_0 hC w8 f11 dX8_mirror_86 rfl (by decide) (by decide) ?_
            refine kw_chi (z' := S 30 0 0) k0 ?_
            refine kw_iconst hC dX8_mirror_89 rfl ?_
            refine kw_iadd hC dX8_mirror_90 rfl ?_
            refine kp_30_0 hC w8 f11 dX8_mirror_91 rfl (by decide) (by decide) ?_
            refine kw_hv hfW42 (by unfold fM; omega) (fun S6 hfS6 hv6 ho6 => ?_)
            have h42 : ∀ p, S6 42 0 p = W42 42 0 p := fun p => ho6 42 0 p (by omega)
            have h41 : ∀ p, S6 41 0 p = W42 41 0 p := fun p => ho6 41 0 p (by omega)
            have hK8 := hK.tr (S' := S6) (fun j => ho6 43 0 j (by omega)) (fun j => ho6 46 0 j (by omega)) (ho6 30 0 4 (by omega))
            have hz8 : ∀ j, 0 ≤ j → j < 6 → S6 42 0 (6 * S 30 0 0 + j) = 0 ∧ S6 42 0 (6 * j + S 30 0 0) = 0 := fun j j0 j1 => by rw [h42, h42]; exact hz j j0 (by omega)
            have hm8 : ∀ i j, 0 ≤ i → i < 6 → 0 ≤ j → j < 6 → i ≠ S 30 0 0 → j ≠ S 30 0 0 → S6 42 0 (6 * i + j) = S 42 0 (6 * i + j) := fun i j i0 i1 j0 j1 hi hj => by rw [h42]; exact hmo i j i0 i1 j0 j1 hi hj
            have hk8 : S6 41 0 (S 30 0 0) = a := by rw [h41]; exact hk
            have hko8 : ∀ i, i ≠ S 30 0 0 → S6 41 0 i = S 41 0 i := fun i hi => by rw [h41]; exact hko i hi
            have hn8 := hv6
            have hi8 := hK8.ri hRS (by rw [hn8]; exact hRS.set.mirror (by omega) c9 hk8 hko8 hz8 hm8) (hfS6.mono (fun k i j h => by unfold fM at h; unfold tS; omega))
            refine kw_aload_n hC dX8_mirror_94 rfl 0 rfl ?_
            refine kg_30_0 hC w8 f11 dX8_mirror_95 rfl (by decide) (by decide) ?_
            refine kw_chi (z' := S 30 0 0 + 1) hn8 ?_
            refine kw_iconst hC dX8_mirror_98 rfl ?_
            refine kw_isub hC dX8_mirror_99 rfl ?_
            exact hR9.1 rfl _ _ _ _ dX8_mirror_100 ⟨_, rfl, hi8, (hfS6.mono (fun k i j h => by unfold fM at h; unfold tS; omega)), (rSl_e hK8.2.1).trans (if_pos (by first | omega | exact (mAt_r _ _ _ _).1)).symm, fun x hx => by have e := hx.1.1; unfold aMirror rMirror; rw [if_pos c9, if_pos c9, if_neg (by omega), if_neg (by omega)]; exact ⟨hK8.ar hRS hx (by rw [hn8]; exact hx.1.mirror (by omega) hk8 hko8 hz8 hm8), by omega⟩⟩
          · refine kw_aload_n hC dX8_mirror_48 rfl 0 rfl ?_
            refine kg_30_2 hC w8 f17 dX8_mirror_49 rfl (by decide) (by decide) ?_
            refine kw_bipush hC dX8_mirror_52 rfl (by decide) ?_
            refine kw_aload_n hC dX8_mirror_54 rfl 0 rfl ?_
            refine kg_30_0 hC w8 f11 dX8_mirror_55 rfl (by decide) (by decide) ?_
            refine kw_chi (z' := S 30 0 0) k0 ?_
            refine kw_imul hC dX8_mirror_58 rfl ?_
            refine kw_iload_n hC dX8_mirror_59 rfl 2 rfl ?_
            refine kw_iadd hC dX8_mirror_60 rfl ?_
            refine kw_iconst hC dX8_mirror_61 rfl ?_
            refine ks_42 hC dX8_mirror_62 rfl (by decide) (by decide) (by omega) (by omega) ?_
            refine kw_hv hfW42 (by unfold fM; omega) (fun S7 hfS7 hv7 ho7 => ?_)
            have hvA := hv7
            have hoA := ho7
            have k1 : S7 30 0 0 = S 30 0 0 := (ho7 30 0 0 (by omega)).trans k0
            refine kw_aload_n hC dX8_mirror_63 rfl 0 rfl ?_
            refine kg_30_2 hC w8 f17 dX8_mirror_64 rfl (by decide) (by decide) ?_
            refine kw_bipush hC dX8_mirror_67 rfl (by decide) ?_
            refine kw_iload_n hC dX8_mirror_69 rfl 2 rfl ?_
            refine kw_imul hC dX8_mirror_70 rfl ?_
            refine kw_aload_n hC dX8_mirror_71 rfl 0 rfl ?_
            refine kg_30_0 hC w8 f11 dX8_mirror_72 rfl (by decide) (by decide) ?_
            refine kw_chi (z' := S 30 0 0) k1 ?_
            refine kw_iadd hC dX8_mirror_75 rfl ?_
            refine kw_iconst hC dX8_mirror_76 rfl ?_
            refine ks_42 hC dX8_mirror_77 rfl (by decide) (by decide) (by omega) (by omega) ?_
            refine kw_hv hfS7 (by unfold fM; omega) (fun S8 hfS8 hv8 ho8 => ?_)
            have k9 : S8 30 0 0 = S 30 0 0 := (ho8 30 0 0 (by omega)).trans k1
            have hK9 := hK.tr (S' := S8) (fun j => (ho8 43 0 j (by omega)).trans (hoA 43 0 j (by omega))) (fun j => (ho8 46 0 j (by omega)).trans (hoA 46 0 j (by omega))) ((ho8 30 0 4 (by omega)).trans (hoA 30 0 4 (by omega)))
            have hzz : ∀ p, W42 42 0 p = 0 ∨ p = 6 * S 30 0 0 + x ∨ p = 6 * x + S 30 0 0 → S8 42 0 p = 0 := fun p hp => by rcases Decidable.em (p = 6 * x + S 30 0 0) with e | e; exact (by rw [e]; exact hv8); exact (by rw [ho8 42 0 p (by omega)]; rcases Decidable.em (p = 6 * S 30 0 0 + x) with e2 | e2; exact (by rw [e2]; exact hvA); exact (by rw [hoA 42 0 p (by omega)]; omega))
            refine kw_iinc (lv' := [(2, _), (0, _), (1, _)]) hC dX8_mirror_78 rfl 2 rfl (by decide) rfl ?_
            refine kw_goto (tgt := 42) hC dX8_mirror_81 rfl (by decide) ?_
            refine kw_lv [1, 2, 0] rfl ?_
            exact ih42 (x + 1) S8 hfS8 (by omega) (by omega) k9 hK9 (by rw [ho8 41 0 _ (by omega), hoA 41 0 _ (by omega)]; exact hk) (fun i hi => by rw [ho8 41 0 i (by omega), hoA 41 0 i (by omega)]; exact hko i hi) (fun j j0 j1 => by rcases Decidable.em (j = x) with e | e; exact (by rw [e]; exact ⟨hzz _ (by omega), hzz _ (by omega)⟩); exact ⟨hzz _ (Or.inl (hz j j0 (by omega)).1), hzz _ (Or.inl (hz j j0 (by omega)).2)⟩) (fun i j i0 i1 j0 j1 hi hj => by rw [ho8 42 0 _ (by omega), hoA 42 0 _ (by omega)]; exact hmo i j i0 i1 j0 j1 hi hj) (by omega)
      refine kw_lv [1, 2, 0] rfl ?_
      exact hL42 7 0 S4 hfS4 (by omega) (by omega) ((ho4 30 0 0 (by omega)).trans k0) (hp27.tr (fun j => ho4 43 0 j (by omega)) (fun j => ho4 46 0 j (by omega)) (ho4 30 0 4 (by omega))) hv4 (fun i hi => by rw [ho4 41 0 i (by omega)]; exact e41 i) (fun j _ _ => by omega) (fun i j _ _ _ _ _ _ => by rw [ho4 42 0 _ (by omega)]; exact e42 _) (by omega)
    · refine kw_bipush hC dX8_mirror_23 rfl (by decide) ?_
      exact hR9.1 rfl _ _ _ _ dX8_mirror_25 ⟨_, rfl, hRS, Fr.rfl _ S, (if_neg (by omega)).symm, fun x hx => by have e := hx.1.1; have e4 := hx.2.1; unfold aMirror rMirror; rw [if_pos (by omega), if_pos (by omega), if_pos (by omega), if_pos (by omega)]; exact ⟨hx, rfl⟩⟩
  · refine kw_iconst hC dX8_mirror_12 rfl ?_
    exact hR9.1 rfl _ _ _ _ dX8_mirror_13 ⟨_, rfl, hRS, Fr.rfl _ S, (if_neg (by omega)).symm, fun x hx => by have e := hx.1.1; have e4 := hx.2.1; unfold aMirror rMirror; rw [if_neg (by omega), if_neg (by omega)]; exact ⟨hx, rfl⟩⟩

set_option maxHeartbeats 4000000 in
set_option maxRecDepth 100000 in
theorem f_X8_meet {g : wG} (hD : wD g) {S : wSt} {a b c d : Int} (ha : -2147483648 ≤ a ∧ a ≤ 2147483647) (hb : -2147483648 ≤ b ∧ b ≤ 2147483647) (hc : -2147483648 ≤ c ∧ c ≤ 2147483647) (hd : -2147483648 ≤ d ∧ d ≤ 2147483647) (hRS : RI S) (l : Launch) : Kt l yX8_meet wsX8_meet ({ frames := 2, cells := 0, slots := 0, locals := 47 } : Room) g S [vr g 30 0, vi a, vi b, vi c, vi d] (pI (fun r S' => RI S' ∧ Fr tS S S' ∧ (rSl S' = if 0 ≤ r then eW else rSl S) ∧ ∀ x, AR S x → AR S' (aMeet a b c d x) ∧ r = rMeet a b c d x)) := by
  refine Kt.of (cc := cX8_meet) (nL := 5) (ret := (some .int)) (own := RX8) rfl hD (by decide) rfl (Nat.le_of_ble_eq_true rfl) ⟨rfl, rfl⟩ ?_
  intro E hC hR9
  have f17 : Cond.fieldLink RX8 17 "MirrorBenchModel" "meets" "[I" ∈ wsX8_meet := by decide +kernel
  have l37 : Cond.constantLong RX8 37 (Int64.ofInt (4)) ∈ wsX8_meet := by decide +kernel
  have w8 : ∀ w ∈ wsX80, w ∈ wsX8_meet := by decide +kernel
  show Wk E g 5 S 0 [(0, vr g 30 0), (1, vi a), (2, vi b), (3, vi c), (4, vi d)] []
  have hfS : Fr fM S S := Fr.rfl _ S
  have hn := hRS.n
  refine kw_aload_n hC dX8_meet_0 rfl 0 rfl ?_
  refine kw_iload_n hC dX8_meet_1 rfl 1 rfl ?_
  refine kw_i2l hC dX8_meet_2 rfl (by omega) ?_
  refine kw_callV hC (d_X8_isMirror hD (by omega) (by omega) (by omega)) gX8_meet_X8_isMirror ⟨_, rfl⟩ rfl (by decide) (by decide) rfl ⟨rfl, rfl⟩ 1 (by decide +kernel) ⟨by decide, by decide⟩ rfl rfl (Nat.le_of_ble_eq_true rfl) dX8_meet_3 rfl (kd_ie ?_)
  refine kw_ifeq_b (tgt := 67) hC dX8_meet_6 rfl (by decide) ⟨fun c6 => ?_, fun c6 => ?_⟩
  · refine kw_iconst hC dX8_meet_67 rfl ?_
    exact hR9.1 rfl _ _ _ _ dX8_meet_68 ⟨_, rfl, hRS, Fr.rfl _ S, (if_neg (by omega)).symm, fun x hx => by have e := hx.1.1; have hno : ¬ oMeet a b c d x.1.1 := (fun q => by obtain ⟨⟨q1, q2⟩, q3, q4, q5, q6⟩ := q; omega); unfold aMeet rMeet; rw [if_neg hno, if_neg hno]; exact ⟨hx, rfl⟩⟩
  · refine kw_aload_n hC dX8_meet_9 rfl 0 rfl ?_
    refine kw_iload_n hC dX8_meet_10 rfl 2 rfl ?_
    refine kw_i2l hC dX8_meet_11 rfl (by omega) ?_
    refine kw_callV hC (d_X8_isMirror hD (by omega) (by omega) (by omega)) gX8_meet_X8_isMirror ⟨_, rfl⟩ rfl (by decide) (by decide) rfl ⟨rfl, rfl⟩ 1 (by decide +kernel) ⟨by decide, by decide⟩ rfl rfl (Nat.le_of_ble_eq_true rfl) dX8_meet_12 rfl (kd_ie ?_)
    refine kw_ifeq_b (tgt := 67) hC dX8_meet_15 rfl (by decide) ⟨fun c15 => ?_, fun c15 => ?_⟩
    · refine kw_iconst hC dX8_meet_67 rfl ?_
      exact hR9.1 rfl _ _ _ _ dX8_meet_68 ⟨_, rfl, hRS, Fr.rfl _ S, (if_neg (by omega)).symm, fun x hx => by have e := hx.1.1; have hno : ¬ oMeet a b c d x.1.1 := (fun q => by obtain ⟨⟨q1, q2⟩, q3, q4, q5, q6⟩ := q; omega); unfold aMeet rMeet; rw [if_neg hno, if_neg hno]; exact ⟨hx, rfl⟩⟩
    · refine kw_iload_n hC dX8_meet_18 rfl 1 rfl ?_
      refine kw_iload_n hC dX8_meet_19 rfl 2 rfl ?_
      refine kw_icmp_eq (tgt := 67) hC dX8_meet_20 rfl (by decide) (by omega) (by omega) ⟨fun c20 => ?_, fun c20 => ?_⟩
      · refine kw_iconst hC dX8_meet_67 rfl ?_
        exact hR9.1 rfl _ _ _ _ dX8_meet_68 ⟨_, rfl, hRS, Fr.rfl _ S, (if_neg (by omega)).symm, fun x hx => by have e := hx.1.1; have hno : ¬ oMeet a b c d x.1.1 := (fun q => by obtain ⟨⟨q1, q2⟩, q3, q4, q5, q6⟩ := q; omega); unfold aMeet rMeet; rw [if_neg hno, if_neg hno]; exact ⟨hx, rfl⟩⟩
      · refine kw_iload_n hC dX8_meet_23 rfl 3 rfl ?_
        refine kw_if_lt (tgt := 67) hC dX8_meet_24 rfl (by decide) (by omega) ⟨fun c24 => ?_, fun c24 => ?_⟩
        · refine kw_iconst hC dX8_meet_67 rfl ?_
          exact hR9.1 rfl _ _ _ _ dX8_meet_68 ⟨_, rfl, hRS, Fr.rfl _ S, (if_neg (by omega)).symm, fun x hx => by have e := hx.1.1; have hno : ¬ oMeet a b c d x.1.1 := (fun q => by obtain ⟨⟨q1, q2⟩, q3, q4, q5, q6⟩ := q; omega); unfold aMeet rMeet; rw [if_neg hno, if_neg hno]; exact ⟨hx, rfl⟩⟩
        · refine kw_iload hC dX8_meet_27 rfl 4 rfl ?_
          refine kw_if_lt (tgt := 67) hC dX8_meet_29 rfl (by decide) (by omega) ⟨fun c29 => ?_, fun c29 => ?_⟩
          · refine kw_iconst hC dX8_meet_67 rfl ?_
            exact hR9.1 rfl _ _ _ _ dX8_meet_68 ⟨_, rfl, hRS, Fr.rfl _ S, (if_neg (by omega)).symm, fun x hx => by have e := hx.1.1; have hno : ¬ oMeet a b c d x.1.1 := (fun q => by obtain ⟨⟨q1, q2⟩, q3, q4, q5, q6⟩ := q; omega); unfold aMeet rMeet; rw [if_neg hno, if_neg hno]; exact ⟨hx, rfl⟩⟩
          · refine kw_iload_n hC dX8_meet_32 rfl 3 rfl ?_
            have hJ54 : (c = 0 ↔ d = 0) → Wk E g 5 S 54 [(0, vr g 30 0), (1, vi a), (2, vi b), (3, vi c), (4, vi d)] [] := by
              intro  hcd
              have hmr := mul_rng (c := c) (d := d) (by omega) (by omega) (by omega) (by omega)
              refine kw_iload_n hC dX8_meet_54 rfl 3 rfl ?_
              refine kw_i2l hC dX8_meet_55 rfl (by omega) ?_
              refine kw_iload hC dX8_meet_56 rfl 4 rfl ?_
              refine kw_i2l hC dX8_meet_58 rfl (by omega) ?_
              refine kw_lmul hC dX8_meet_59 rfl ?_
              refine kw_ldc2 (z := 4) hC dX8_meet_60 rfl l37 ?_
              refine kw_lcmp hC dX8_meet_63 rfl (by omega) (by omega) ?_
              refine kw_if_le (tgt := 69) hC dX8_meet_64 rfl (by decide) (cz_r _ _) ⟨fun c64 => ?_, fun c64 => ?_⟩
              · replace c64 := (cz_le _ _).mp c64
                refine kw_aload_n hC dX8_meet_69 rfl 0 rfl ?_
                refine kw_callV hC (d_X8_keep hD hRS.c.1 hRS.c.2 hRS.n.1 hRS.n.2) gX8_meet_X8_keep ⟨_, rfl⟩ rfl (by decide) (by decide) rfl ⟨rfl, rfl⟩ 0 (by decide +kernel) ⟨by decide, by decide⟩ rfl rfl (Nat.le_of_ble_eq_true rfl) dX8_meet_70 rfl (kd_v (fun S7 hp7 => ?_))
                obtain ⟨hg7, hp7⟩ := hp7
                have hfS7 : Fr fM S S7 := hfS.trans (hg7.mono (fun k i j h => by unfold fK at h; unfold fM; omega))
                have hp27 := hp7
                have k0 : S7 30 0 0 = S 30 0 0 := hg7 30 0 0 (by unfold fK; omega)
                have e41 : ∀ j, S7 41 0 j = S 41 0 j := fun j => hg7 41 0 j (by unfold fK; omega)
                have e42 : ∀ j, S7 42 0 j = S 42 0 j := fun j => hg7 42 0 j (by unfold fK; omega)
                refine kw_aload_n hC dX8_meet_73 rfl 0 rfl ?_
                refine kg_30_2 hC w8 f17 dX8_meet_74 rfl (by decide) (by decide) ?_
                refine kw_bipush hC dX8_meet_77 rfl (by decide) ?_
                refine kw_iload_n hC dX8_meet_79 rfl 1 rfl ?_
                refine kw_imul hC dX8_meet_80 rfl ?_
                refine kw_iload_n hC dX8_meet_81 rfl 2 rfl ?_
                refine kw_iadd hC dX8_meet_82 rfl ?_
                refine kw_iload_n hC dX8_meet_83 rfl 3 rfl ?_
                refine ks_42 hC dX8_meet_84 rfl (by decide) (by decide) (by omega) (by omega) ?_
                refine kw_hv hfS7 (by unfold fM; omega) (fun S8 hfS8 hv8 ho8 => ?_)
                have hvA := hv8
                have hoA := ho8
                refine kw_aload_n hC dX8_meet_85 rfl 0 rfl ?_
                refine kg_30_2 hC w8 f17 dX8_meet_86 rfl (by decide) (by decide) ?_
                refine kw_bipush hC dX8_meet_89 rfl (by decide) ?_
                refine kw_iload_n hC dX8_meet_91 rfl 2 rfl ?_
                refine kw_imul hC dX8_meet_92 rfl ?_
                refine kw_iload_n hC dX8_meet_93 rfl 1 rfl ?_
                refine kw_iadd hC dX8_meet_94 rfl ?_
                refine kw_iload hC dX8_meet_95 rfl 4 rfl ?_
                refine ks_42 hC dX8_meet_97 rfl (by decide) (by decide) (by omega) (by omega) ?_
                refine kw_hv hfS8 (by unfold fM; omega) (fun S9 hfS9 hv9 ho9 => ?_)
                have hK8 := hp27.tr (S' := S9) (fun j => (ho9 43 0 j (by omega)).trans (hoA 43 0 j (by omega))) (fun j => (ho9 46 0 j (by omega)).trans (hoA 46 0 j (by omega))) ((ho9 30 0 4 (by omega)).trans (hoA 30 0 4 (by omega)))
                have hn8 : S9 30 0 0 = S 30 0 0 := ((ho9 30 0 0 (by omega)).trans (hoA 30 0 0 (by omega))).trans k0
                have hk8 : ∀ p, S9 41 0 p = S 41 0 p := fun p => ((ho9 41 0 p (by omega)).trans (hoA 41 0 p (by omega))).trans (e41 p)
                have m1 : S9 42 0 (6 * a + b) = c := (ho9 42 0 _ (by omega)).trans hvA
                have m2 : S9 42 0 (6 * b + a) = d := hv9
                have m3 : ∀ p, p ≠ 6 * a + b → p ≠ 6 * b + a → S9 42 0 p = S 42 0 p := fun p q1 q2 => ((ho9 42 0 p (by omega)).trans (hoA 42 0 p (by omega))).trans (e42 p)
                have hi8 := hK8.ri hRS (by rw [hn8]; exact hRS.set.meet (by omega) (by omega) (by omega) (by omega) hcd (by omega) hk8 m1 m2 m3) (hfS9.mono (fun k i j h => by unfold fM at h; unfold tS; omega))
                refine kw_aload_n hC dX8_meet_98 rfl 0 rfl ?_
                refine kw_iload_n hC dX8_meet_99 rfl 1 rfl ?_
                refine kw_iload_n hC dX8_meet_100 rfl 2 rfl ?_
                refine kw_callV hC (d_X8_meetsAt hD (by omega) (by omega) (by omega) (by omega) hi8) gX8_meet_X8_meetsAt ⟨_, rfl⟩ rfl (by decide) (by decide) rfl ⟨rfl, rfl⟩ 2 (by decide +kernel) ⟨by decide, by decide⟩ rfl rfl (Nat.le_of_ble_eq_true rfl) dX8_meet_101 rfl (kd_ie ?_)
                exact hR9.1 rfl _ _ _ _ dX8_meet_104 ⟨_, rfl, hi8, (hfS9.mono (fun k i j h => by unfold fM at h; unfold tS; omega)), (rSl_e hK8.2.1).trans (if_pos (by first | omega | exact (mAt_r _ _ _ _).1)).symm, fun x hx => by have e := hx.1.1; have hyes : oMeet a b c d x.1.1 := ⟨⟨by omega, by omega⟩, by omega, by omega, hcd, by omega⟩; unfold aMeet rMeet; rw [if_pos hyes, if_pos hyes, m1, m2]; exact ⟨hK8.ar hRS hx (by rw [hn8]; exact hx.1.meet hn.2 (by omega) (by omega) (by omega) hk8 m1 m2 m3), rfl⟩⟩
              · replace c64 := (not_congr (cz_le _ _)).mp c64
                refine kw_iconst hC dX8_meet_67 rfl ?_
                exact hR9.1 rfl _ _ _ _ dX8_meet_68 ⟨_, rfl, hRS, Fr.rfl _ S, (if_neg (by omega)).symm, fun x hx => by have e := hx.1.1; have hno : ¬ oMeet a b c d x.1.1 := (fun q => by obtain ⟨⟨q1, q2⟩, q3, q4, q5, q6⟩ := q; omega); unfold aMeet rMeet; rw [if_neg hno, if_neg hno]; exact ⟨hx, rfl⟩⟩
            refine kw_if_ne (tgt := 40) hC dX8_meet_33 rfl (by decide) (by omega) ⟨fun c33 => ?_, fun c33 => ?_⟩
            · refine kw_iconst hC dX8_meet_40 rfl ?_
              refine kw_iload hC dX8_meet_41 rfl 4 rfl ?_
              refine kw_if_ne (tgt := 50) hC dX8_meet_43 rfl (by decide) (by omega) ⟨fun c43 => ?_, fun c43 => ?_⟩
              · refine kw_iconst hC dX8_meet_50 rfl ?_
                refine kw_icmp_ne (tgt := 67) hC dX8_meet_51 rfl (by decide) (by omega) (by omega) ⟨fun c51 => ?_, fun c51 => ?_⟩
                · refine kw_iconst hC dX8_meet_67 rfl ?_
                  exact hR9.1 rfl _ _ _ _ dX8_meet_68 ⟨_, rfl, hRS, Fr.rfl _ S, (if_neg (by omega)).symm, fun x hx => by have e := hx.1.1; have hno : ¬ oMeet a b c d x.1.1 := (fun q => by obtain ⟨⟨q1, q2⟩, q3, q4, q5, q6⟩ := q; omega); unfold aMeet rMeet; rw [if_neg hno, if_neg hno]; exact ⟨hx, rfl⟩⟩
                · exact hJ54  (by omega)
              · refine kw_iconst hC dX8_meet_46 rfl ?_
                refine kw_goto (tgt := 51) hC dX8_meet_47 rfl (by decide) ?_
                refine kw_icmp_ne (tgt := 67) hC dX8_meet_51 rfl (by decide) (by omega) (by omega) ⟨fun c51 => ?_, fun c51 => ?_⟩
                · refine kw_iconst hC dX8_meet_67 rfl ?_
                  exact hR9.1 rfl _ _ _ _ dX8_meet_68 ⟨_, rfl, hRS, Fr.rfl _ S, (if_neg (by omega)).symm, fun x hx => by have e := hx.1.1; have hno : ¬ oMeet a b c d x.1.1 := (fun q => by obtain ⟨⟨q1, q2⟩, q3, q4, q5, q6⟩ := q; omega); unfold aMeet rMeet; rw [if_neg hno, if_neg hno]; exact ⟨hx, rfl⟩⟩
                · exact hJ54  (by omega)
            · refine kw_iconst hC dX8_meet_36 rfl ?_
              refine kw_goto (tgt := 41) hC dX8_meet_37 rfl (by decide) ?_
              refine kw_iload hC dX8_meet_41 rfl 4 rfl ?_
              refine kw_if_ne (tgt := 50) hC dX8_meet_43 rfl (by decide) (by omega) ⟨fun c43 => ?_, fun c43 => ?_⟩
              · refine kw_iconst hC dX8_meet_50 rfl ?_
                refine kw_icmp_ne (tgt := 67) hC dX8_meet_51 rfl (by decide) (by omega) (by omega) ⟨fun c51 => ?_, fun c51 => ?_⟩
                · refine kw_iconst hC dX8_meet_67 rfl ?_
                  exact hR9.1 rfl _ _ _ _ dX8_meet_68 ⟨_, rfl, hRS, Fr.rfl _ S, (if_neg (by omega)).symm, fun x hx => by have e := hx.1.1; have hno : ¬ oMeet a b c d x.1.1 := (fun q => by obtain ⟨⟨q1, q2⟩, q3, q4, q5, q6⟩ := q; omega); unfold aMeet rMeet; rw [if_neg hno, if_neg hno]; exact ⟨hx, rfl⟩⟩
                · exact hJ54  (by omega)
              · refine kw_iconst hC dX8_meet_46 rfl ?_
                refine kw_goto (tgt := 51) hC dX8_meet_47 rfl (by decide) ?_
                refine kw_icmp_ne (tgt := 67) hC dX8_meet_51 rfl (by decide) (by omega) (by omega) ⟨fun c51 => ?_, fun c51 => ?_⟩
                · refine kw_iconst hC dX8_meet_67 rfl ?_
                  exact hR9.1 rfl _ _ _ _ dX8_meet_68 ⟨_, rfl, hRS, Fr.rfl _ S, (if_neg (by omega)).symm, fun x hx => by have e := hx.1.1; have hno : ¬ oMeet a b c d x.1.1 := (fun q => by obtain ⟨⟨q1, q2⟩, q3, q4, q5, q6⟩ := q; omega); unfold aMeet rMeet; rw [if_neg hno, if_neg hno]; exact ⟨hx, rfl⟩⟩
                · exact hJ54  (by omega)

set_option maxHeartbeats 4000000 in
set_option maxRecDepth 100000 in
theorem f_X8_less {g : wG} (hD : wD g) {S : wSt}  (hRS : RI S) (l : Launch) : Kt l yX8_less wsX8_less ({ frames := 2, cells := 0, slots := 0, locals := 43 } : Room) g S [vr g 30 0] (pI (fun r S' => RI S' ∧ Fr tS S S' ∧ (rSl S' = if 0 ≤ r then eW else rSl S) ∧ ∀ x, AR S x → AR S' (aLess x) ∧ r = rLess x)) := by
  refine Kt.of (cc := cX8_less) (nL := 1) (ret := (some .int)) (own := RX8) rfl hD (by decide) rfl (Nat.le_of_ble_eq_true rfl) ⟨rfl, rfl⟩ ?_
  intro E hC hR9
  have f11 : Cond.fieldLink RX8 11 "MirrorBenchModel" "mirrors" "I" ∈ wsX8_less := by decide +kernel
  have w8 : ∀ w ∈ wsX80, w ∈ wsX8_less := by decide +kernel
  show Wk E g 1 S 0 [(0, vr g 30 0)] []
  have hfS : Fr fM S S := Fr.rfl _ S
  have hn := hRS.n
  refine kw_aload_n hC dX8_less_0 rfl 0 rfl ?_
  refine kg_30_0 hC w8 f11 dX8_less_1 rfl (by decide) (by decide) ?_
  refine kw_if_ne (tgt := 10) hC dX8_less_4 rfl (by decide) (by omega) ⟨fun c4 => ?_, fun c4 => ?_⟩
  · refine kw_aload_n hC dX8_less_10 rfl 0 rfl ?_
    refine kw_callV hC (d_X8_keep hD hRS.c.1 hRS.c.2 hRS.n.1 hRS.n.2) gX8_less_X8_keep ⟨_, rfl⟩ rfl (by decide) (by decide) rfl ⟨rfl, rfl⟩ 0 (by decide +kernel) ⟨by decide, by decide⟩ rfl rfl (Nat.le_of_ble_eq_true rfl) dX8_less_11 rfl (kd_v (fun S2 hp2 => ?_))
    obtain ⟨hg2, hp2⟩ := hp2
    have hfS2 : Fr fM S S2 := hfS.trans (hg2.mono (fun k i j h => by unfold fK at h; unfold fM; omega))
    have hp27 := hp2
    have k0 : S2 30 0 0 = S 30 0 0 := hg2 30 0 0 (by unfold fK; omega)
    have e41 : ∀ j, S2 41 0 j = S 41 0 j := fun j => hg2 41 0 j (by unfold fK; omega)
    have e42 : ∀ j, S2 42 0 j = S 42 0 j := fun j => hg2 42 0 j (by unfold fK; omega)
    refine kw_aload_n hC dX8_less_14 rfl 0 rfl ?_
    refine kw_dup hC dX8_less_15 rfl rfl ?_
    refine kg_30_0 hC w8 f11 dX8_less_16 rfl (by decide) (by decide) ?_
    refine kw_chi (z' := S 30 0 0) k0 ?_
    refine kw_iconst hC dX8_less_19 rfl ?_
    refine kw_isub hC dX8_less_20 rfl ?_
    refine kp_30_0 hC w8 f11 dX8_less_21 rfl (by decide) (by decide) ?_
    refine kw_hv hfS2 (by unfold fM; omega) (fun S3 hfS3 hv3 ho3 => ?_)
    have hK8 := hp27.tr (S' := S3) (fun j => ho3 43 0 j (by omega)) (fun j => ho3 46 0 j (by omega)) (ho3 30 0 4 (by omega))
    have hn8 := hv3
    have h41 : ∀ p, S3 41 0 p = S 41 0 p := fun p => (ho3 41 0 p (by omega)).trans (e41 p)
    have h42 : ∀ p, S3 42 0 p = S 42 0 p := fun p => (ho3 42 0 p (by omega)).trans (e42 p)
    have hi8 := hK8.ri hRS (by rw [hn8]; exact (hRS.set.congr (n' := S 30 0 0) rfl (fun i _ _ => h41 i) (fun i _ _ => h42 i)).less (by omega)) (hfS3.mono (fun k i j h => by unfold fM at h; unfold tS; omega))
    refine kw_aload_n hC dX8_less_24 rfl 0 rfl ?_
    refine kg_30_0 hC w8 f11 dX8_less_25 rfl (by decide) (by decide) ?_
    refine kw_chi (z' := S 30 0 0 - 1) hn8 ?_
    exact hR9.1 rfl _ _ _ _ dX8_less_28 ⟨_, rfl, hi8, (hfS3.mono (fun k i j h => by unfold fM at h; unfold tS; omega)), (rSl_e hK8.2.1).trans (if_pos (by first | omega | exact (mAt_r _ _ _ _).1)).symm, fun x hx => by have e := hx.1.1; unfold aLess rLess; rw [if_neg (by omega), if_neg (by omega)]; exact ⟨hK8.ar hRS hx (by rw [hn8]; exact hx.1.less h41 (fun i j _ _ _ _ => h42 _)), by omega⟩⟩
  · refine kw_bipush hC dX8_less_7 rfl (by decide) ?_
    exact hR9.1 rfl _ _ _ _ dX8_less_9 ⟨_, rfl, hRS, Fr.rfl _ S, (if_neg (by omega)).symm, fun x hx => by have e := hx.1.1; have e4 := hx.2.1; unfold aLess rLess; rw [if_pos (by omega), if_pos (by omega)]; exact ⟨hx, rfl⟩⟩

set_option maxHeartbeats 4000000 in
set_option maxRecDepth 100000 in
theorem f_X8_kind {g : wG} (hD : wD g) {S : wSt} {a b : Int} (ha : -2147483648 ≤ a ∧ a ≤ 2147483647) (hb : -2147483648 ≤ b ∧ b ≤ 2147483647) (hRS : RI S) (l : Launch) : Kt l yX8_kind wsX8_kind ({ frames := 2, cells := 0, slots := 0, locals := 47 } : Room) g S [vr g 30 0, vi a, vi b] (pI (fun r S' => RI S' ∧ Fr tS S S' ∧ rSl S' = rSl S ∧ ∀ x, AR S x → AR S' (aKind a b x) ∧ r = rKind a b x)) := by
  refine Kt.of (cc := cX8_kind) (nL := 4) (ret := (some .int)) (own := RX8) rfl hD (by decide) rfl (Nat.le_of_ble_eq_true rfl) ⟨rfl, rfl⟩ ?_
  intro E hC hR9
  have f14 : Cond.fieldLink RX8 14 "MirrorBenchModel" "kinds" "[I" ∈ wsX8_kind := by decide +kernel
  have l28 : Cond.constantLong RX8 28 (Int64.ofInt (2)) ∈ wsX8_kind := by decide +kernel
  have w8 : ∀ w ∈ wsX80, w ∈ wsX8_kind := by decide +kernel
  show Wk E g 4 S 0 [(0, vr g 30 0), (1, vi a), (2, vi b)] []
  have hfS : Fr fM S S := Fr.rfl _ S
  have hn := hRS.n
  refine kw_aload_n hC dX8_kind_0 rfl 0 rfl ?_
  refine kw_iload_n hC dX8_kind_1 rfl 1 rfl ?_
  refine kw_i2l hC dX8_kind_2 rfl (by omega) ?_
  refine kw_callV hC (d_X8_isMirror hD (by omega) (by omega) (by omega)) gX8_kind_X8_isMirror ⟨_, rfl⟩ rfl (by decide) (by decide) rfl ⟨rfl, rfl⟩ 1 (by decide +kernel) ⟨by decide, by decide⟩ rfl rfl (Nat.le_of_ble_eq_true rfl) dX8_kind_3 rfl (kd_ie ?_)
  refine kw_ifeq_b (tgt := 21) hC dX8_kind_6 rfl (by decide) ⟨fun c6 => ?_, fun c6 => ?_⟩
  · refine kw_iconst hC dX8_kind_21 rfl ?_
    exact hR9.1 rfl _ _ _ _ dX8_kind_22 ⟨_, rfl, hRS, Fr.rfl _ S, rfl, fun x hx => by have e := hx.1.1; unfold aKind rKind; rw [if_neg (by omega), if_neg (by omega)]; exact ⟨hx, rfl⟩⟩
  · refine kw_iload_n hC dX8_kind_9 rfl 2 rfl ?_
    refine kw_i2l hC dX8_kind_10 rfl (by omega) ?_
    refine kw_lconst (z := 0) hC dX8_kind_11 rfl rfl ?_
    refine kw_ldc2 (z := 2) hC dX8_kind_12 rfl l28 ?_
    refine kw_callS hC (d_X8_in hD (by omega) (by omega) (by omega)) gX8_kind_X8_in rfl ⟨rfl, rfl⟩ 3 (by decide +kernel) ⟨by decide, by decide⟩ rfl rfl (Nat.le_of_ble_eq_true rfl) dX8_kind_15 rfl (kd_ie ?_)
    refine kw_ifne_b (tgt := 23) hC dX8_kind_18 rfl (by decide) ⟨fun c18 => ?_, fun c18 => ?_⟩
    · refine kw_aload_n hC dX8_kind_23 rfl 0 rfl ?_
      refine kg_30_1 hC w8 f14 dX8_kind_24 rfl (by decide) (by decide) ?_
      refine kw_iload_n hC dX8_kind_27 rfl 1 rfl ?_
      refine ka_41 hC dX8_kind_28 rfl (by decide) (by decide) (by omega) (by omega) ?_
      refine kw_istore_n (lv' := [(3, _), (0, _), (1, _), (2, _)]) hC dX8_kind_29 rfl (by decide) rfl ?_
      have a0k : 0 ≤ a := by omega
      have a1k : a < 6 := by omega
      refine kw_aload_n hC dX8_kind_30 rfl 1 rfl ?_
      refine kg_30_1 hC w8 f14 dX8_kind_31 rfl (by decide) (by decide) ?_
      refine kw_iload_n hC dX8_kind_34 rfl 2 rfl ?_
      refine kw_iload_n hC dX8_kind_35 rfl 3 rfl ?_
      refine ks_41 hC dX8_kind_36 rfl (by decide) (by decide) (by omega) (by omega) ?_
      refine kw_hv hfS (by unfold fM; omega) (fun S3 hfS3 hv3 ho3 => ?_)
      have hk8 := hv3
      have hko8 : ∀ p, p ≠ a → S3 41 0 p = S 41 0 p := fun p hp => ho3 41 0 p (by omega)
      have hoo : ∀ k j, k ≠ 41 → S3 k 0 j = S k 0 j := fun k j hk => ho3 k 0 j (by omega)
      have hi8 := hRS.kind a0k a1k (by omega) hk8 hko8 hoo
      refine kw_iload_n hC dX8_kind_37 rfl 0 rfl ?_
      exact hR9.1 rfl _ _ _ _ dX8_kind_38 ⟨_, rfl, hi8, (hfS3.mono (fun k i j h => by unfold fM at h; unfold tS; omega)), rSl_fr (fun j => hoo 45 j (by omega)) (fun j => hoo 46 j (by omega)), fun x hx => by have e := hx.1.1; unfold aKind rKind; rw [if_pos (by omega), if_pos (by omega)]; exact ⟨hx.kind hk8 hko8 hoo, hx.1.2.1 a (by omega) (by omega)⟩⟩
    · refine kw_iconst hC dX8_kind_21 rfl ?_
      exact hR9.1 rfl _ _ _ _ dX8_kind_22 ⟨_, rfl, hRS, Fr.rfl _ S, rfl, fun x hx => by have e := hx.1.1; unfold aKind rKind; rw [if_neg (by omega), if_neg (by omega)]; exact ⟨hx, rfl⟩⟩

set_option maxHeartbeats 4000000 in
set_option maxRecDepth 100000 in
theorem f_X8_undo {g : wG} (hD : wD g) {S : wSt}  (hRS : RI S) (l : Launch) : Kt l yX8_undo wsX8_undo ({ frames := 1, cells := 0, slots := 0, locals := 21 } : Room) g S [vr g 30 0] (pI (fun r S' => RI S' ∧ Fr tS S S' ∧ (rSl S' = if 0 ≤ r then eW else rSl S) ∧ ∀ x, AR S x → AR S' (aUndo x) ∧ r = rUndo x)) := by
  refine Kt.of (cc := cX8_undo) (nL := 3) (ret := (some .int)) (own := RX8) rfl hD (by decide) rfl (Nat.le_of_ble_eq_true rfl) ⟨rfl, rfl⟩ ?_
  intro E hC hR9
  have f1 : Cond.fieldLink RX8 1 "MirrorBenchModel" "changes" "I" ∈ wsX8_undo := by decide +kernel
  have f7 : Cond.fieldLink RX8 7 "MirrorBenchModel" "kept" "[I" ∈ wsX8_undo := by decide +kernel
  have f11 : Cond.fieldLink RX8 11 "MirrorBenchModel" "mirrors" "I" ∈ wsX8_undo := by decide +kernel
  have f14 : Cond.fieldLink RX8 14 "MirrorBenchModel" "kinds" "[I" ∈ wsX8_undo := by decide +kernel
  have f17 : Cond.fieldLink RX8 17 "MirrorBenchModel" "meets" "[I" ∈ wsX8_undo := by decide +kernel
  have w8 : ∀ w ∈ wsX80, w ∈ wsX8_undo := by decide +kernel
  show Wk E g 3 S 0 [(0, vr g 30 0)] []
  have hfS : Fr fM S S := Fr.rfl _ S
  have hn := hRS.n
  refine kw_aload_n hC dX8_undo_0 rfl 0 rfl ?_
  refine kg_30_4 hC w8 f1 dX8_undo_1 rfl (by decide) (by decide) ?_
  refine kw_if_ne (tgt := 10) hC dX8_undo_4 rfl (by decide) (by have := hRS.c; omega) ⟨fun c4 => ?_, fun c4 => ?_⟩
  · have hc := hRS.c
    refine kw_aload_n hC dX8_undo_10 rfl 0 rfl ?_
    refine kw_dup hC dX8_undo_11 rfl rfl ?_
    refine kg_30_4 hC w8 f1 dX8_undo_12 rfl (by decide) (by decide) ?_
    refine kw_iconst hC dX8_undo_15 rfl ?_
    refine kw_isub hC dX8_undo_16 rfl ?_
    refine kp_30_4 hC w8 f1 dX8_undo_17 rfl (by decide) (by decide) ?_
    refine kw_hv hfS (by unfold fM; omega) (fun S2 hfS2 hv2 ho2 => ?_)
    have k4 := hv2
    have ho17 := ho2
    refine kw_bipush hC dX8_undo_20 rfl (by decide) ?_
    refine kw_aload_n hC dX8_undo_22 rfl 0 rfl ?_
    refine kg_30_4 hC w8 f1 dX8_undo_23 rfl (by decide) (by decide) ?_
    refine kw_chi (z' := S 30 0 4 - 1) k4 ?_
    refine kw_imul hC dX8_undo_26 rfl ?_
    refine kw_istore_n (lv' := [(1, _), (0, _)]) hC dX8_undo_27 rfl (by decide) rfl ?_
    refine kw_aload_n hC dX8_undo_28 rfl 1 rfl ?_
    refine kw_aload_n hC dX8_undo_29 rfl 1 rfl ?_
    refine kg_30_3 hC w8 f7 dX8_undo_30 rfl (by decide) (by decide) ?_
    refine kw_iload_n hC dX8_undo_33 rfl 0 rfl ?_
    refine ka_43 hC dX8_undo_34 rfl (by decide) (by decide) (by omega) (by omega) ?_
    refine kw_chi (z' := S 43 0 (43 * (S 30 0 4 - 1))) (ho2 43 0 _ (by omega)) ?_
    refine kp_30_0 hC w8 f11 dX8_undo_35 rfl (by decide) (by decide) ?_
    refine kw_hv hfS2 (by unfold fM; omega) (fun S3 hfS3 hv3 ho3 => ?_)
    have kn := hv3
    have k4 := (ho3 30 0 4 (by omega)).trans k4
    have e43 : ∀ j, S3 43 0 j = S 43 0 j := fun j => (ho3 43 0 j (by omega)).trans (ho17 43 0 j (by omega))
    refine kw_iconst hC dX8_undo_38 rfl ?_
    refine kw_istore_n (lv' := [(2, _), (1, _), (0, _)]) hC dX8_undo_39 rfl (by decide) rfl ?_
    have hL40 : ∀ (n40 : Nat) (x : Int) (W40 : wSt), Fr fM S W40 → (0 ≤ x) → (x ≤ 6) → (W40 30 0 4 = S 30 0 4 - 1) → (W40 30 0 0 = S 43 0 (43 * (S 30 0 4 - 1))) → (∀ j, W40 43 0 j = S 43 0 j) → (∀ j, 0 ≤ j → j < x → W40 41 0 j = S 43 0 (43 * (S 30 0 4 - 1) + 1 + j)) → 6 - x < (n40 : Int) → Wk E g 3 W40 40 [(0, vr g 30 0), (1, vi (43 * (S 30 0 4 - 1))), (2, vi x)] [] := by
      intro n40
      induction n40 with
      | zero => intro x W40 hfW40 x0 x1 k4 kn e43 hk hm40; exact absurd hm40 (by omega)
      | succ n40 ih40 =>
        intro x W40 hfW40 x0 x1 k4 kn e43 hk hm40
        refine kw_iload_n hC dX8_undo_40 rfl 2 rfl ?_
        refine kw_bipush hC dX8_undo_41 rfl (by decide) ?_
        refine kw_icmp_ge (tgt := 68) hC dX8_undo_43 rfl (by decide) (by omega) (by omega) ⟨fun c43 => ?_, fun c43 => ?_⟩
        · refine kw_iconst hC dX8_undo_68 rfl ?_
          refine kw_istore_n (lv' := [(2, _), (0, _), (1, _)]) hC dX8_undo_69 rfl (by decide) rfl ?_
          have hL70 : ∀ (n70 : Nat) (x : Int) (W70 : wSt), Fr fM S W70 → (0 ≤ x) → (x ≤ 36) → (W70 30 0 4 = S 30 0 4 - 1) → (W70 30 0 0 = S 43 0 (43 * (S 30 0 4 - 1))) → (∀ j, W70 43 0 j = S 43 0 j) → (∀ j, 0 ≤ j → j < 6 → W70 41 0 j = S 43 0 (43 * (S 30 0 4 - 1) + 1 + j)) → (∀ j, 0 ≤ j → j < x → W70 42 0 j = S 43 0 (43 * (S 30 0 4 - 1) + 7 + j)) → 36 - x < (n70 : Int) → Wk E g 3 W70 70 [(0, vr g 30 0), (1, vi (43 * (S 30 0 4 - 1))), (2, vi x)] [] := by
            intro n70
            induction n70 with
            | zero => intro x W70 hfW70 x0 x1 k4 kn e43 hk hm hm70; exact absurd hm70 (by omega)
            | succ n70 ih70 =>
              intro x W70 hfW70 x0 x1 k4 kn e43 hk hm hm70
              refine kw_iload_n hC dX8_undo_70 rfl 2 rfl ?_
              refine kw_bipush hC dX8_undo_71 rfl (by decide) ?_
              refine kw_icmp_ge (tgt := 99) hC dX8_undo_73 rfl (by decide) (by omega) (by omega) ⟨fun c73 => ?_, fun c73 => ?_⟩
              · refine kw_aload_n hC dX8_undo_99 rfl 0 rfl ?_
                refine kw_callV hC (d_X8_emptyWords hD ) gX8_undo_X8_emptyWords ⟨_, rfl⟩ rfl (by decide) (by decide) rfl ⟨rfl, rfl⟩ 0 (by decide +kernel) ⟨by decide, by decide⟩ rfl rfl (Nat.le_of_ble_eq_true rfl) dX8_undo_100 rfl (kd_v (fun S6 hp6 => ?_))
                obtain ⟨hg6, hp6⟩ := hp6
                have hfS6 : Fr fM S S6 := hfW70.trans (hg6.mono (fun k i j h => by unfold fE at h; unfold fM; omega))
                have g4 : S6 30 0 4 = S 30 0 4 - 1 := (hg6 30 0 4 (by unfold fE; omega)).trans k4
                have gn : S6 30 0 0 = S 43 0 (43 * (S 30 0 4 - 1)) := (hg6 30 0 0 (by unfold fE; omega)).trans kn
                have g41 : ∀ j, 0 ≤ j → j < 6 → S6 41 0 j = S 43 0 (43 * (S 30 0 4 - 1) + 1 + j) := fun j j0 j1 => (hg6 41 0 j (by unfold fE; omega)).trans (hk j j0 j1)
                have g42 : ∀ j, 0 ≤ j → j < 36 → S6 42 0 j = S 43 0 (43 * (S 30 0 4 - 1) + 7 + j) := fun j j0 j1 => (hg6 42 0 j (by unfold fE; omega)).trans (hm j j0 (by omega))
                have g43 : ∀ j, S6 43 0 j = S 43 0 j := fun j => (hg6 43 0 j (by unfold fE; omega)).trans (e43 j)
                have hi8 := hRS.undo c4 g4 gn g41 g42 g43 hp6 (hfS6.mono (fun k i j h => by unfold fM at h; unfold tS; omega))
                have he9 := hp6
                refine kw_aload_n hC dX8_undo_103 rfl 0 rfl ?_
                refine kg_30_4 hC w8 f1 dX8_undo_104 rfl (by decide) (by decide) ?_
                refine kw_chi (z' := S 30 0 4 - 1) g4 ?_
                exact hR9.1 rfl _ _ _ _ dX8_undo_107 ⟨_, rfl, hi8, (hfS6.mono (fun k i j h => by unfold fM at h; unfold tS; omega)), (rSl_e he9).trans (if_pos (by omega)).symm, fun x hx => by have e := hx.2.1; unfold aUndo rUndo; rw [if_neg (by omega), if_neg (by omega)]; exact ⟨hx.undo hRS c4 g4 gn g41 g42 g43, by omega⟩⟩
              · refine kw_aload_n hC dX8_undo_76 rfl 0 rfl ?_
                refine kg_30_2 hC w8 f17 dX8_undo_77 rfl (by decide) (by decide) ?_
                refine kw_iload_n hC dX8_undo_80 rfl 2 rfl ?_
                refine kw_aload_n hC dX8_undo_81 rfl 0 rfl ?_
                refine kg_30_3 hC w8 f7 dX8_undo_82 rfl (by decide) (by decide) ?_
                refine kw_iload_n hC dX8_undo_85 rfl 1 rfl ?_
                refine kw_bipush hC dX8_undo_86 rfl (by decide) ?_
                refine kw_iadd hC dX8_undo_88 rfl ?_
                refine kw_iload_n hC dX8_undo_89 rfl 2 rfl ?_
                refine kw_iadd hC dX8_undo_90 rfl ?_
                refine ka_43 hC dX8_undo_91 rfl (by decide) (by decide) (by omega) (by omega) ?_
                refine ks_42 hC dX8_undo_92 rfl (by decide) (by decide) (by omega) (by omega) ?_
                refine kw_hv hfW70 (by unfold fM; omega) (fun S7 hfS7 hv7 ho7 => ?_)
                refine kw_iinc (lv' := [(2, _), (0, _), (1, _)]) hC dX8_undo_93 rfl 2 rfl (by decide) rfl ?_
                refine kw_goto (tgt := 70) hC dX8_undo_96 rfl (by decide) ?_
                refine kw_lv [1, 2, 0] rfl ?_
                exact ih70 (x + 1) S7 hfS7 (by omega) (by omega) ((ho7 30 0 4 (by omega)).trans k4) ((ho7 30 0 0 (by omega)).trans kn) (fun j => (ho7 43 0 j (by omega)).trans (e43 j)) (fun j j0 j1 => (ho7 41 0 j (by omega)).trans (hk j j0 j1)) (ext_p (fun j z => z = S 43 0 (43 * (S 30 0 4 - 1) + 7 + j)) hm (fun j hj => ho7 42 0 j (by omega)) (by rw [hv7]; exact e43 _)) (by omega)
          refine kw_lv [1, 2, 0] rfl ?_
          exact hL70 37 0 W40 hfW40 (by omega) (by omega) k4 kn e43 (fun j j0 j1 => hk j j0 (by omega)) (fun j _ _ => by omega) (by omega)
        · refine kw_aload_n hC dX8_undo_46 rfl 0 rfl ?_
          refine kg_30_1 hC w8 f14 dX8_undo_47 rfl (by decide) (by decide) ?_
          refine kw_iload_n hC dX8_undo_50 rfl 2 rfl ?_
          refine kw_aload_n hC dX8_undo_51 rfl 0 rfl ?_
          refine kg_30_3 hC w8 f7 dX8_undo_52 rfl (by decide) (by decide) ?_
          refine kw_iload_n hC dX8_undo_55 rfl 1 rfl ?_
          refine kw_iconst hC dX8_undo_56 rfl ?_
          refine kw_iadd hC dX8_undo_57 rfl ?_
          refine kw_iload_n hC dX8_undo_58 rfl 2 rfl ?_
          refine kw_iadd hC dX8_undo_59 rfl ?_
          refine ka_43 hC dX8_undo_60 rfl (by decide) (by decide) (by omega) (by omega) ?_
          refine ks_41 hC dX8_undo_61 rfl (by decide) (by decide) (by omega) (by omega) ?_
          refine kw_hv hfW40 (by unfold fM; omega) (fun S8 hfS8 hv8 ho8 => ?_)
          refine kw_iinc (lv' := [(2, _), (0, _), (1, _)]) hC dX8_undo_62 rfl 2 rfl (by decide) rfl ?_
          refine kw_goto (tgt := 40) hC dX8_undo_65 rfl (by decide) ?_
          refine kw_lv [1, 2, 0] rfl ?_
          exact ih40 (x + 1) S8 hfS8 (by omega) (by omega) ((ho8 30 0 4 (by omega)).trans k4) ((ho8 30 0 0 (by omega)).trans kn) (fun j => (ho8 43 0 j (by omega)).trans (e43 j)) (ext_p (fun j z => z = S 43 0 (43 * (S 30 0 4 - 1) + 1 + j)) hk (fun j hj => ho8 41 0 j (by omega)) (by rw [hv8]; exact e43 _)) (by omega)
    refine kw_lv [2, 1, 0] rfl ?_
    exact hL40 7 0 S3 hfS3 (by omega) (by omega) k4 kn e43 (fun j _ _ => by omega) (by omega)
  · refine kw_bipush hC dX8_undo_7 rfl (by decide) ?_
    exact hR9.1 rfl _ _ _ _ dX8_undo_9 ⟨_, rfl, hRS, Fr.rfl _ S, (if_neg (by omega)).symm, fun x hx => by have e := hx.2.1; have e4 := hx.2.1; unfold aUndo rUndo; rw [if_pos (by omega), if_pos (by omega)]; exact ⟨hx, rfl⟩⟩
end
section
set_option maxHeartbeats 4000000 in
set_option maxRecDepth 100000 in
theorem f_X8_wall {g : wG} (hD : wD g) {S : wSt} {a b c d : Int} (ha : -2147483648 ≤ a ∧ a ≤ 2147483647) (hb : -2147483648 ≤ b ∧ b ≤ 2147483647) (hc : -2147483648 ≤ c ∧ c ≤ 2147483647) (hd : -2147483648 ≤ d ∧ d ≤ 2147483647) (hRS : RI S) (l : Launch) : Kt l yX8_wall wsX8_wall ({ frames := 6, cells := 0, slots := 0, locals := 136 } : Room) g S [vr g 30 0, vi a, vi b, vi c, vi d] (pL (fun _ S' => RI S' ∧ Fr tW S S' ∧ rSl S' = rSl S)) := by
  refine Kt.of (cc := cX8_wall) (nL := 8) (ret := (some .long)) (own := RX8) rfl hD (by decide) rfl (Nat.le_of_ble_eq_true rfl) ⟨rfl, rfl⟩ ?_
  intro E hC hR9
  have f57 : Cond.fieldLink RX8 57 "MirrorBenchModel" "wMany" "I" ∈ wsX8_wall := by decide +kernel
  have f60 : Cond.fieldLink RX8 60 "MirrorBenchModel" "w" "[I" ∈ wsX8_wall := by decide +kernel
  have f77 : Cond.fieldLink RX8 77 "MirrorBenchModel" "root" "[J" ∈ wsX8_wall := by decide +kernel
  have f81 : Cond.fieldLink RX8 81 "MirrorBenchModel" "isGreat" "Z" ∈ wsX8_wall := by decide +kernel
  have f129 : Cond.fieldLink RX8 129 "MirrorBenchModel" "v" "[I" ∈ wsX8_wall := by decide +kernel
  have l141 : Cond.constantLong RX8 141 (Int64.ofInt (-10000000000001)) ∈ wsX8_wall := by decide +kernel
  have l146 : Cond.constantLong RX8 146 (Int64.ofInt (-10000000000004)) ∈ wsX8_wall := by decide +kernel
  have w8 : ∀ w ∈ wsX80, w ∈ wsX8_wall := by decide +kernel
  show Wk E g 8 S 0 [(0, vr g 30 0), (1, vi a), (2, vi b), (3, vi c), (4, vi d)] []
  have hfS : Fr tR S S := Fr.rfl _ S
  have hRS := hRS.fr hfS
  have hnS := hRS.n
  have enS : S 30 0 0 = S 30 0 0 := hfS 30 0 0 (by unfold tR; omega)
  refine kw_iload_n hC dX8_wall_0 rfl 1 rfl ?_
  refine kw_callS hC (d_X8_isSlot hD (by omega)) gX8_wall_X8_isSlot rfl ⟨rfl, rfl⟩ 1 (by decide +kernel) ⟨by decide, by decide⟩ rfl rfl (Nat.le_of_ble_eq_true rfl) dX8_wall_1 rfl (kd_ie ?_)
  refine kw_ifeq_b (tgt := 24) hC dX8_wall_4 rfl (by decide) ⟨fun c4 => ?_, fun c4 => ?_⟩
  · refine kw_ldc2 (z := -10000000000001) hC dX8_wall_24 rfl l141 ?_
    exact hR9.2.2.1 rfl _ _ _ _ dX8_wall_27 ⟨_, rfl, hRS, tR_tW hfS, rSl_tR hfS⟩
  · refine kw_iload_n hC dX8_wall_7 rfl 2 rfl ?_
    refine kw_callS hC (d_X8_isSlot hD (by omega)) gX8_wall_X8_isSlot rfl ⟨rfl, rfl⟩ 1 (by decide +kernel) ⟨by decide, by decide⟩ rfl rfl (Nat.le_of_ble_eq_true rfl) dX8_wall_8 rfl (kd_ie ?_)
    refine kw_ifeq_b (tgt := 24) hC dX8_wall_11 rfl (by decide) ⟨fun c11 => ?_, fun c11 => ?_⟩
    · refine kw_ldc2 (z := -10000000000001) hC dX8_wall_24 rfl l141 ?_
      exact hR9.2.2.1 rfl _ _ _ _ dX8_wall_27 ⟨_, rfl, hRS, tR_tW hfS, rSl_tR hfS⟩
    · refine kw_aload_n hC dX8_wall_14 rfl 0 rfl ?_
      refine kw_iload hC dX8_wall_15 rfl 4 rfl ?_
      refine kw_i2l hC dX8_wall_17 rfl (by omega) ?_
      refine kw_callV hC (d_X8_isMirror hD (by omega) (by omega) (by omega)) gX8_wall_X8_isMirror ⟨_, rfl⟩ rfl (by decide) (by decide) rfl ⟨rfl, rfl⟩ 1 (by decide +kernel) ⟨by decide, by decide⟩ rfl rfl (Nat.le_of_ble_eq_true rfl) dX8_wall_18 rfl (kd_ie ?_)
      refine kw_ifne_b (tgt := 28) hC dX8_wall_21 rfl (by decide) ⟨fun c21 => ?_, fun c21 => ?_⟩
      · refine kw_aload_n hC dX8_wall_28 rfl 0 rfl ?_
        refine kw_iload_n hC dX8_wall_29 rfl 1 rfl ?_
        refine kw_iload_n hC dX8_wall_30 rfl 2 rfl ?_
        refine kw_callV hC (d_X8_findWay hD (by omega) (by omega) (by omega) (by omega) hRS) gX8_wall_X8_findWay ⟨_, rfl⟩ rfl (by decide) (by decide) rfl ⟨rfl, rfl⟩ 2 (by decide +kernel) ⟨by decide, by decide⟩ rfl rfl (Nat.le_of_ble_eq_true rfl) dX8_wall_31 rfl (kd_i (fun r4 S4 hp4 => ?_))
        obtain ⟨hg4, hp4⟩ := hp4
        have hfS4 : Fr tR S S4 := hfS.trans (hg4.mono (fun k i j h => by unfold fW at h; unfold tR; omega))
        have hRS4 := hRS.fr hfS4
        have hnS4 := hRS4.n
        have enS4 : S4 30 0 0 = S 30 0 0 := hfS4 30 0 0 (by unfold tR; omega)
        obtain ⟨hb4, hok⟩ := hp4
        obtain ⟨rZ, hrZ⟩ : ∃ z, z = r4 := ⟨_, rfl⟩
        rw [← hrZ]
        refine kw_istore (lv' := [(5, _), (0, _), (1, _), (2, _), (3, _), (4, _)]) hC dX8_wall_34 rfl (by decide) rfl ?_
        refine kw_iload hC dX8_wall_36 rfl 0 rfl ?_
        refine kw_bipush hC dX8_wall_38 rfl (by decide) ?_
        refine kw_icmp_ne (tgt := 47) hC dX8_wall_40 rfl (by decide) (by omega) (by omega) ⟨fun c40 => ?_, fun c40 => ?_⟩
        · refine kw_iload hC dX8_wall_47 rfl 0 rfl ?_
          refine kw_bipush hC dX8_wall_49 rfl (by decide) ?_
          refine kw_icmp_eq (tgt := 70) hC dX8_wall_51 rfl (by decide) (by omega) (by omega) ⟨fun c51 => ?_, fun c51 => ?_⟩
          · refine kw_ldc2 (z := -10000000000001) hC dX8_wall_70 rfl l141 ?_
            exact hR9.2.2.1 rfl _ _ _ _ dX8_wall_73 ⟨_, rfl, hRS4, tR_tW hfS4, rSl_tR hfS4⟩
          · obtain ⟨w0, w1, hwv⟩ := hok (by omega)
            replace hwv : WV (S4 53 0) (S4 30 0 14) (S4 30 0 0) := hwv.eq (fun _ _ _ => rfl) rfl (by omega)
            refine kw_iload_n hC dX8_wall_54 rfl 4 rfl ?_
            refine kw_i2l hC dX8_wall_55 rfl (by omega) ?_
            refine kw_lconst (z := 0) hC dX8_wall_56 rfl rfl ?_
            refine kw_aload_n hC dX8_wall_57 rfl 1 rfl ?_
            refine kg_30_14 hC w8 f57 dX8_wall_58 rfl (by decide) (by decide) ?_
            refine kw_iconst hC dX8_wall_61 rfl ?_
            refine kw_isub hC dX8_wall_62 rfl ?_
            refine kw_i2l hC dX8_wall_63 rfl (by omega) ?_
            refine kw_callS hC (d_X8_in hD (by omega) (by omega) (by omega)) gX8_wall_X8_in rfl ⟨rfl, rfl⟩ 3 (by decide +kernel) ⟨by decide, by decide⟩ rfl rfl (Nat.le_of_ble_eq_true rfl) dX8_wall_64 rfl (kd_ie ?_)
            refine kw_ifne_b (tgt := 74) hC dX8_wall_67 rfl (by decide) ⟨fun c67 => ?_, fun c67 => ?_⟩
            · refine kw_iconst hC dX8_wall_74 rfl ?_
              refine kw_istore (lv' := [(6, _), (5, _), (0, _), (1, _), (2, _), (3, _), (4, _)]) hC dX8_wall_75 rfl (by decide) rfl ?_
              have hL77 : ∀ (n77 : Nat) (x : Int) (W77 : wSt), Fr tR S W77 → (0 ≤ x) → (x ≤ c) → (c < W77 30 0 14) → (WV (W77 51 0) x (W77 30 0 0)) → (WV (W77 53 0) (W77 30 0 14) (W77 30 0 0)) → (0 ≤ W77 30 0 14) → (W77 30 0 14 ≤ 100) → c - x < (n77 : Int) → Wk E g 8 W77 77 [(0, vr g 30 0), (1, vi a), (2, vi b), (3, vi c), (4, vi d), (5, vi rZ), (6, vi x)] [] := by
                intro n77
                induction n77 with
                | zero => intro x W77 hfW77 x0 x1 hc hvv hwv w0 w1 hm77; exact absurd hm77 (by omega)
                | succ n77 ih77 =>
                  intro x W77 hfW77 x0 x1 hc hvv hwv w0 w1 hm77
                  have hRW77 := hRS.fr hfW77
                  have hnW77 := hRW77.n
                  have enW77 : W77 30 0 0 = S 30 0 0 := hfW77 30 0 0 (by unfold tR; omega)
                  refine kw_iload hC dX8_wall_77 rfl 6 rfl ?_
                  refine kw_iload_n hC dX8_wall_79 rfl 3 rfl ?_
                  refine kw_icmp_ge (tgt := 103) hC dX8_wall_80 rfl (by decide) (by omega) (by omega) ⟨fun c80 => ?_, fun c80 => ?_⟩
                  · have hwc := hwv c (by omega) (by omega)
                    refine kw_aload_n hC dX8_wall_103 rfl 0 rfl ?_
                    refine kg_30_13 hC w8 f60 dX8_wall_104 rfl (by decide) (by decide) ?_
                    refine kw_iload_n hC dX8_wall_107 rfl 3 rfl ?_
                    refine ka_53 hC dX8_wall_108 rfl (by decide) (by decide) (by omega) (by omega) ?_
                    refine kw_istore (lv' := [(6, _), (0, _), (1, _), (2, _), (3, _), (4, _), (5, _)]) hC dX8_wall_109 rfl (by decide) rfl ?_
                    refine kw_aload_n hC dX8_wall_111 rfl 1 rfl ?_
                    refine kw_iload_n hC dX8_wall_112 rfl 2 rfl ?_
                    refine kw_callV hC (d_X8_load hD (by omega) (by omega) hRW77) gX8_wall_X8_load ⟨_, rfl⟩ rfl (by decide) (by decide) rfl ⟨rfl, rfl⟩ 1 (by decide +kernel) ⟨by decide, by decide⟩ rfl rfl (Nat.le_of_ble_eq_true rfl) dX8_wall_113 rfl (kd_v (fun S9 hp9 => ?_))
                    obtain ⟨hg9, hp9⟩ := hp9
                    have hfS9 : Fr tR S S9 := hfW77.trans (hg9.mono (fun k i j h => by unfold fL at h; unfold tR; omega))
                    have hRS9 := hRS.fr hfS9
                    have hnS9 := hRS9.n
                    have enS9 : S9 30 0 0 = S 30 0 0 := hfS9 30 0 0 (by unfold tR; omega)
                    obtain ⟨q14, qW⟩ := hp9
                    have hwv : WV (S9 53 0) (S9 30 0 14) (S9 30 0 0) := ldWV hRW77 (by omega) (by omega) q14 qW (by omega)
                    have hl9 := hRW77.ln a (by omega) (by omega)
                    replace hvv : WV (S9 51 0) x (S9 30 0 0) := hvv.eq (fun j _ _ => hg9 51 0 j (by unfold fL; omega)) rfl (hg9 30 0 0 (by unfold fL; omega))
                    refine kw_iconst hC dX8_wall_116 rfl ?_
                    refine kw_istore (lv' := [(7, _), (6, _), (0, _), (1, _), (2, _), (3, _), (4, _), (5, _)]) hC dX8_wall_117 rfl (by decide) rfl ?_
                    have hL119 : ∀ (n119 : Nat) (y : Int) (W119 : wSt), Fr tR S W119 → (0 ≤ y) → (y ≤ c) → (W119 30 0 14 ≤ 100 + y) → (WV (W119 51 0) x (W119 30 0 0)) → (WV (W119 53 0) (W119 30 0 14) (W119 30 0 0)) → (0 ≤ W119 30 0 14) → c - y < (n119 : Int) → Wk E g 8 W119 119 [(0, vr g 30 0), (1, vi a), (2, vi b), (3, vi c), (4, vi d), (5, vi rZ), (6, vi (W77 53 0 c)), (7, vi y)] [] := by
                      intro n119
                      induction n119 with
                      | zero => intro y W119 hfW119 y0 y1 q14 hvv hwv w0 hm119; exact absurd hm119 (by omega)
                      | succ n119 ih119 =>
                        intro y W119 hfW119 y0 y1 q14 hvv hwv w0 hm119
                        have hRW119 := hRS.fr hfW119
                        have hnW119 := hRW119.n
                        have enW119 : W119 30 0 0 = S 30 0 0 := hfW119 30 0 0 (by unfold tR; omega)
                        refine kw_iload hC dX8_wall_119 rfl 7 rfl ?_
                        refine kw_iload_n hC dX8_wall_121 rfl 3 rfl ?_
                        refine kw_icmp_ge (tgt := 157) hC dX8_wall_122 rfl (by decide) (by omega) (by omega) ⟨fun c122 => ?_, fun c122 => ?_⟩
                        · refine kw_aload_n hC dX8_wall_157 rfl 0 rfl ?_
                          refine kw_iconst hC dX8_wall_158 rfl ?_
                          refine kp_30_16 hC w8 f81 dX8_wall_159 rfl (by decide) (by decide) (by omega) ?_
                          refine kw_hv hfW119 (by unfold tR; omega) (fun S11 hfS11 hv11 ho11 => ?_)
                          have hRS11 := hRS.fr hfS11
                          have hnS11 := hRS11.n
                          have enS11 : S11 30 0 0 = S 30 0 0 := hfS11 30 0 0 (by unfold tR; omega)
                          have e14_11 : S11 30 0 14 = W119 30 0 14 := ho11 30 0 14 (by omega)
                          replace hwv : WV (S11 53 0) (S11 30 0 14) (S11 30 0 0) := hwv.eq (fun j _ _ => ho11 53 0 j (by omega)) e14_11 (ho11 30 0 0 (by omega))
                          have hgw : S11 30 0 16 = 0 ∨ S11 30 0 16 = 1 := Or.inl hv11
                          refine kw_aload_n hC dX8_wall_162 rfl 0 rfl ?_
                          refine kw_iload hC dX8_wall_163 rfl 6 rfl ?_
                          refine kw_callV hC (d_X8_own hD (by omega)) gX8_wall_X8_own ⟨_, rfl⟩ rfl (by decide) (by decide) rfl ⟨rfl, rfl⟩ 1 (by decide +kernel) ⟨by decide, by decide⟩ rfl rfl (Nat.le_of_ble_eq_true rfl) dX8_wall_165 rfl (kd_v (fun S12 hp12 => ?_))
                          obtain ⟨hg12, hp12⟩ := hp12
                          have hfS12 : Fr tR S S12 := hfS11.trans (hg12.mono (fun k i j h => by unfold fO at h; unfold tR; omega))
                          have hRS12 := hRS.fr hfS12
                          have hnS12 := hRS12.n
                          have enS12 : S12 30 0 0 = S 30 0 0 := hfS12 30 0 0 (by unfold tR; omega)
                          have e14_12 : S12 30 0 14 = S11 30 0 14 := hg12 30 0 14 (by unfold fO; omega)
                          replace hwv : WV (S12 53 0) (S12 30 0 14) (S12 30 0 0) := hwv.eq (fun j _ _ => hg12 53 0 j (by unfold fO; omega)) e14_12 (hg12 30 0 0 (by unfold fO; omega))
                          have e1612 : S12 30 0 16 = S11 30 0 16 := hg12 30 0 16 (by unfold fO; omega)
                          refine kw_aload_n hC dX8_wall_168 rfl 0 rfl ?_
                          refine kw_callV hC (d_X8_doneBy hD hRS12 hwv (by omega) (by omega) (by omega)) gX8_wall_X8_doneBy ⟨_, rfl⟩ rfl (by decide) (by decide) rfl ⟨rfl, rfl⟩ 0 (by decide +kernel) ⟨by decide, by decide⟩ rfl rfl (Nat.le_of_ble_eq_true rfl) dX8_wall_169 rfl (kd_i (fun r13 S13 hp13 => ?_))
                          obtain ⟨hg13, hp13⟩ := hp13
                          have hfS13 : Fr tR S S13 := hfS12.trans (hg13.mono (fun k i j h => by unfold fT at h; unfold tR; omega))
                          have hRS13 := hRS.fr hfS13
                          have hnS13 := hRS13.n
                          have enS13 : S13 30 0 0 = S 30 0 0 := hfS13 30 0 0 (by unfold tR; omega)
                          obtain ⟨hb13, hgw⟩ := hp13
                          have e14_13 : S13 30 0 14 = S12 30 0 14 := hg13 30 0 14 (by unfold fT; omega)
                          replace hwv : WV (S13 53 0) (S13 30 0 14) (S13 30 0 0) := hwv.eq (fun j _ _ => hg13 53 0 j (by unfold fT; omega)) e14_13 (hg13 30 0 0 (by unfold fT; omega))
                          refine kw_if_ne (tgt := 179) hC dX8_wall_172 rfl (by decide) (by omega) ⟨fun c172 => ?_, fun c172 => ?_⟩
                          · refine kw_aload_n hC dX8_wall_179 rfl 0 rfl ?_
                            refine kw_callV hC (d_X8_isAbove hD (by omega) (by omega)) gX8_wall_X8_isAbove ⟨_, rfl⟩ rfl (by decide) (by decide) rfl ⟨rfl, rfl⟩ 0 (by decide +kernel) ⟨by decide, by decide⟩ rfl rfl (Nat.le_of_ble_eq_true rfl) dX8_wall_180 rfl (kd_ie ?_)
                            refine kw_ifeq_b (tgt := 196) hC dX8_wall_183 rfl (by decide) ⟨fun c183 => ?_, fun c183 => ?_⟩
                            · refine kw_lconst (z := 0) hC dX8_wall_196 rfl rfl ?_
                              refine kw_aload_n hC dX8_wall_197 rfl 0 rfl ?_
                              refine kg_30_15 hC w8 f77 dX8_wall_198 rfl (by decide) (by decide) ?_
                              refine kw_iload hC dX8_wall_201 rfl 4 rfl ?_
                              refine ka_55 hC dX8_wall_203 rfl (by decide) (by decide) (by omega) (by omega) ?_
                              refine kw_lsub hC dX8_wall_204 rfl ?_
                              exact hR9.2.2.1 rfl _ _ _ _ dX8_wall_205 ⟨_, rfl, hRS13, tR_tW hfS13, rSl_tR hfS13⟩
                            · refine kw_aload_n hC dX8_wall_186 rfl 0 rfl ?_
                              refine kg_30_15 hC w8 f77 dX8_wall_187 rfl (by decide) (by decide) ?_
                              refine kw_iload hC dX8_wall_190 rfl 4 rfl ?_
                              refine ka_55 hC dX8_wall_192 rfl (by decide) (by decide) (by omega) (by omega) ?_
                              refine kw_goto (tgt := 205) hC dX8_wall_193 rfl (by decide) ?_
                              exact hR9.2.2.1 rfl _ _ _ _ dX8_wall_205 ⟨_, rfl, hRS13, tR_tW hfS13, rSl_tR hfS13⟩
                          · refine kw_ldc2 (z := -10000000000004) hC dX8_wall_175 rfl l146 ?_
                            exact hR9.2.2.1 rfl _ _ _ _ dX8_wall_178 ⟨_, rfl, hRS13, tR_tW hfS13, rSl_tR hfS13⟩
                        · refine kw_aload_n hC dX8_wall_125 rfl 0 rfl ?_
                          refine kg_30_13 hC w8 f60 dX8_wall_126 rfl (by decide) (by decide) ?_
                          refine kw_aload_n hC dX8_wall_129 rfl 0 rfl ?_
                          refine kg_30_14 hC w8 f57 dX8_wall_130 rfl (by decide) (by decide) ?_
                          refine kw_aload_n hC dX8_wall_133 rfl 0 rfl ?_
                          refine kg_30_11 hC w8 f129 dX8_wall_134 rfl (by decide) (by decide) ?_
                          refine kw_iload hC dX8_wall_137 rfl 7 rfl ?_
                          refine ka_51 hC dX8_wall_139 rfl (by decide) (by decide) (by omega) (by omega) ?_
                          have hvy := hvv y (by omega) (by omega)
                          refine ks_53 hC dX8_wall_140 rfl (by decide) (by decide) (by omega) (by omega) ?_
                          refine kw_hv hfW119 (by unfold tR; omega) (fun S16 hfS16 hv16 ho16 => ?_)
                          have hRS16 := hRS.fr hfS16
                          have hnS16 := hRS16.n
                          have enS16 : S16 30 0 0 = S 30 0 0 := hfS16 30 0 0 (by unfold tR; omega)
                          have hw8 : WV (S16 53 0) (W119 30 0 14 + 1) (S16 30 0 0) := (hwv.add (fun j hj => ho16 53 0 j (by omega)) (by rw [hv16]; exact hvy)).eq (fun _ _ _ => rfl) rfl (ho16 30 0 0 (by omega))
                          replace hvv : WV (S16 51 0) x (S16 30 0 0) := hvv.eq (fun j _ _ => ho16 51 0 j (by omega)) rfl (ho16 30 0 0 (by omega))
                          have e1416 : S16 30 0 14 = W119 30 0 14 := ho16 30 0 14 (by omega)
                          refine kw_aload_n hC dX8_wall_141 rfl 0 rfl ?_
                          refine kw_dup hC dX8_wall_142 rfl rfl ?_
                          refine kg_30_14 hC w8 f57 dX8_wall_143 rfl (by decide) (by decide) ?_
                          refine kw_iconst hC dX8_wall_146 rfl ?_
                          refine kw_iadd hC dX8_wall_147 rfl ?_
                          refine kp_30_14 hC w8 f57 dX8_wall_148 rfl (by decide) (by decide) ?_
                          refine kw_hv hfS16 (by unfold tR; omega) (fun S17 hfS17 hv17 ho17 => ?_)
                          have hRS17 := hRS.fr hfS17
                          have hnS17 := hRS17.n
                          have enS17 : S17 30 0 0 = S 30 0 0 := hfS17 30 0 0 (by unfold tR; omega)
                          have hwv : WV (S17 53 0) (S17 30 0 14) (S17 30 0 0) := hw8.eq (fun j _ _ => ho17 53 0 j (by omega)) (by have := hv17; omega) (ho17 30 0 0 (by omega))
                          replace hvv : WV (S17 51 0) x (S17 30 0 0) := hvv.eq (fun j _ _ => ho17 51 0 j (by omega)) rfl (ho17 30 0 0 (by omega))
                          have x14 := hv17
                          refine kw_iinc (lv' := [(7, _), (0, _), (1, _), (2, _), (3, _), (4, _), (5, _), (6, _)]) hC dX8_wall_151 rfl 7 rfl (by decide) rfl ?_
                          refine kw_goto (tgt := 119) hC dX8_wall_154 rfl (by decide) ?_
                          refine kw_lv [1, 2, 3, 4, 5, 6, 7, 0] rfl ?_
                          exact ih119 (y + 1) S17 hfS17 (by omega) (by omega) (by omega) hvv hwv (by omega) (by omega)
                    refine kw_lv [2, 3, 4, 5, 6, 7, 1, 0] rfl ?_
                    exact hL119 101 0 S9 hfS9 (by omega) (by omega) (by omega) hvv hwv (by omega) (by omega)
                  · refine kw_aload_n hC dX8_wall_83 rfl 0 rfl ?_
                    refine kg_30_11 hC w8 f129 dX8_wall_84 rfl (by decide) (by decide) ?_
                    refine kw_iload hC dX8_wall_87 rfl 6 rfl ?_
                    refine kw_aload_n hC dX8_wall_89 rfl 0 rfl ?_
                    refine kg_30_13 hC w8 f60 dX8_wall_90 rfl (by decide) (by decide) ?_
                    refine kw_iload hC dX8_wall_93 rfl 6 rfl ?_
                    refine ka_53 hC dX8_wall_95 rfl (by decide) (by decide) (by omega) (by omega) ?_
                    have hwx := hwv x (by omega) (by omega)
                    refine ks_51 hC dX8_wall_96 rfl (by decide) (by decide) (by omega) (by omega) ?_
                    refine kw_hv hfW77 (by unfold tR; omega) (fun S18 hfS18 hv18 ho18 => ?_)
                    have hRS18 := hRS.fr hfS18
                    have hnS18 := hRS18.n
                    have enS18 : S18 30 0 0 = S 30 0 0 := hfS18 30 0 0 (by unfold tR; omega)
                    have e14_18 : S18 30 0 14 = W77 30 0 14 := ho18 30 0 14 (by omega)
                    replace hwv : WV (S18 53 0) (S18 30 0 14) (S18 30 0 0) := hwv.eq (fun j _ _ => ho18 53 0 j (by omega)) e14_18 (ho18 30 0 0 (by omega))
                    have hv2 : WV (S18 51 0) (x + 1) (S18 30 0 0) := (hvv.add (fun j hj => ho18 51 0 j (by omega)) (by rw [hv18]; exact hwx)).eq (fun _ _ _ => rfl) rfl (ho18 30 0 0 (by omega))
                    refine kw_iinc (lv' := [(6, _), (0, _), (1, _), (2, _), (3, _), (4, _), (5, _)]) hC dX8_wall_97 rfl 6 rfl (by decide) rfl ?_
                    refine kw_goto (tgt := 77) hC dX8_wall_100 rfl (by decide) ?_
                    refine kw_lv [1, 2, 3, 4, 5, 6, 0] rfl ?_
                    exact ih77 (x + 1) S18 hfS18 (by omega) (by omega) (by omega) hv2 hwv (by omega) (by omega) (by omega)
              refine kw_lv [2, 3, 4, 5, 6, 1, 0] rfl ?_
              exact hL77 101 0 S4 hfS4 (by omega) (by omega) (by omega) (fun j _ _ => by omega) hwv (by omega) (by omega) (by omega)
            · refine kw_ldc2 (z := -10000000000001) hC dX8_wall_70 rfl l141 ?_
              exact hR9.2.2.1 rfl _ _ _ _ dX8_wall_73 ⟨_, rfl, hRS4, tR_tW hfS4, rSl_tR hfS4⟩
        · refine kw_ldc2 (z := -10000000000004) hC dX8_wall_43 rfl l146 ?_
          exact hR9.2.2.1 rfl _ _ _ _ dX8_wall_46 ⟨_, rfl, hRS4, tR_tW hfS4, rSl_tR hfS4⟩
      · refine kw_ldc2 (z := -10000000000001) hC dX8_wall_24 rfl l141 ?_
        exact hR9.2.2.1 rfl _ _ _ _ dX8_wall_27 ⟨_, rfl, hRS, tR_tW hfS, rSl_tR hfS⟩

set_option maxHeartbeats 4000000 in
set_option maxRecDepth 100000 in
theorem f_X8_roots {g : wG} (hD : wD g) {S : wSt} {a : Int} (ha : -2147483648 ≤ a ∧ a ≤ 2147483647) (hRS : RI S) (l : Launch) : Kt l yX8_roots wsX8_roots ({ frames := 3, cells := 0, slots := 0, locals := 75 } : Room) g S [vr g 30 0, vi a] (pI (fun _ S' => RI S' ∧ Fr tW S S' ∧ rSl S' = rSl S)) := by
  refine Kt.of (cc := cX8_roots) (nL := 4) (ret := (some .int)) (own := RX8) rfl hD (by decide) rfl (Nat.le_of_ble_eq_true rfl) ⟨rfl, rfl⟩ ?_
  intro E hC hR9
  have f151 : Cond.fieldLink RX8 151 "MirrorBenchModel" "many" "I" ∈ wsX8_roots := by decide +kernel
  have f157 : Cond.fieldLink RX8 157 "MirrorBenchModel" "heights" "[I" ∈ wsX8_roots := by decide +kernel
  have l177 : Cond.constantLong RX8 177 (Int64.ofInt (40)) ∈ wsX8_roots := by decide +kernel
  have w8 : ∀ w ∈ wsX80, w ∈ wsX8_roots := by decide +kernel
  show Wk E g 4 S 0 [(0, vr g 30 0), (1, vi a)] []
  have hfS : Fr tR S S := Fr.rfl _ S
  have hRS := hRS.fr hfS
  have hnS := hRS.n
  have enS : S 30 0 0 = S 30 0 0 := hfS 30 0 0 (by unfold tR; omega)
  refine kw_iload_n hC dX8_roots_0 rfl 1 rfl ?_
  refine kw_i2l hC dX8_roots_1 rfl (by omega) ?_
  refine kw_lconst (z := 1) hC dX8_roots_2 rfl rfl ?_
  refine kw_ldc2 (z := 40) hC dX8_roots_3 rfl l177 ?_
  refine kw_callS hC (d_X8_in hD (by omega) (by omega) (by omega)) gX8_roots_X8_in rfl ⟨rfl, rfl⟩ 3 (by decide +kernel) ⟨by decide, by decide⟩ rfl rfl (Nat.le_of_ble_eq_true rfl) dX8_roots_6 rfl (kd_ie ?_)
  refine kw_ifne_b (tgt := 14) hC dX8_roots_9 rfl (by decide) ⟨fun c9 => ?_, fun c9 => ?_⟩
  · refine kw_aload_n hC dX8_roots_14 rfl 0 rfl ?_
    refine kw_iload_n hC dX8_roots_15 rfl 1 rfl ?_
    refine kw_callV hC (d_X8_findRoots hD (by omega) (by omega) hRS) gX8_roots_X8_findRoots ⟨_, rfl⟩ rfl (by decide) (by decide) rfl ⟨rfl, rfl⟩ 1 (by decide +kernel) ⟨by decide, by decide⟩ rfl rfl (Nat.le_of_ble_eq_true rfl) dX8_roots_16 rfl (kd_i (fun r2 S2 hp2 => ?_))
    obtain ⟨hg2, hp2⟩ := hp2
    have hfS2 : Fr tR S S2 := hfS.trans (hg2.mono (fun k i j h => by unfold fR at h; unfold tR; omega))
    have hRS2 := hRS.fr hfS2
    have hnS2 := hRS2.n
    have enS2 : S2 30 0 0 = S 30 0 0 := hfS2 30 0 0 (by unfold tR; omega)
    obtain ⟨hb2, hm2, hw2⟩ := hp2
    refine kw_if_ne (tgt := 25) hC dX8_roots_19 rfl (by decide) (by omega) ⟨fun c19 => ?_, fun c19 => ?_⟩
    · refine kw_iconst hC dX8_roots_25 rfl ?_
      refine kw_istore_n (lv' := [(2, _), (0, _), (1, _)]) hC dX8_roots_26 rfl (by decide) rfl ?_
      refine kw_iconst hC dX8_roots_27 rfl ?_
      refine kw_istore_n (lv' := [(3, _), (2, _), (0, _), (1, _)]) hC dX8_roots_28 rfl (by decide) rfl ?_
      have hL29 : ∀ (n29 : Nat) (x : Int) (z : Int), (0 ≤ x) → (x ≤ 400) → 400 - x < (n29 : Int) → Wk E g 4 S2 29 [(0, vr g 30 0), (1, vi a), (2, vi z), (3, vi x)] [] := by
        intro n29
        induction n29 with
        | zero => intro x z x0 x1 hm29; exact absurd hm29 (by omega)
        | succ n29 ih29 =>
          intro x z x0 x1 hm29
          refine kw_iload_n hC dX8_roots_29 rfl 3 rfl ?_
          refine kw_aload_n hC dX8_roots_30 rfl 0 rfl ?_
          refine kg_30_20 hC w8 f151 dX8_roots_31 rfl (by decide) (by decide) ?_
          refine kw_icmp_ge (tgt := 61) hC dX8_roots_34 rfl (by decide) (by omega) (by omega) ⟨fun c34 => ?_, fun c34 => ?_⟩
          · refine kw_iload_n hC dX8_roots_61 rfl 2 rfl ?_
            exact hR9.1 rfl _ _ _ _ dX8_roots_62 ⟨_, rfl, hRS2, tR_tW hfS2, rSl_tR hfS2⟩
          · refine kw_iload_n hC dX8_roots_37 rfl 2 rfl ?_
            refine kw_aload_n hC dX8_roots_38 rfl 0 rfl ?_
            refine kg_30_19 hC w8 f157 dX8_roots_39 rfl (by decide) (by decide) ?_
            refine kw_iload_n hC dX8_roots_42 rfl 3 rfl ?_
            refine ka_59 hC dX8_roots_43 rfl (by decide) (by decide) (by omega) (by omega) ?_
            refine kw_nri ?_
            refine kw_iload_n hC dX8_roots_44 rfl 1 rfl ?_
            refine kw_icmp_ne (tgt := 52) hC dX8_roots_45 rfl (by decide) (ni_r _) (by omega) ⟨fun c45 => ?_, fun c45 => ?_⟩
            · refine kw_iconst hC dX8_roots_52 rfl ?_
              refine kw_iadd hC dX8_roots_53 rfl ?_
              refine kw_istore_n (lv' := [(2, _), (0, _), (1, _), (3, _)]) hC dX8_roots_54 rfl (by decide) rfl ?_
              refine kw_iinc (lv' := [(3, _), (2, _), (0, _), (1, _)]) hC dX8_roots_55 rfl 3 rfl (by decide) rfl ?_
              refine kw_goto (tgt := 29) hC dX8_roots_58 rfl (by decide) ?_
              refine kw_lv [2, 3, 1, 0] rfl ?_
              exact ih29 (x + 1) _ (by omega) (by omega) (by omega)
            · refine kw_iconst hC dX8_roots_48 rfl ?_
              refine kw_goto (tgt := 53) hC dX8_roots_49 rfl (by decide) ?_
              refine kw_iadd hC dX8_roots_53 rfl ?_
              refine kw_istore_n (lv' := [(2, _), (0, _), (1, _), (3, _)]) hC dX8_roots_54 rfl (by decide) rfl ?_
              refine kw_iinc (lv' := [(3, _), (2, _), (0, _), (1, _)]) hC dX8_roots_55 rfl 3 rfl (by decide) rfl ?_
              refine kw_goto (tgt := 29) hC dX8_roots_58 rfl (by decide) ?_
              refine kw_lv [2, 3, 1, 0] rfl ?_
              exact ih29 (x + 1) _ (by omega) (by omega) (by omega)
      refine kw_lv [2, 3, 1, 0] rfl ?_
      exact hL29 401 0 _ (by omega) (by omega) (by omega)
    · refine kw_bipush hC dX8_roots_22 rfl (by decide) ?_
      exact hR9.1 rfl _ _ _ _ dX8_roots_24 ⟨_, rfl, hRS2, tR_tW hfS2, rSl_tR hfS2⟩
  · refine kw_iconst hC dX8_roots_12 rfl ?_
    exact hR9.1 rfl _ _ _ _ dX8_roots_13 ⟨_, rfl, hRS, tR_tW hfS, rSl_tR hfS⟩

set_option maxHeartbeats 4000000 in
set_option maxRecDepth 100000 in
theorem f_X8_root {g : wG} (hD : wD g) {S : wSt} {a b : Int} (ha : -2147483648 ≤ a ∧ a ≤ 2147483647) (hb : -2147483648 ≤ b ∧ b ≤ 2147483647) (hRS : RI S) (l : Launch) : Kt l yX8_root wsX8_root ({ frames := 3, cells := 0, slots := 0, locals := 75 } : Room) g S [vr g 30 0, vi a, vi b] (pI (fun _ S' => RI S' ∧ Fr tW S S' ∧ rSl S' = rSl S)) := by
  refine Kt.of (cc := cX8_root) (nL := 4) (ret := (some .int)) (own := RX8) rfl hD (by decide) rfl (Nat.le_of_ble_eq_true rfl) ⟨rfl, rfl⟩ ?_
  intro E hC hR9
  have f154 : Cond.fieldLink RX8 154 "MirrorBenchModel" "found" "[J" ∈ wsX8_root := by decide +kernel
  have f160 : Cond.fieldLink RX8 160 "MirrorBenchModel" "whole" "I" ∈ wsX8_root := by decide +kernel
  have w8 : ∀ w ∈ wsX80, w ∈ wsX8_root := by decide +kernel
  show Wk E g 4 S 0 [(0, vr g 30 0), (1, vi a), (2, vi b)] []
  have hfS : Fr tR S S := Fr.rfl _ S
  have hRS := hRS.fr hfS
  have hnS := hRS.n
  have enS : S 30 0 0 = S 30 0 0 := hfS 30 0 0 (by unfold tR; omega)
  refine kw_aload_n hC dX8_root_0 rfl 0 rfl ?_
  refine kw_iload_n hC dX8_root_1 rfl 2 rfl ?_
  refine kw_i2l hC dX8_root_2 rfl (by omega) ?_
  refine kw_callV hC (d_X8_isMirror hD (by omega) (by omega) (by omega)) gX8_root_X8_isMirror ⟨_, rfl⟩ rfl (by decide) (by decide) rfl ⟨rfl, rfl⟩ 1 (by decide +kernel) ⟨by decide, by decide⟩ rfl rfl (Nat.le_of_ble_eq_true rfl) dX8_root_3 rfl (kd_ie ?_)
  refine kw_ifeq_b (tgt := 13) hC dX8_root_6 rfl (by decide) ⟨fun c6 => ?_, fun c6 => ?_⟩
  · refine kw_iconst hC dX8_root_13 rfl ?_
    exact hR9.1 rfl _ _ _ _ dX8_root_14 ⟨_, rfl, hRS, tR_tW hfS, rSl_tR hfS⟩
  · refine kw_iload_n hC dX8_root_9 rfl 1 rfl ?_
    refine kw_if_ge (tgt := 15) hC dX8_root_10 rfl (by decide) (by omega) ⟨fun c10 => ?_, fun c10 => ?_⟩
    · refine kw_aload_n hC dX8_root_15 rfl 0 rfl ?_
      refine kw_bipush hC dX8_root_16 rfl (by decide) ?_
      refine kw_callV hC (d_X8_findRoots hD (by omega) (by omega) hRS) gX8_root_X8_findRoots ⟨_, rfl⟩ rfl (by decide) (by decide) rfl ⟨rfl, rfl⟩ 1 (by decide +kernel) ⟨by decide, by decide⟩ rfl rfl (Nat.le_of_ble_eq_true rfl) dX8_root_18 rfl (kd_i (fun r3 S3 hp3 => ?_))
      obtain ⟨hg3, hp3⟩ := hp3
      have hfS3 : Fr tR S S3 := hfS.trans (hg3.mono (fun k i j h => by unfold fR at h; unfold tR; omega))
      have hRS3 := hRS.fr hfS3
      have hnS3 := hRS3.n
      have enS3 : S3 30 0 0 = S 30 0 0 := hfS3 30 0 0 (by unfold tR; omega)
      obtain ⟨hb3, hm3, hw3⟩ := hp3
      refine kw_istore_n (lv' := [(3, _), (0, _), (1, _), (2, _)]) hC dX8_root_21 rfl (by decide) rfl ?_
      refine kw_iload_n hC dX8_root_22 rfl 2 rfl ?_
      refine kw_aload_n hC dX8_root_23 rfl 1 rfl ?_
      refine kg_30_21 hC w8 f160 dX8_root_24 rfl (by decide) (by decide) ?_
      refine kw_icmp_ge (tgt := 45) hC dX8_root_27 rfl (by decide) (by omega) (by omega) ⟨fun c27 => ?_, fun c27 => ?_⟩
      · refine kw_iconst hC dX8_root_45 rfl ?_
        exact hR9.1 rfl _ _ _ _ dX8_root_46 ⟨_, rfl, hRS3, tR_tW hfS3, rSl_tR hfS3⟩
      · refine kw_aload_n hC dX8_root_30 rfl 1 rfl ?_
        refine kg_30_18 hC w8 f154 dX8_root_31 rfl (by decide) (by decide) ?_
        refine kw_bipush hC dX8_root_34 rfl (by decide) ?_
        refine kw_iload_n hC dX8_root_36 rfl 2 rfl ?_
        refine kw_imul hC dX8_root_37 rfl ?_
        refine kw_iload_n hC dX8_root_38 rfl 3 rfl ?_
        refine kw_iadd hC dX8_root_39 rfl ?_
        refine ka_58 hC dX8_root_40 rfl (by decide) (by decide) (by omega) (by omega) ?_
        refine kw_l2i hC dX8_root_41 rfl ?_
        refine kw_goto (tgt := 46) hC dX8_root_42 rfl (by decide) ?_
        exact hR9.1 rfl _ _ _ _ dX8_root_46 ⟨_, rfl, hRS3, tR_tW hfS3, rSl_tR hfS3⟩
    · refine kw_iconst hC dX8_root_13 rfl ?_
      exact hR9.1 rfl _ _ _ _ dX8_root_14 ⟨_, rfl, hRS, tR_tW hfS, rSl_tR hfS⟩

set_option maxHeartbeats 4000000 in
set_option maxRecDepth 100000 in
theorem f_X8_count {g : wG} (hD : wD g) {S : wSt} (hRS : RI S) (l : Launch) : Kt l yX8_count wsX8_count ({ frames := 4, cells := 0, slots := 0, locals := 93 } : Room) g S [vr g 30 0] (pL (fun _ S' => RI S' ∧ Fr tW S S' ∧ rSl S' = rSl S)) := by
  refine Kt.of (cc := cX8_count) (nL := 4) (ret := (some .long)) (own := RX8) rfl hD (by decide) rfl (Nat.le_of_ble_eq_true rfl) ⟨rfl, rfl⟩ ?_
  intro E hC hR9
  have f11 : Cond.fieldLink RX8 11 "MirrorBenchModel" "mirrors" "I" ∈ wsX8_count := by decide +kernel
  have l201 : Cond.constantLong RX8 201 (Int64.ofInt (-2)) ∈ wsX8_count := by decide +kernel
  have w8 : ∀ w ∈ wsX80, w ∈ wsX8_count := by decide +kernel
  show Wk E g 4 S 0 [(0, vr g 30 0)] []
  have hfS : Fr tR S S := Fr.rfl _ S
  have hRS := hRS.fr hfS
  have hnS := hRS.n
  have enS : S 30 0 0 = S 30 0 0 := hfS 30 0 0 (by unfold tR; omega)
  refine kw_aload_n hC dX8_count_0 rfl 0 rfl ?_
  refine kw_callV hC (d_X8_ends hD hRS) gX8_count_X8_ends ⟨_, rfl⟩ rfl (by decide) (by decide) rfl ⟨rfl, rfl⟩ 0 (by decide +kernel) ⟨by decide, by decide⟩ rfl rfl (Nat.le_of_ble_eq_true rfl) dX8_count_1 rfl (kd_i (fun r1 S1 hp1 => ?_))
  obtain ⟨hg1, hp1⟩ := hp1
  have hfS1 : Fr tR S S1 := hfS.trans (hg1.mono (fun k i j h => by unfold fR at h; unfold tR; omega))
  have hRS1 := hRS.fr hfS1
  have hnS1 := hRS1.n
  have enS1 : S1 30 0 0 = S 30 0 0 := hfS1 30 0 0 (by unfold tR; omega)
  obtain ⟨hb1, hle1, hNB⟩ := hp1
  refine kw_if_ge (tgt := 11) hC dX8_count_4 rfl (by decide) (by omega) ⟨fun c4 => ?_, fun c4 => ?_⟩
  · refine kw_lconst (z := 1) hC dX8_count_11 rfl rfl ?_
    refine kw_lstore_n (lv' := [(1, _), (0, _)]) hC dX8_count_12 rfl (by decide) rfl ?_
    refine kw_iconst hC dX8_count_13 rfl ?_
    refine kw_istore_n (lv' := [(3, _), (1, _), (0, _)]) hC dX8_count_14 rfl (by decide) rfl ?_
    have hL15 : ∀ (n15 : Nat) (i : Int) (z : Int) (W15 : wSt), Fr tR S W15 → (0 ≤ i) → (i ≤ S 30 0 0) → S 30 0 0 - i < (n15 : Int) → Wk E g 4 W15 15 [(0, vr g 30 0), (1, vl z), (3, vi i)] [] := by
      intro n15
      induction n15 with
      | zero => intro i z W15 hfW15 i0 i1 hm15; exact absurd hm15 (by omega)
      | succ n15 ih15 =>
        intro i z W15 hfW15 i0 i1 hm15
        have hRW15 := hRS.fr hfW15
        have hnW15 := hRW15.n
        have enW15 : W15 30 0 0 = S 30 0 0 := hfW15 30 0 0 (by unfold tR; omega)
        refine kw_iload_n hC dX8_count_15 rfl 2 rfl ?_
        refine kw_aload_n hC dX8_count_16 rfl 0 rfl ?_
        refine kg_30_0 hC w8 f11 dX8_count_17 rfl (by decide) (by decide) ?_
        refine kw_icmp_ge (tgt := 38) hC dX8_count_20 rfl (by decide) (by omega) (by omega) ⟨fun c20 => ?_, fun c20 => ?_⟩
        · refine kw_lload_n hC dX8_count_38 rfl 1 rfl ?_
          exact hR9.2.2.1 rfl _ _ _ _ dX8_count_39 ⟨_, rfl, hRW15, tR_tW hfW15, rSl_tR hfW15⟩
        · refine kw_lload_n hC dX8_count_23 rfl 1 rfl ?_
          refine kw_aload_n hC dX8_count_24 rfl 0 rfl ?_
          refine kw_iload_n hC dX8_count_25 rfl 2 rfl ?_
          refine kw_callV hC (d_X8_orbit hD (by omega) (by omega) hRW15 (NoB_eq (hNB (by omega)) (fun j => hfW15 42 0 j (by unfold tR; omega)) (hfW15 30 0 0 (by unfold tR; omega)))) gX8_count_X8_orbit ⟨_, rfl⟩ rfl (by decide) (by decide) rfl ⟨rfl, rfl⟩ 1 (by decide +kernel) ⟨by decide, by decide⟩ rfl rfl (Nat.le_of_ble_eq_true rfl) dX8_count_26 rfl (kd_i (fun r4 S4 hp4 => ?_))
          obtain ⟨hg4, hp4⟩ := hp4
          have hfS4 : Fr tR S S4 := hfW15.trans (hg4.mono (fun k i j h => by unfold fD at h; unfold tR; omega))
          have hRS4 := hRS.fr hfS4
          have hnS4 := hRS4.n
          have enS4 : S4 30 0 0 = S 30 0 0 := hfS4 30 0 0 (by unfold tR; omega)
          have hr4 := hp4
          refine kw_i2l hC dX8_count_29 rfl (by omega) ?_
          refine kw_lmul hC dX8_count_30 rfl ?_
          refine kw_lstore_n (lv' := [(1, _), (0, _), (3, _)]) hC dX8_count_31 rfl (by decide) rfl ?_
          refine kw_iinc (lv' := [(3, _), (1, _), (0, _)]) hC dX8_count_32 rfl 2 rfl (by decide) rfl ?_
          refine kw_goto (tgt := 15) hC dX8_count_35 rfl (by decide) ?_
          refine kw_lv [2, 1, 0] rfl ?_
          exact ih15 (i + 1) _ S4 hfS4 (by omega) (by omega) (by omega)
    refine kw_lv [2, 1, 0] rfl ?_
    exact hL15 7 0 _ S1 hfS1 (by omega) (by omega) (by omega)
  · refine kw_ldc2 (z := -2) hC dX8_count_7 rfl l201 ?_
    exact hR9.2.2.1 rfl _ _ _ _ dX8_count_10 ⟨_, rfl, hRS1, tR_tW hfS1, rSl_tR hfS1⟩
end
section
/-! forms: all of a length, from those one shorter -/
def mB (M : Nat → Nat → Int) : Prop := (∀ i, M i i = 0) ∧ ∀ i j, 0 ≤ M i j ∧ M i j ≤ 4
def isFb (M : Nat → Nat → Int) (n : Nat) (w : List Nat) : Bool := match shoP M n [] w with
  | none => false
  | some R => decide (R.length = w.length) && decide (foP M n R = some w)
theorem shoP_full {M : Nat → Nat → Int} {n : Nat} : ∀ (W R0 R : List Nat), (shoP M n R0 W = some R ∧ R.length = R0.length + W.length) ↔ (R = R0 ++ W ∧ ∀ i, i < W.length → bh M n (R0 ++ W.take i) (W.getD i 0) = -1)
  | [], R0, R => by
    rw [shoP]
    constructor
    · rintro ⟨h, -⟩
      cases h
      exact ⟨by simp, fun i hi => by simp at hi⟩
    · rintro ⟨h, -⟩
      rw [h]
      exact ⟨by simp, by simp⟩
  | c :: t, R0, R => by
    have ih1 := shoP_full (M := M) (n := n) t (R0 ++ [c]) R
    have e1 : ((R0 ++ [c]).length + t.length) = R0.length + (c :: t).length := by simp only [List.length_append, List.length_cons, List.length_nil]; omega
    have e2 : R0 ++ [c] ++ t = R0 ++ c :: t := by simp
    rw [e1, e2] at ih1
    have hst : (∀ i, i < (c :: t).length → bh M n (R0 ++ (c :: t).take i) ((c :: t).getD i 0) = -1) ↔ (bh M n R0 c = -1 ∧ ∀ i, i < t.length → bh M n (R0 ++ [c] ++ t.take i) (t.getD i 0) = -1) := by
      constructor
      · intro h
        refine ⟨?_, fun i hi => ?_⟩
        · have := h 0 (by simp)
          simpa using this
        · have := h (i + 1) (by simp only [List.length_cons]; omega)
          simpa using this
      · rintro ⟨h1, h2⟩ i hi
        cases i with
        | zero => simpa using h1
        | succ i =>
          have := h2 i (by simp only [List.length_cons] at hi; omega)
          simpa using this
    rw [hst, shoP]
    have hr := bh_r M n R0 c
    by_cases e4 : bh M n R0 c = -4
    · rw [if_pos e4]
      constructor
      · rintro ⟨h, -⟩; cases h
      · rintro ⟨-, h, -⟩; omega
    · rw [if_neg e4]
      by_cases em : bh M n R0 c = -1
      · rw [if_pos em, ih1]
        exact ⟨fun h => ⟨h.1, em, h.2⟩, fun h => ⟨h.1, h.2.2⟩⟩
      · rw [if_neg em]
        constructor
        · rintro ⟨h, hl⟩
          exfalso
          have hlen : ∀ (W Q Q' : List Nat), shoP M n Q W = some Q' → Q'.length ≤ Q.length + W.length := by
            intro W
            induction W with
            | nil => intro Q Q' h; rw [shoP] at h; cases h; simp
            | cons d u ih =>
              intro Q Q' h
              rw [shoP] at h
              split at h
              · cases h
              · split at h
                · have := ih _ _ h
                  simp only [List.length_append, List.length_cons, List.length_nil] at this ⊢
                  omega
                · have := ih _ _ h
                  have h2 := List.length_eraseIdx_le (l := Q) (i := (bh M n Q d).toNat)
                  simp only [List.length_cons]
                  omega
          have h2 := hlen _ _ _ h
          rw [List.length_eraseIdx_of_lt (by omega)] at h2
          simp only [List.length_cons] at hl
          omega
        · rintro ⟨-, h, -⟩; exact absurd h em
theorem fmS_pre {M : Nat → Nat → Int} {n : Nat} : ∀ (k : Nat) (R F G : List Nat), R.length = k → (∀ i, i ∈ R → i < n) → fmS M n R F = some G → ∃ H, G = F ++ H
  | 0, R, F, G, hk, _, h => by
    rw [fmS_nil M n hk] at h
    cases h
    exact ⟨[], by simp⟩
  | k + 1, R, F, G, hk, hR, h => by
    by_cases h4 : (ldn M n aJ R n).2 = -4
    · rw [fmS_great (by omega) h4] at h
      cases h
    · have h1 : (ldn M n aJ R n).2 ≠ -1 := by
        cases R with
        | nil => simp at hk
        | cons c t => exact ldn_hd (hR c List.mem_cons_self)
      have hp := ldn_pl h1 h4
      rw [← fmS_go hp.2.1] at h
      obtain ⟨H, hH⟩ := fmS_pre k _ _ _ (by rw [List.length_eraseIdx_of_lt (by omega)]; omega) (fun i hi => hR i (List.mem_of_mem_eraseIdx hi)) h
      exact ⟨(ldn M n aJ R n).1 :: H, by rw [hH]; simp⟩
theorem fmS_self {M : Nat → Nat → Int} {n : Nat} : ∀ (R F : List Nat), (∀ i, i ∈ R → i < n) → (fmS M n R F = some (F ++ R) ↔ ∀ i, i < R.length → ∀ t, t < R.getD i 0 → ah M n (R.drop i) t = -1)
  | [], F, _ => by
    rw [fmS_nil M n rfl]
    exact ⟨fun _ i hi => by simp at hi, fun _ => by simp⟩
  | c :: t, F, hR => by
    have hc := hR c List.mem_cons_self
    have ih := fmS_self (M := M) (n := n) t (F ++ [c]) (fun i hi => hR i (List.mem_cons_of_mem _ hi))
    rw [show F ++ [c] ++ t = F ++ c :: t by simp] at ih
    have h1 := ldn_hd (M := M) (n := n) (c := c) (t := t) hc
    have key : (∀ u, u < c → ah M n (c :: t) u = -1) → fmS M n (c :: t) F = fmS M n t (F ++ [c]) := by
      intro hl
      have hD := ldn_r M n aJ (c :: t) n (Nat.le_refl _)
      have hle := ldn_le M n aJ (c :: t) n (Nat.le_refl _) c (by omega) hc rfl (by rw [ah_hd]; decide)
      rcases hD with q | q
      · exact absurd q.1 h1
      · have e1 : (ldn M n aJ (c :: t) n).1 = c := by
          by_cases e : (ldn M n aJ (c :: t) n).1 < c
          · exact absurd (q.1.trans (hl _ e)) q.2.1
          · omega
        have e2 : (ldn M n aJ (c :: t) n).2 = 0 := by rw [q.1, e1, ah_hd]
        rw [← fmS_go (by omega), e1, e2]
        rfl
    constructor
    · intro h
      have h4 : (ldn M n aJ (c :: t) n).2 ≠ -4 := fun e => by
        rw [fmS_great (by simp) e] at h
        cases h
      have hp := ldn_pl h1 h4
      have hD : (ldn M n aJ (c :: t) n).1 = c := by
        have h9 := h
        rw [← fmS_go hp.2.1] at h9
        obtain ⟨H, hH⟩ := fmS_pre _ _ _ _ rfl (fun i hi => hR i (List.mem_of_mem_eraseIdx hi)) h9
        rw [List.append_assoc] at hH
        have := List.append_cancel_left hH
        simp only [List.cons_append, List.nil_append] at this
        injection this with a b
        exact a.symm
      have hl : ∀ u, u < c → ah M n (c :: t) u = -1 := fun u hu => Decidable.byContradiction (fun e => by
        have := (ldn_le M n aJ (c :: t) n (Nat.le_refl _) u (by omega) (by omega) rfl e).2
        omega)
      rw [key hl] at h
      have h8 := ih.mp h
      intro i hi u hu
      cases i with
      | zero => exact hl u (by simpa using hu)
      | succ i => exact h8 i (by simp only [List.length_cons] at hi; omega) u (by simpa using hu)
    · intro h
      rw [key (fun u hu => by have := h 0 (by simp) u (by simpa using hu); simpa using this)]
      exact ih.mpr (fun i hi u hu => by
        have := h (i + 1) (by simp only [List.length_cons]; omega) u (by simpa using hu)
        simpa using this)
/-- no letter of w goes, and no lesser one goes ahead of an end of it -/
def isFp (M : Nat → Nat → Int) (n : Nat) (w : List Nat) : Prop := (∀ i, i < w.length → bh M n (w.take i) (w.getD i 0) = -1) ∧ ∀ i, i < w.length → ∀ t, t < w.getD i 0 → ah M n (w.drop i) t = -1
theorem isFb_p {M : Nat → Nat → Int} {n : Nat} {w : List Nat} (hw : ∀ i, i ∈ w → i < n) : isFb M n w = true ↔ isFp M n w := by
  have h1 := shoP_full (M := M) (n := n) w []
  have h2 := fmS_self (M := M) (n := n) w [] hw
  simp only [List.nil_append] at h1 h2
  unfold isFb isFp
  constructor
  · intro h
    split at h
    · cases h
    · rename_i R hR
      have h3 := Bool.and_eq_true_iff.mp h
      have h4 := of_decide_eq_true h3.1
      have h5 := of_decide_eq_true h3.2
      obtain ⟨h6, h7⟩ := (h1 R).mp ⟨hR, by simpa using h4⟩
      subst h6
      exact ⟨h7, h2.mp h5⟩
  · rintro ⟨h3, h4⟩
    obtain ⟨h5, h6⟩ := (h1 w).mpr ⟨rfl, h3⟩
    rw [h5]
    show (decide (w.length = w.length) && decide (foP M n w = some w)) = true
    rw [Bool.and_eq_true_iff]
    exact ⟨decide_eq_true rfl, decide_eq_true (h2.mpr h4)⟩
/-! no turn is great in twelve -/
def nrm (n : Nat) (v : Nat → Int) : Int := sm n (fun j => (v j).natAbs)
theorem nrm_rfx {M : Nat → Nat → Int} (hM : mB M) {n : Nat} {v : Nat → Int} {c : Nat} (hc : c < n) : nrm n (rfx M n v c) ≤ 5 * nrm n v ∧ ((rfx M n v c c).natAbs : Int) ≤ 5 * nrm n v := by
  have hs : ((sm n (fun j => M c j * v j)).natAbs : Int) ≤ 4 * nrm n v := by
    unfold nrm
    rw [← sm_mul]
    have h1 : ∀ k, ((sm k (fun j => M c j * v j)).natAbs : Int) ≤ sm k (fun i => 4 * ((v i).natAbs : Int)) := by
      intro k
      induction k with
      | zero => simp [sm]
      | succ k ih =>
        rw [sm, sm]
        have hm := hM.2 c k
        have h2 : ((M c k * v k).natAbs : Int) ≤ 4 * ((v k).natAbs : Int) := by
          rw [Int.natAbs_mul, Int.natCast_mul]
          exact Int.mul_le_mul_of_nonneg_right (by omega) (by omega)
        have h3 := Int.natAbs_add_le (sm k (fun j => M c j * v j)) (M c k * v k)
        omega
    exact h1 n
  have hcn : ((v c).natAbs : Int) ≤ nrm n v := sm_ge (f := fun j => ((v j).natAbs : Int)) (fun i _ => by omega) hc
  have hv : rfx M n v c c = -(v c) + sm n (fun j => M c j * v j) := by
    unfold rfx prg
    rw [if_pos rfl]
    omega
  have hb : ((rfx M n v c c).natAbs : Int) ≤ (v c).natAbs + 4 * nrm n v := by
    rw [hv]
    have h3 := Int.natAbs_add_le (-(v c)) (sm n (fun j => M c j * v j))
    omega
  refine ⟨?_, by omega⟩
  have hsplit : nrm n (rfx M n v c) = nrm n v + (((rfx M n v c c).natAbs : Int) - (v c).natAbs) := by
    have h1 : ∀ k, sm k (fun j => ((rfx M n v c j).natAbs : Int)) = sm k (fun j => ((v j).natAbs : Int)) + (if c < k then (((rfx M n v c c).natAbs : Int) - (v c).natAbs) else 0) := by
      intro k
      induction k with
      | zero => simp [sm]
      | succ k ih =>
        rw [sm, sm, ih]
        by_cases e : k = c
        · subst e
          rw [if_neg (by omega), if_pos (by omega)]
          omega
        · have : rfx M n v c k = v k := by unfold rfx; rw [if_neg e]
          rw [this]
          by_cases e2 : c < k
          · rw [if_pos e2, if_pos (by omega)]; omega
          · rw [if_neg e2, if_neg (by omega)]; omega
    have := h1 n
    rw [if_pos hc] at this
    exact this
  omega
theorem nrm_own (n s : Nat) : nrm n (ownV s) ≤ 1 := by
  unfold nrm
  have h1 : ∀ k, sm k (fun j => ((ownV s j).natAbs : Int)) = if s < k then 1 else 0 := by
    intro k
    induction k with
    | zero => simp [sm]
    | succ k ih =>
      rw [sm, ih]
      unfold ownV
      by_cases e : k = s
      · subst e
        rw [if_neg (by omega), if_pos rfl, if_pos (by omega)]
        rfl
      · rw [if_neg e]
        by_cases e2 : s < k
        · rw [if_pos e2, if_pos (by omega)]; rfl
        · rw [if_neg e2, if_neg (by omega)]; rfl
  rw [h1]
  split <;> omega
theorem bhd_ng {M : Nat → Nat → Int} (hM : mB M) {n : Nat} {R : List Nat} (hR : ∀ i, i ∈ R → i < n) : ∀ (x : Nat) (v : Nat → Int), x ≤ R.length → nrm n v * 5 ^ x ≤ 1000000000000 → bhd M n R x v ≠ -4
  | 0, v, _, _ => by rw [bhd]; decide
  | x + 1, v, hx, hb => by
    have hl : R.getD x 0 < n := hR _ (by rw [List.getD_eq_getElem?_getD, List.getElem?_eq_getElem (by omega)]; exact List.getElem_mem _)
    obtain ⟨h1, h2⟩ := nrm_rfx hM (v := v) hl
    have h0 : 0 ≤ nrm n v := sm_nonneg (fun i _ => by omega)
    have h5 : 0 < (5 : Int) ^ x := Int.pow_pos (by decide)
    have hb2 : 5 * nrm n v * 5 ^ x ≤ 1000000000000 := by
      have : nrm n v * 5 ^ (x + 1) = 5 * nrm n v * 5 ^ x := by rw [Int.pow_succ]; rw [Int.mul_comm (5 ^ x) 5, ← Int.mul_assoc, Int.mul_comm (nrm n v) 5]
      omega
    have hb3 : 5 * nrm n v ≤ 1000000000000 := by
      have : 5 * nrm n v * 1 ≤ 5 * nrm n v * 5 ^ x := Int.mul_le_mul_of_nonneg_left (by omega) (by omega)
      omega
    rw [bhd]
    split
    · omega
    · rw [if_neg (by omega)]
      refine bhd_ng hM hR x _ (by omega) ?_
      exact Int.le_trans (Int.mul_le_mul_of_nonneg_right h1 (by omega)) hb2
theorem ahd_ng {M : Nat → Nat → Int} (hM : mB M) {n : Nat} : ∀ (R : List Nat) (k : Nat) (v : Nat → Int), (∀ i, i ∈ R → i < n) → nrm n v * 5 ^ R.length ≤ 1000000000000 → ahd M n R k v ≠ -4
  | [], k, v, _, _ => by rw [ahd]; decide
  | c :: t, k, v, hR, hb => by
    have hl : c < n := hR c List.mem_cons_self
    obtain ⟨h1, h2⟩ := nrm_rfx hM (v := v) hl
    have h0 : 0 ≤ nrm n v := sm_nonneg (fun i _ => by omega)
    have h5 : 0 < (5 : Int) ^ t.length := Int.pow_pos (by decide)
    have hb2 : 5 * nrm n v * 5 ^ t.length ≤ 1000000000000 := by
      have : nrm n v * 5 ^ (c :: t).length = 5 * nrm n v * 5 ^ t.length := by rw [List.length_cons, Int.pow_succ]; rw [Int.mul_comm (5 ^ t.length) 5, ← Int.mul_assoc, Int.mul_comm (nrm n v) 5]
      omega
    have hb3 : 5 * nrm n v ≤ 1000000000000 := by
      have : 5 * nrm n v * 1 ≤ 5 * nrm n v * 5 ^ t.length := Int.mul_le_mul_of_nonneg_left (by omega) (by omega)
      omega
    rw [ahd]
    split
    · omega
    · rw [if_neg (by omega)]
      exact ahd_ng hM t _ _ (fun i hi => hR i (List.mem_cons_of_mem _ hi)) (Int.le_trans (Int.mul_le_mul_of_nonneg_right h1 (by omega)) hb2)
/-! the class's way to the forms -/
def gon (M : Nat → Nat → Int) (n : Nat) (l : List Nat) : Nat → (Nat → Int) → Bool
  | 0, _ => true
  | x + 1, v => if isO n v (l.getD x 0) then false else if (∃ t, t < l.getD x 0 ∧ isO n (rfx M n v (l.getD x 0)) t) then false else gon M n l x (rfx M n v (l.getD x 0))
def zb (n : Nat) (v : Nat → Int) : Prop := ∀ j, n ≤ j → v j = 0
theorem zb_own {n s : Nat} (hs : s < n) : zb n (ownV s) := fun j hj => by unfold ownV; rw [if_neg (by omega)]
theorem zb_rfx {M : Nat → Nat → Int} {n : Nat} {v : Nat → Int} {c : Nat} (h : zb n v) (hc : c < n) : zb n (rfx M n v c) := fun j hj => by unfold rfx; rw [if_neg (by omega)]; exact h j hj
theorem isO_eq {n : Nat} {v : Nat → Int} {c : Nat} (h : zb n v) (hc : c < n) : isO n v c ↔ v = ownV c := by
  constructor
  · intro q
    funext j
    by_cases e : j < n
    · exact q j e
    · rw [h j (by omega), zb_own hc j (by omega)]
  · intro q j _
    rw [q]
theorem act_zb {M : Nat → Nat → Int} {n : Nat} {v : Nat → Int} : ∀ {w : List Nat}, (∀ i, i ∈ w → i < n) → zb n v → zb n (act M n w v)
  | [], _, h => h
  | c :: t, hw, h => zb_rfx (act_zb (fun i hi => hw i (List.mem_cons_of_mem _ hi)) h) (hw c List.mem_cons_self)
theorem drop_c {l : List Nat} {x : Nat} (h : x < l.length) : l.drop x = l.getD x 0 :: l.drop (x + 1) := by
  rw [List.getD_eq_getElem?_getD, List.getElem?_eq_getElem h]
  exact List.drop_eq_getElem_cons h
theorem getD_mem {l : List Nat} {x : Nat} (h : x < l.length) : l.getD x 0 ∈ l := by
  rw [List.getD_eq_getElem?_getD, List.getElem?_eq_getElem h]
  exact List.getElem_mem _
theorem pow5_le {a b : Nat} (h : a ≤ b) : (5 : Int) ^ a ≤ 5 ^ b := by
  have : (5 : Nat) ^ a ≤ 5 ^ b := Nat.pow_le_pow_right (by decide) h
  exact_mod_cast this
theorem nrm_act {M : Nat → Nat → Int} (hM : mB M) {n s : Nat} : ∀ {w : List Nat}, (∀ i, i ∈ w → i < n) → nrm n (act M n w (ownV s)) ≤ 5 ^ w.length
  | [], _ => nrm_own n s
  | c :: t, hw => by
    have h1 := nrm_act hM (s := s) (w := t) (fun i hi => hw i (List.mem_cons_of_mem _ hi))
    have h2 := (nrm_rfx hM (v := act M n t (ownV s)) (hw c List.mem_cons_self)).1
    show nrm n (rfx M n (act M n t (ownV s)) c) ≤ 5 ^ (t.length + 1)
    rw [Int.pow_succ]
    omega
theorem bhd_act {M : Nat → Nat → Int} (hM : mB M) {n s : Nat} {l : List Nat} (hl : ∀ i, i ∈ l → i < n) (hs : s < n) (h12 : l.length ≤ 12) : ∀ x, x ≤ l.length → (bhd M n l x (act M n (l.drop x) (ownV s)) = -1 ↔ ∀ y, y < x → act M n (l.drop (y + 1)) (ownV s) ≠ ownV (l.getD y 0))
  | 0, _ => by rw [bhd]; exact ⟨fun _ y hy => by omega, fun _ => rfl⟩
  | x + 1, hx => by
    have hd : ∀ i, i ∈ l.drop (x + 1) → i < n := fun i hi => hl i (List.mem_of_mem_drop hi)
    have hc : l.getD x 0 < n := hl _ (getD_mem (by omega))
    have hz := act_zb (M := M) (v := ownV s) hd (zb_own hs)
    have ih := bhd_act hM hl hs h12 x (by omega)
    have hng := bhd_ng hM hl (x + 1) (act M n (l.drop (x + 1)) (ownV s)) hx (by
      have h1 := nrm_act hM (s := s) hd
      rw [List.length_drop] at h1
      have h2 : (5 : Int) ^ (l.length - (x + 1)) * 5 ^ (x + 1) ≤ 5 ^ 12 := by
        rw [← Int.pow_add]
        exact pow5_le (by omega)
      have h3 : (0 : Int) ≤ 5 ^ (x + 1) := Int.le_of_lt (Int.pow_pos (by decide))
      have h4 := Int.mul_le_mul_of_nonneg_right h1 h3
      have h5 : (5 : Int) ^ 12 = 244140625 := by decide
      omega)
    rw [bhd] at hng ⊢
    by_cases e : isO n (act M n (l.drop (x + 1)) (ownV s)) (l.getD x 0)
    · rw [if_pos e]
      exact ⟨fun q => by omega, fun q => absurd ((isO_eq hz hc).mp e) (q x (by omega))⟩
    · rw [if_neg e] at hng ⊢
      by_cases e2 : grt (rfx M n (act M n (l.drop (x + 1)) (ownV s)) (l.getD x 0) (l.getD x 0))
      · rw [if_pos e2] at hng
        exact absurd rfl hng
      · rw [if_neg e2]
        have e3 : rfx M n (act M n (l.drop (x + 1)) (ownV s)) (l.getD x 0) = act M n (l.drop x) (ownV s) := by rw [drop_c (show x < l.length by omega)]; rfl
        rw [e3, ih]
        constructor
        · intro q y hy
          by_cases ey : y = x
          · subst ey
            exact fun z => e ((isO_eq hz hc).mpr z)
          · exact q y (by omega)
        · intro q y hy
          exact q y (by omega)
theorem gon_act {M : Nat → Nat → Int} {n s : Nat} {l : List Nat} (hl : ∀ i, i ∈ l → i < n) (hs : s < n) : ∀ x, x ≤ l.length → (gon M n l x (act M n (l.drop x) (ownV s)) = true ↔ ∀ y, y < x → act M n (l.drop (y + 1)) (ownV s) ≠ ownV (l.getD y 0) ∧ ∀ t, t < l.getD y 0 → act M n (l.drop y) (ownV s) ≠ ownV t)
  | 0, _ => by rw [gon]; exact ⟨fun _ y hy => by omega, fun _ => rfl⟩
  | x + 1, hx => by
    have hd : ∀ i, i ∈ l.drop (x + 1) → i < n := fun i hi => hl i (List.mem_of_mem_drop hi)
    have hd0 : ∀ i, i ∈ l.drop x → i < n := fun i hi => hl i (List.mem_of_mem_drop hi)
    have hc : l.getD x 0 < n := hl _ (getD_mem (by omega))
    have hz := act_zb (M := M) (v := ownV s) hd (zb_own hs)
    have hz0 := act_zb (M := M) (v := ownV s) hd0 (zb_own hs)
    have ih := gon_act (M := M) hl hs x (by omega)
    have e3 : rfx M n (act M n (l.drop (x + 1)) (ownV s)) (l.getD x 0) = act M n (l.drop x) (ownV s) := by rw [drop_c (show x < l.length by omega)]; rfl
    rw [gon, e3]
    by_cases e : isO n (act M n (l.drop (x + 1)) (ownV s)) (l.getD x 0)
    · rw [if_pos e]
      exact ⟨fun q => (by cases q), fun q => absurd ((isO_eq hz hc).mp e) (q x (by omega)).1⟩
    · rw [if_neg e]
      by_cases e2 : ∃ t, t < l.getD x 0 ∧ isO n (act M n (l.drop x) (ownV s)) t
      · rw [if_pos e2]
        obtain ⟨t, ht, h2⟩ := e2
        exact ⟨fun q => (by cases q), fun q => absurd ((isO_eq hz0 (by omega)).mp h2) ((q x (by omega)).2 t ht)⟩
      · rw [if_neg e2, ih]
        constructor
        · intro q y hy
          by_cases ey : y = x
          · subst ey
            exact ⟨fun z => e ((isO_eq hz hc).mpr z), fun t ht z => e2 ⟨t, ht, (isO_eq hz0 (by omega)).mpr z⟩⟩
          · exact q y (by omega)
        · intro q y hy
          exact q y (by omega)
/-- from the front -/
def wkF (M : Nat → Nat → Int) (n : Nat) : List Nat → (Nat → Int) → Nat → Int
  | [], x => x
  | c :: t, x => wkF M n t (rfx M n x c)
theorem wkF_act {M : Nat → Nat → Int} (hM : mB M) {n : Nat} : ∀ (w : List Nat) (x y : Nat → Int), wkF M n w x = y ↔ x = act M n w y
  | [], x, y => Iff.rfl
  | c :: t, x, y => by
    show wkF M n t (rfx M n x c) = y ↔ x = rfx M n (act M n t y) c
    rw [wkF_act hM t]
    constructor
    · intro h
      rw [← h, rfx_rfx (hM.1 c)]
    · intro h
      rw [h, rfx_rfx (hM.1 c)]
theorem wkF_zb {M : Nat → Nat → Int} {n : Nat} : ∀ {w : List Nat} {x : Nat → Int}, (∀ i, i ∈ w → i < n) → zb n x → zb n (wkF M n w x)
  | [], _, _, h => h
  | c :: t, x, hw, h => wkF_zb (w := t) (fun i hi => hw i (List.mem_cons_of_mem _ hi)) (zb_rfx h (hw c List.mem_cons_self))
theorem ahd_app {M : Nat → Nat → Int} {n s : Nat} : ∀ (w : List Nat) (k : Nat) (x : Nat → Int), ahd M n w k x = -1 → ahd M n (w ++ [s]) k x ≠ -4 → (ahd M n (w ++ [s]) k x = -1 ↔ ¬ isO n (wkF M n w x) s)
  | [], k, x, _, hg => by
    rw [List.nil_append, ahd] at hg ⊢
    by_cases e : isO n x s
    · rw [if_pos e]
      exact ⟨fun q => by omega, fun q => absurd e q⟩
    · rw [if_neg e] at hg ⊢
      by_cases e2 : grt (rfx M n x s s)
      · rw [if_pos e2] at hg
        exact absurd rfl hg
      · rw [if_neg e2, ahd]
        exact ⟨fun _ => e, fun _ => rfl⟩
  | c :: t, k, x, h, hg => by
    rw [ahd] at h
    rw [List.cons_append, ahd] at hg ⊢
    by_cases e : isO n x c
    · rw [if_pos e] at h; omega
    · rw [if_neg e] at h hg ⊢
      by_cases e2 : grt (rfx M n x c c)
      · rw [if_pos e2] at hg
        exact absurd rfl hg
      · rw [if_neg e2] at h hg ⊢
        exact ahd_app t (k + 1) _ h hg
theorem ah_ng {M : Nat → Nat → Int} (hM : mB M) {n : Nat} {R : List Nat} (hR : ∀ i, i ∈ R → i < n) (h12 : R.length ≤ 12) (t : Nat) : ah M n R t ≠ -4 := ahd_ng hM R 0 _ hR (by
  have h1 := nrm_own n t
  have h2 := pow5_le h12
  have h3 : (0 : Int) ≤ 5 ^ R.length := Int.le_of_lt (Int.pow_pos (by decide))
  have h4 := Int.mul_le_mul_of_nonneg_right h1 h3
  have h5 : (5 : Int) ^ 12 = 244140625 := by decide
  omega)
theorem getD_app1 {l m : List Nat} {i : Nat} (h : i < l.length) : (l ++ m).getD i 0 = l.getD i 0 := by
  rw [List.getD_eq_getElem?_getD, List.getD_eq_getElem?_getD, List.getElem?_append_left h]
theorem getD_app2 {l : List Nat} {s : Nat} : (l ++ [s]).getD l.length 0 = s := by
  rw [List.getD_eq_getElem?_getD, List.getElem?_append_right (Nat.le_refl _), Nat.sub_self]
  rfl
theorem gon_isF {M : Nat → Nat → Int} (hM : mB M) {n s : Nat} {l : List Nat} (hl : ∀ i, i ∈ l → i < n) (hs : s < n) (h12 : l.length ≤ 11) (hF : isFb M n l = true) : gon M n l l.length (ownV s) = true ↔ isFb M n (l ++ [s]) = true := by
  have hw : ∀ i, i ∈ l ++ [s] → i < n := fun i hi => by
    rcases List.mem_append.mp hi with h | h
    · exact hl i h
    · rw [List.mem_singleton.mp h]; exact hs
  obtain ⟨f1, f2⟩ := (isFb_p hl).mp hF
  rw [isFb_p hw]
  have hg := gon_act (M := M) hl hs l.length (Nat.le_refl _)
  have hb := bhd_act hM hl hs (by omega) l.length (Nat.le_refl _)
  rw [show act M n (l.drop l.length) (ownV s) = ownV s by rw [List.drop_length]; rfl] at hg hb
  rw [hg]
  have hah : ∀ i, i ≤ l.length → ∀ t, t < n → ah M n (l.drop i) t = -1 → (ah M n ((l ++ [s]).drop i) t = -1 ↔ act M n (l.drop i) (ownV s) ≠ ownV t) := by
    intro i hi t ht h1
    have hd : ∀ j, j ∈ l.drop i → j < n := fun j hj => hl j (List.mem_of_mem_drop hj)
    have hng := ah_ng hM (R := (l ++ [s]).drop i) (fun j hj => hw j (List.mem_of_mem_drop hj)) (by simp only [List.length_drop, List.length_append, List.length_cons, List.length_nil]; omega) t
    rw [List.drop_append_of_le_length hi] at hng ⊢
    have h2 := ahd_app (M := M) (n := n) (s := s) (l.drop i) 0 (ownV t) h1 hng
    unfold ah
    rw [h2, isO_eq (wkF_zb hd (zb_own ht)) hs, wkF_act hM]
    exact ⟨fun q z => q z.symm, fun q z => q z.symm⟩
  constructor
  · intro q
    refine ⟨fun i hi => ?_, fun i hi t ht => ?_⟩
    · simp only [List.length_append, List.length_cons, List.length_nil] at hi
      by_cases e : i < l.length
      · rw [List.take_append_of_le_length (by omega), getD_app1 e]
        exact f1 i e
      · have ei : i = l.length := by omega
        subst ei
        rw [List.take_append_of_le_length (Nat.le_refl _), List.take_length, getD_app2]
        exact hb.mpr (fun y hy => (q y hy).1)
    · simp only [List.length_append, List.length_cons, List.length_nil] at hi
      by_cases e : i < l.length
      · rw [getD_app1 e] at ht
        have hc := hl _ (getD_mem e)
        exact (hah i (by omega) t (by omega) (f2 i e t ht)).mpr ((q i e).2 t ht)
      · have ei : i = l.length := by omega
        subst ei
        rw [getD_app2] at ht
        refine (hah l.length (Nat.le_refl _) t (by omega) (by rw [List.drop_length]; rfl)).mpr ?_
        rw [List.drop_length]
        intro z
        have := congrFun z t
        change ownV s t = ownV t t at this
        unfold ownV at this
        rw [if_neg (by omega), if_pos rfl] at this
        omega
  · rintro ⟨q1, q2⟩ y hy
    have hlen : y < (l ++ [s]).length := by simp only [List.length_append, List.length_cons, List.length_nil]; omega
    refine ⟨hb.mp ?_ y hy, fun t ht => ?_⟩
    · have := q1 l.length (by simp)
      rw [List.take_append_of_le_length (Nat.le_refl _), List.take_length, getD_app2] at this
      exact this
    · have hc := hl _ (getD_mem hy)
      have h3 := q2 y hlen t (by rw [getD_app1 hy]; exact ht)
      exact (hah y (by omega) t (by omega) (f2 y hy t ht)).mp h3
end
