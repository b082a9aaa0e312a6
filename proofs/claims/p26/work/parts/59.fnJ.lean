section
/-- the class's images -/
def kIm (S W : wSt) : Nat → Nat → Int := imG (kn S) (fun k j => W 24 (k : Int) j)
theorem mv_st {P P' : Nat → Prop} {i : Nat} {z : Int} (h : z = 0 ↔ ∀ k, k < i → P k) (hs : ∀ k, k < i → (P k ↔ P' k)) : (z = 0 ∧ P' i) ↔ ∀ k, k < i + 1 → P' k := by
  constructor
  · rintro ⟨a, b⟩ k hk
    by_cases e : k = i
    · subst e; exact b
    · exact (hs k (by omega)).mp (h.mp a k (by omega))
  · intro q
    exact ⟨h.mpr (fun k hk => (hs k hk).mpr (q k (by omega))), q i (by omega)⟩
end
section
set_option maxHeartbeats 4000000 in
set_option maxRecDepth 100000 in
theorem f_X7_downs {g : wG} (hD : wD g) {S : wSt} {a b : Int} (ha : -2147483648 ≤ a ∧ a ≤ 2147483647) (hb : -2147483648 ≤ b ∧ b ≤ 2147483647) (hRS : CI S) (l : Launch) : Kt l yX7_downs wsX7_downs ({ frames := 4, cells := 0, slots := 0, locals := 96 } : Room) g S [vr g 0 0, vi a, vi b] (pI (fun r S' => CI S' ∧ Fr tXw S S' ∧ (fDowns (kM S) (kn S) a b (cSl S), cSl S) = (r, cSl S'))) := by
  refine Kt.of (cc := cX7_downs) (nL := 6) (ret := (some .int)) (own := RX7) rfl hD (by decide) rfl (Nat.le_of_ble_eq_true rfl) ⟨rfl, rfl⟩ ?_
  intro E hC hR9
  have f12 : Cond.fieldLink RX7 12 "MirrorBench" "set" "LMirrorBench$Mirrors;" ∈ wsX7_downs := by decide +kernel
  have f25 : Cond.fieldLink RX7 25 "MirrorBench" "slots" "[LMirrorBench$Word;" ∈ wsX7_downs := by decide +kernel
  have f40 : Cond.fieldLink RX7 40 "MirrorBench" "shortener" "LMirrorBench$Shortener;" ∈ wsX7_downs := by decide +kernel
  have f59 : Cond.fieldLink RX7 59 "MirrorBench" "made" "LMirrorBench$Word;" ∈ wsX7_downs := by decide +kernel
  have f83 : Cond.fieldLink RX7 83 "MirrorBench$Mirrors" "size" "I" ∈ wsX7_downs := by decide +kernel
  have w3 : ∀ w ∈ wsX30, w ∈ wsX7_downs := by decide +kernel
  have w7 : ∀ w ∈ wsX70, w ∈ wsX7_downs := by decide +kernel
  show Wk E g 6 S 0 [(0, vr g 0 0), (1, vi a), (2, vi b)] []
  have hfS : Fr tC S S := Fr.rfl _ S
  have hRS := hRS.fr hfS
  have hnS := hRS.n
  have enS : S 3 16 2 = S 3 16 2 := hfS 3 16 2 (by unfold tC; omega)
  have hnS := hRS.n
  have hkn : (kn S : Int) = S 3 16 2 := by unfold kn; omega
  refine kw_iload_n hC dX7_downs_0 rfl 1 rfl ?_
  refine kw_callS hC (d_X7_isSlot hD (by omega)) gX7_downs_X7_isSlot rfl ⟨rfl, rfl⟩ 1 (by decide +kernel) ⟨by decide, by decide⟩ rfl rfl (Nat.le_of_ble_eq_true rfl) dX7_downs_1 rfl (kd_ie ?_)
  refine kw_ifne_b (tgt := 9) hC dX7_downs_4 rfl (by decide) ⟨fun c4 => ?_, fun c4 => ?_⟩
  · have hla := hRS.ln a (by omega) (by omega)
    have hwa := hRS.wv a (by omega) (by omega)
    have hLa := cSl_len hRS (a := a) (by omega) (by omega)
    refine kw_aload_n hC dX7_downs_9 rfl 0 rfl ?_
    refine kg_0_4 hC w7 f40 dX7_downs_10 rfl (by decide) (by decide) ?_
    refine kw_aload_n hC dX7_downs_13 rfl 0 rfl ?_
    refine kg_0_2 hC w7 f25 dX7_downs_14 rfl (by decide) (by decide) ?_
    refine kw_iload_n hC dX7_downs_17 rfl 1 rfl ?_
    refine ka_20 hC dX7_downs_18 rfl (by decide) (by decide) (by omega) (by omega) ?_
    refine kw_aload_n hC dX7_downs_19 rfl 0 rfl ?_
    refine kg_0_7 hC w7 f59 dX7_downs_20 rfl (by decide) (by decide) ?_
    refine kw_callV hC (f_X5_makeShort hD (by omega) (by omega) (by omega) (by omega) (by omega) hRS hwa (by omega) (by omega)) gX7_downs_X5_makeShort ⟨_, rfl⟩ rfl (by decide) (by decide) rfl ⟨rfl, rfl⟩ 2 (by decide +kernel) ⟨by decide, by decide⟩ rfl rfl (Nat.le_of_ble_eq_true rfl) dX7_downs_23 rfl (kd_i (fun r2 S2 hp2 => ?_))
    obtain ⟨hg2, hp2⟩ := hp2
    have hfS2 : Fr tC S S2 := hfS.trans (hg2.mono (fun k i j h => by unfold fMs at h; unfold tC; omega))
    have hRS2 := hRS.fr hfS2
    have hnS2 := hRS2.n
    have enS2 : S2 3 16 2 = S 3 16 2 := hfS2 3 16 2 (by unfold tC; omega)
    obtain ⟨⟨l02, l12⟩, hr2, hq2⟩ := hp2
    rw [kM_eq (W := S) (S := S) (hfS 3 16 2 (by unfold tC; omega)) (fun j => hfS 5 16 j (by unfold tC; omega)), kn_eq (W := S) (S := S) (hfS 3 16 2 (by unfold tC; omega))] at hq2
    rw [show kP S a = cSl S a from (kP_eq (hfS 1 a 1 (by unfold tC; omega)) (fun j => hfS 2 a j (by unfold tC; omega))).trans (cSl_at (by omega) (by omega)).symm] at hq2
    have hsh := hq2
    have hv8 : WV (S2 2 8) (S2 1 8 1) (S2 3 16 2) := hr2.eq (fun _ _ _ => rfl) rfl (by omega)
    refine kw_if_ne (tgt := 32) hC dX7_downs_26 rfl (by decide) (by omega) ⟨fun c26 => ?_, fun c26 => ?_⟩
    · have hs9 := hsh.resolve_left (fun z => by omega)
      obtain ⟨RS, hRS9⟩ : ∃ q, q = kP S2 8 := ⟨_, rfl⟩
      have hsR : shoP (kM S) (kn S) [] (cSl S a) = some RS := by rw [hs9.2, hRS9]
      refine kw_iconst hC dX7_downs_32 rfl ?_
      refine kw_istore_n (lv' := [(3, _), (0, _), (1, _), (2, _)]) hC dX7_downs_33 rfl (by decide) rfl ?_
      refine kw_iconst hC dX7_downs_34 rfl ?_
      refine kw_istore (lv' := [(4, _), (3, _), (0, _), (1, _), (2, _)]) hC dX7_downs_35 rfl (by decide) rfl ?_
      have hL37 : ∀ (n37 : Nat) (s : Int) (z : Int) (W37 : wSt), Fr tC S W37 → (0 ≤ s) → (s ≤ W37 3 16 2) → (s ≤ 6) → (-2147483648 ≤ z ∧ z ≤ 2147483647) → (kP W37 8 = RS) → (dnsP (kM S) (kn S) b RS (kn S - s.toNat) z = dnsP (kM S) (kn S) b RS (kn S) 0) → (0 ≤ W37 1 8 1) → (W37 1 8 1 ≤ 100) → (WV (W37 2 8) (W37 1 8 1) (W37 3 16 2)) → 6 - s < (n37 : Int) → Wk E g 6 W37 37 [(0, vr g 0 0), (1, vi a), (2, vi b), (3, vi z), (4, vi s)] [] := by
        intro n37
        induction n37 with
        | zero => intro s z W37 hfW37 s0 s1 s6 hzr hRR hd l0 l1 hv8 hm37; exact absurd hm37 (by omega)
        | succ n37 ih37 =>
          intro s z W37 hfW37 s0 s1 s6 hzr hRR hd l0 l1 hv8 hm37
          have hRW37 := hRS.fr hfW37
          have hnW37 := hRW37.n
          have enW37 : W37 3 16 2 = S 3 16 2 := hfW37 3 16 2 (by unfold tC; omega)
          refine kw_iload hC dX7_downs_37 rfl 4 rfl ?_
          refine kw_aload_n hC dX7_downs_39 rfl 0 rfl ?_
          refine kg_0_0 hC w7 f12 dX7_downs_40 rfl (by decide) (by decide) ?_
          refine kg_3_2 hC w3 f83 dX7_downs_43 rfl (by omega) (by omega) ?_
          refine kw_icmp_ge (tgt := 113) hC dX7_downs_46 rfl (by decide) (by omega) (by omega) ⟨fun c46 => ?_, fun c46 => ?_⟩
          · refine kw_iload_n hC dX7_downs_113 rfl 3 rfl ?_
            exact hR9.1 rfl _ _ _ _ dX7_downs_114 (by first | (exfalso; omega) | exact ⟨_, rfl, hRW37, tC_tXw hfW37, by unfold fDowns; rw [if_neg (by omega), cSl_tC hfW37]⟩ | exact ⟨_, rfl, hRW37, tC_tXw hfW37, by have h9 := hsR; unfold fDowns; rw [if_pos (by omega), h9]; rw [cSl_tC hfW37]; exact Prod.ext (hds.1 (by omega)) rfl⟩ | exact ⟨_, rfl, hRW37, tC_tXw hfW37, by have h9 := hsR; unfold fDowns; rw [if_pos (by omega), h9]; rw [cSl_tC hfW37]; exact Prod.ext (dns_e hd (by omega)) rfl⟩ | exact ⟨_, rfl, hRW37, tC_tXw hfW37, by have h9 := (hsh.resolve_right (fun z => by omega)).2; unfold fDowns; rw [if_pos (by omega), h9, cSl_tC hfW37]⟩)
          · have hds := dns_s hd s0 (by omega)
            have hdpr := dnP_r (kM S) (kn S) b RS s.toNat
            refine kw_iload_n hC dX7_downs_49 rfl 2 rfl ?_
            refine kw_if_eq (tgt := 69) hC dX7_downs_50 rfl (by decide) (by omega) ⟨fun c50 => ?_, fun c50 => ?_⟩
            · refine kw_aload_n hC dX7_downs_69 rfl 0 rfl ?_
              refine kg_0_4 hC w7 f40 dX7_downs_70 rfl (by decide) (by decide) ?_
              refine kw_aload_n hC dX7_downs_73 rfl 0 rfl ?_
              refine kg_0_7 hC w7 f59 dX7_downs_74 rfl (by decide) (by decide) ?_
              refine kw_iload hC dX7_downs_77 rfl 4 rfl ?_
              refine kw_callV hC (f_X5_goesBehind hD (by omega) (by omega) (by omega) (by omega) hRW37 hv8 (by omega) (by omega)) gX7_downs_X5_goesBehind ⟨_, rfl⟩ rfl (by decide) (by decide) rfl ⟨rfl, rfl⟩ 2 (by decide +kernel) ⟨by decide, by decide⟩ rfl rfl (Nat.le_of_ble_eq_true rfl) dX7_downs_79 rfl (kd_i (fun r6 S6 hp6 => ?_))
              obtain ⟨hg6, hp6⟩ := hp6
              have hfS6 : Fr tC S S6 := hfW37.trans (hg6.mono (fun k i j h => by unfold fA at h; unfold tC; omega))
              have hRS6 := hRS.fr hfS6
              have hnS6 := hRS6.n
              have enS6 : S6 3 16 2 = S 3 16 2 := hfS6 3 16 2 (by unfold tC; omega)
              have hq6 := hp6
              rw [kM_eq (W := W37) (S := S) (hfW37 3 16 2 (by unfold tC; omega)) (fun j => hfW37 5 16 j (by unfold tC; omega)), kn_eq (W := W37) (S := S) (hfW37 3 16 2 (by unfold tC; omega))] at hq6
              rw [hRR] at hq6
              have hk9 := hq6
              have hlr : (RS.length : Int) = W37 1 8 1 := by rw [← hRR]; exact kP_len (by omega)
              have hdp : dnP (kM S) (kn S) b RS s.toNat = bh (kM S) (kn S) RS s.toNat := by unfold dnP; first | rw [if_pos (by omega)] | rw [if_neg (by omega)]
              have e86 : S6 1 8 1 = W37 1 8 1 := hg6 1 8 1 (by unfold fA; omega)
              replace hRR : kP S6 8 = RS := (kP_eq e86 (fun j => hg6 2 8 j (by unfold fA; omega))).trans hRR
              replace hv8 : WV (S6 2 8) (S6 1 8 1) (S6 3 16 2) := hv8.fr hg6 (by unfold fA; omega) (fun j => by unfold fA; omega) (by omega)
              refine kw_istore (lv' := [(5, _), (0, _), (1, _), (2, _), (3, _), (4, _)]) hC dX7_downs_82 rfl (by decide) rfl ?_
              refine kw_iload hC dX7_downs_84 rfl 0 rfl ?_
              refine kw_bipush hC dX7_downs_86 rfl (by decide) ?_
              refine kw_icmp_ne (tgt := 94) hC dX7_downs_88 rfl (by decide) (by omega) (by omega) ⟨fun c88 => ?_, fun c88 => ?_⟩
              · refine kw_iload hC dX7_downs_94 rfl 0 rfl ?_
                refine kw_iconst hC dX7_downs_96 rfl ?_
                refine kw_icmp_eq (tgt := 107) hC dX7_downs_97 rfl (by decide) (by omega) (by omega) ⟨fun c97 => ?_, fun c97 => ?_⟩
                · refine kw_iinc (lv' := [(4, _), (5, _), (0, _), (1, _), (2, _), (3, _)]) hC dX7_downs_107 rfl 5 rfl (by decide) rfl ?_
                  refine kw_goto (tgt := 37) hC dX7_downs_110 rfl (by decide) ?_
                  refine kw_lv [2, 3, 4, 5, 0] rfl ?_
                  exact ih37 (s + 1) _ S6 hfS6 (by omega) (by omega) (by omega) (by first | exact (xi_r _) | exact hzr) hRR (by first | exact hds.2.2 (by omega) | exact hds.2.1 (by omega)) (by omega) (by omega) hv8 (by omega)
                · refine kw_iload_n hC dX7_downs_100 rfl 4 rfl ?_
                  refine kw_iconst hC dX7_downs_101 rfl ?_
                  refine kw_iload hC dX7_downs_102 rfl 5 rfl ?_
                  refine kw_ishlX hC dX7_downs_104 rfl ?_
                  refine kw_iorX hC dX7_downs_105 rfl ?_
                  refine kw_istore_n (lv' := [(3, _), (5, _), (0, _), (1, _), (2, _), (4, _)]) hC dX7_downs_106 rfl (by decide) rfl ?_
                  refine kw_iinc (lv' := [(4, _), (3, _), (5, _), (0, _), (1, _), (2, _)]) hC dX7_downs_107 rfl 5 rfl (by decide) rfl ?_
                  refine kw_goto (tgt := 37) hC dX7_downs_110 rfl (by decide) ?_
                  refine kw_lv [3, 4, 5, 1, 0] rfl ?_
                  exact ih37 (s + 1) _ S6 hfS6 (by omega) (by omega) (by omega) (by first | exact (xi_r _) | exact hzr) hRR (by first | exact hds.2.2 (by omega) | exact hds.2.1 (by omega)) (by omega) (by omega) hv8 (by omega)
              · refine kw_bipush hC dX7_downs_91 rfl (by decide) ?_
                exact hR9.1 rfl _ _ _ _ dX7_downs_93 (by first | (exfalso; omega) | exact ⟨_, rfl, hRS6, tC_tXw hfS6, by unfold fDowns; rw [if_neg (by omega), cSl_tC hfS6]⟩ | exact ⟨_, rfl, hRS6, tC_tXw hfS6, by have h9 := hsR; unfold fDowns; rw [if_pos (by omega), h9]; rw [cSl_tC hfS6]; exact Prod.ext (hds.1 (by omega)) rfl⟩ | exact ⟨_, rfl, hRS6, tC_tXw hfS6, by have h9 := hsR; unfold fDowns; rw [if_pos (by omega), h9]; rw [cSl_tC hfS6]; exact Prod.ext (dns_e hd (by omega)) rfl⟩ | exact ⟨_, rfl, hRS6, tC_tXw hfS6, by have h9 := (hsh.resolve_right (fun z => by omega)).2; unfold fDowns; rw [if_pos (by omega), h9, cSl_tC hfS6]⟩)
            · refine kw_aload_n hC dX7_downs_53 rfl 0 rfl ?_
              refine kg_0_4 hC w7 f40 dX7_downs_54 rfl (by decide) (by decide) ?_
              refine kw_aload_n hC dX7_downs_57 rfl 0 rfl ?_
              refine kg_0_7 hC w7 f59 dX7_downs_58 rfl (by decide) (by decide) ?_
              refine kw_iload hC dX7_downs_61 rfl 4 rfl ?_
              refine kw_callV hC (f_X5_goesAhead hD (by omega) (by omega) (by omega) (by omega) hRW37 hv8 (by omega) (by omega)) gX7_downs_X5_goesAhead ⟨_, rfl⟩ rfl (by decide) (by decide) rfl ⟨rfl, rfl⟩ 2 (by decide +kernel) ⟨by decide, by decide⟩ rfl rfl (Nat.le_of_ble_eq_true rfl) dX7_downs_63 rfl (kd_i (fun r9 S9 hp9 => ?_))
              obtain ⟨hg9, hp9⟩ := hp9
              have hfS9 : Fr tC S S9 := hfW37.trans (hg9.mono (fun k i j h => by unfold fA at h; unfold tC; omega))
              have hRS9 := hRS.fr hfS9
              have hnS9 := hRS9.n
              have enS9 : S9 3 16 2 = S 3 16 2 := hfS9 3 16 2 (by unfold tC; omega)
              have hq9 := hp9
              rw [kM_eq (W := W37) (S := S) (hfW37 3 16 2 (by unfold tC; omega)) (fun j => hfW37 5 16 j (by unfold tC; omega)), kn_eq (W := W37) (S := S) (hfW37 3 16 2 (by unfold tC; omega))] at hq9
              rw [hRR] at hq9
              have hk9 := hq9
              have hlr : (RS.length : Int) = W37 1 8 1 := by rw [← hRR]; exact kP_len (by omega)
              have hdp : dnP (kM S) (kn S) b RS s.toNat = ah (kM S) (kn S) RS s.toNat := by unfold dnP; first | rw [if_pos (by omega)] | rw [if_neg (by omega)]
              have e89 : S9 1 8 1 = W37 1 8 1 := hg9 1 8 1 (by unfold fA; omega)
              replace hRR : kP S9 8 = RS := (kP_eq e89 (fun j => hg9 2 8 j (by unfold fA; omega))).trans hRR
              replace hv8 : WV (S9 2 8) (S9 1 8 1) (S9 3 16 2) := hv8.fr hg9 (by unfold fA; omega) (fun j => by unfold fA; omega) (by omega)
              refine kw_goto (tgt := 82) hC dX7_downs_66 rfl (by decide) ?_
              refine kw_istore (lv' := [(5, _), (0, _), (1, _), (2, _), (3, _), (4, _)]) hC dX7_downs_82 rfl (by decide) rfl ?_
              refine kw_iload hC dX7_downs_84 rfl 0 rfl ?_
              refine kw_bipush hC dX7_downs_86 rfl (by decide) ?_
              refine kw_icmp_ne (tgt := 94) hC dX7_downs_88 rfl (by decide) (by omega) (by omega) ⟨fun c88 => ?_, fun c88 => ?_⟩
              · refine kw_iload hC dX7_downs_94 rfl 0 rfl ?_
                refine kw_iconst hC dX7_downs_96 rfl ?_
                refine kw_icmp_eq (tgt := 107) hC dX7_downs_97 rfl (by decide) (by omega) (by omega) ⟨fun c97 => ?_, fun c97 => ?_⟩
                · refine kw_iinc (lv' := [(4, _), (5, _), (0, _), (1, _), (2, _), (3, _)]) hC dX7_downs_107 rfl 5 rfl (by decide) rfl ?_
                  refine kw_goto (tgt := 37) hC dX7_downs_110 rfl (by decide) ?_
                  refine kw_lv [2, 3, 4, 5, 0] rfl ?_
                  exact ih37 (s + 1) _ S9 hfS9 (by omega) (by omega) (by omega) (by first | exact (xi_r _) | exact hzr) hRR (by first | exact hds.2.2 (by omega) | exact hds.2.1 (by omega)) (by omega) (by omega) hv8 (by omega)
                · refine kw_iload_n hC dX7_downs_100 rfl 4 rfl ?_
                  refine kw_iconst hC dX7_downs_101 rfl ?_
                  refine kw_iload hC dX7_downs_102 rfl 5 rfl ?_
                  refine kw_ishlX hC dX7_downs_104 rfl ?_
                  refine kw_iorX hC dX7_downs_105 rfl ?_
                  refine kw_istore_n (lv' := [(3, _), (5, _), (0, _), (1, _), (2, _), (4, _)]) hC dX7_downs_106 rfl (by decide) rfl ?_
                  refine kw_iinc (lv' := [(4, _), (3, _), (5, _), (0, _), (1, _), (2, _)]) hC dX7_downs_107 rfl 5 rfl (by decide) rfl ?_
                  refine kw_goto (tgt := 37) hC dX7_downs_110 rfl (by decide) ?_
                  refine kw_lv [3, 4, 5, 1, 0] rfl ?_
                  exact ih37 (s + 1) _ S9 hfS9 (by omega) (by omega) (by omega) (by first | exact (xi_r _) | exact hzr) hRR (by first | exact hds.2.2 (by omega) | exact hds.2.1 (by omega)) (by omega) (by omega) hv8 (by omega)
              · refine kw_bipush hC dX7_downs_91 rfl (by decide) ?_
                exact hR9.1 rfl _ _ _ _ dX7_downs_93 (by first | (exfalso; omega) | exact ⟨_, rfl, hRS9, tC_tXw hfS9, by unfold fDowns; rw [if_neg (by omega), cSl_tC hfS9]⟩ | exact ⟨_, rfl, hRS9, tC_tXw hfS9, by have h9 := hsR; unfold fDowns; rw [if_pos (by omega), h9]; rw [cSl_tC hfS9]; exact Prod.ext (hds.1 (by omega)) rfl⟩ | exact ⟨_, rfl, hRS9, tC_tXw hfS9, by have h9 := hsR; unfold fDowns; rw [if_pos (by omega), h9]; rw [cSl_tC hfS9]; exact Prod.ext (dns_e hd (by omega)) rfl⟩ | exact ⟨_, rfl, hRS9, tC_tXw hfS9, by have h9 := (hsh.resolve_right (fun z => by omega)).2; unfold fDowns; rw [if_pos (by omega), h9, cSl_tC hfS9]⟩)
      refine kw_lv [2, 3, 4, 1, 0] rfl ?_
      exact hL37 7 0 _ S2 hfS2 (by omega) (by omega) (by omega) (by omega) hRS9.symm rfl (by omega) (by omega) hv8 (by omega)
    · refine kw_bipush hC dX7_downs_29 rfl (by decide) ?_
      exact hR9.1 rfl _ _ _ _ dX7_downs_31 (by first | (exfalso; omega) | exact ⟨_, rfl, hRS2, tC_tXw hfS2, by unfold fDowns; rw [if_neg (by omega), cSl_tC hfS2]⟩ | exact ⟨_, rfl, hRS2, tC_tXw hfS2, by have h9 := hsR; unfold fDowns; rw [if_pos (by omega), h9]; rw [cSl_tC hfS2]; exact Prod.ext (hds.1 (by omega)) rfl⟩ | exact ⟨_, rfl, hRS2, tC_tXw hfS2, by have h9 := hsR; unfold fDowns; rw [if_pos (by omega), h9]; rw [cSl_tC hfS2]; exact Prod.ext (dns_e hd (by omega)) rfl⟩ | exact ⟨_, rfl, hRS2, tC_tXw hfS2, by have h9 := (hsh.resolve_right (fun z => by omega)).2; unfold fDowns; rw [if_pos (by omega), h9, cSl_tC hfS2]⟩)
  · refine kw_iconst hC dX7_downs_7 rfl ?_
    exact hR9.1 rfl _ _ _ _ dX7_downs_8 (by first | (exfalso; omega) | exact ⟨_, rfl, hRS, tC_tXw hfS, by unfold fDowns; rw [if_neg (by omega), cSl_tC hfS]⟩ | exact ⟨_, rfl, hRS, tC_tXw hfS, by have h9 := hsR; unfold fDowns; rw [if_pos (by omega), h9]; rw [cSl_tC hfS]; exact Prod.ext (hds.1 (by omega)) rfl⟩ | exact ⟨_, rfl, hRS, tC_tXw hfS, by have h9 := hsR; unfold fDowns; rw [if_pos (by omega), h9]; rw [cSl_tC hfS]; exact Prod.ext (dns_e hd (by omega)) rfl⟩ | exact ⟨_, rfl, hRS, tC_tXw hfS, by have h9 := (hsh.resolve_right (fun z => by omega)).2; unfold fDowns; rw [if_pos (by omega), h9, cSl_tC hfS]⟩)

set_option maxHeartbeats 4000000 in
set_option maxRecDepth 100000 in
theorem f_X7_does {g : wG} (hD : wD g) {S : wSt} {a b c : Int} (ha : -2147483648 ≤ a ∧ a ≤ 2147483647) (hb : -2147483648 ≤ b ∧ b ≤ 2147483647) (hc : -2147483648 ≤ c ∧ c ≤ 2147483647) (hRS : CI S) (l : Launch) : Kt l yX7_does wsX7_does ({ frames := 3, cells := 0, slots := 0, locals := 73 } : Room) g S [vr g 0 0, vi a, vi b, vi c] (pL (fun r S' => CI S' ∧ Fr tXw S S' ∧ (fDoes (kM S) (kn S) a b c (cSl S), cSl S) = (r, cSl S'))) := by
  refine Kt.of (cc := cX7_does) (nL := 4) (ret := (some .long)) (own := RX7) rfl hD (by decide) rfl (Nat.le_of_ble_eq_true rfl) ⟨rfl, rfl⟩ ?_
  intro E hC hR9
  have f12 : Cond.fieldLink RX7 12 "MirrorBench" "set" "LMirrorBench$Mirrors;" ∈ wsX7_does := by decide +kernel
  have f25 : Cond.fieldLink RX7 25 "MirrorBench" "slots" "[LMirrorBench$Word;" ∈ wsX7_does := by decide +kernel
  have f69 : Cond.fieldLink RX7 69 "MirrorBench" "spare" "[J" ∈ wsX7_does := by decide +kernel
  have f131 : Cond.fieldLink RX7 131 "MirrorBench$Word" "length" "I" ∈ wsX7_does := by decide +kernel
  have l196 : Cond.constantLong RX7 196 (Int64.ofInt (-10000000000001)) ∈ wsX7_does := by decide +kernel
  have l206 : Cond.constantLong RX7 206 (Int64.ofInt (-10000000000004)) ∈ wsX7_does := by decide +kernel
  have w6 : ∀ w ∈ wsX60, w ∈ wsX7_does := by decide +kernel
  have w7 : ∀ w ∈ wsX70, w ∈ wsX7_does := by decide +kernel
  show Wk E g 4 S 0 [(0, vr g 0 0), (1, vi a), (2, vi b), (3, vi c)] []
  have hfS : Fr tC S S := Fr.rfl _ S
  have hRS := hRS.fr hfS
  have hnS := hRS.n
  have enS : S 3 16 2 = S 3 16 2 := hfS 3 16 2 (by unfold tC; omega)
  have hnS := hRS.n
  have hkn : (kn S : Int) = S 3 16 2 := by unfold kn; omega
  refine kw_iload_n hC dX7_does_0 rfl 1 rfl ?_
  refine kw_callS hC (d_X7_isSlot hD (by omega)) gX7_does_X7_isSlot rfl ⟨rfl, rfl⟩ 1 (by decide +kernel) ⟨by decide, by decide⟩ rfl rfl (Nat.le_of_ble_eq_true rfl) dX7_does_1 rfl (kd_ie ?_)
  refine kw_ifeq_b (tgt := 29) hC dX7_does_4 rfl (by decide) ⟨fun c4 => ?_, fun c4 => ?_⟩
  · refine kw_ldc2 (z := -10000000000001) hC dX7_does_29 rfl l196 ?_
    exact hR9.2.2.1 rfl _ _ _ _ dX7_does_32 (by first | (exfalso; omega) | exact ⟨_, rfl, hRS, tC_tXw hfS, by unfold fDoes; rw [if_neg (by omega), cSl_tC hfS]⟩ | exact ⟨_, rfl, hRS, tC_tXw hfS, by have h9 := (hq9.resolve_right (fun z => by omega)).2; unfold fDoes; rw [if_pos (by omega), h9, cSl_tC hfS]⟩ | exact ⟨_, rfl, hRS, tC_tXw hfS, by have h9 := (hq9.resolve_left (fun z => by omega)).2.1; unfold fDoes; rw [if_pos (by omega), h9, cSl_tC hfS]; exact Prod.ext (by show vC (kn S) _ c.toNat = _; unfold vC; rw [if_pos (by omega), Int.toNat_of_nonneg (by omega)]) rfl⟩)
  · refine kw_aload_n hC dX7_does_7 rfl 0 rfl ?_
    refine kg_0_0 hC w7 f12 dX7_does_8 rfl (by decide) (by decide) ?_
    refine kw_iload_n hC dX7_does_11 rfl 2 rfl ?_
    refine kw_callV hC (d_X3_has hD (by omega) (by omega) (by omega) (by omega) (by omega)) gX7_does_X3_has ⟨_, rfl⟩ rfl (by omega) (show (16 : Int) < 17 by omega) rfl ⟨rfl, rfl⟩ 1 (by decide +kernel) ⟨by decide, by decide⟩ rfl rfl (Nat.le_of_ble_eq_true rfl) dX7_does_12 rfl (kd_ie ?_)
    refine kw_ifeq_b (tgt := 29) hC dX7_does_15 rfl (by decide) ⟨fun c15 => ?_, fun c15 => ?_⟩
    · refine kw_ldc2 (z := -10000000000001) hC dX7_does_29 rfl l196 ?_
      exact hR9.2.2.1 rfl _ _ _ _ dX7_does_32 (by first | (exfalso; omega) | exact ⟨_, rfl, hRS, tC_tXw hfS, by unfold fDoes; rw [if_neg (by omega), cSl_tC hfS]⟩ | exact ⟨_, rfl, hRS, tC_tXw hfS, by have h9 := (hq9.resolve_right (fun z => by omega)).2; unfold fDoes; rw [if_pos (by omega), h9, cSl_tC hfS]⟩ | exact ⟨_, rfl, hRS, tC_tXw hfS, by have h9 := (hq9.resolve_left (fun z => by omega)).2.1; unfold fDoes; rw [if_pos (by omega), h9, cSl_tC hfS]; exact Prod.ext (by show vC (kn S) _ c.toNat = _; unfold vC; rw [if_pos (by omega), Int.toNat_of_nonneg (by omega)]) rfl⟩)
    · refine kw_aload_n hC dX7_does_18 rfl 0 rfl ?_
      refine kg_0_0 hC w7 f12 dX7_does_19 rfl (by decide) (by decide) ?_
      refine kw_iload_n hC dX7_does_22 rfl 3 rfl ?_
      refine kw_callV hC (d_X3_has hD (by omega) (by omega) (by omega) (by omega) (by omega)) gX7_does_X3_has ⟨_, rfl⟩ rfl (by omega) (show (16 : Int) < 17 by omega) rfl ⟨rfl, rfl⟩ 1 (by decide +kernel) ⟨by decide, by decide⟩ rfl rfl (Nat.le_of_ble_eq_true rfl) dX7_does_23 rfl (kd_ie ?_)
      refine kw_ifne_b (tgt := 33) hC dX7_does_26 rfl (by decide) ⟨fun c26 => ?_, fun c26 => ?_⟩
      · have hla := hRS.ln a (by omega) (by omega)
        have hwa := hRS.wv a (by omega) (by omega)
        have hLa := cSl_len hRS (a := a) (by omega) (by omega)
        refine kw_aload_n hC dX7_does_33 rfl 0 rfl ?_
        refine kg_0_10 hC w7 f69 dX7_does_34 rfl (by decide) (by decide) ?_
        refine kw_iload_n hC dX7_does_37 rfl 2 rfl ?_
        refine kw_callS hC (d_X7_setOwn hD (c := 22) (w := 0) (fun _ => rfl) (by decide) (by decide) (by omega) (by omega)) gX7_does_X7_setOwn rfl ⟨rfl, rfl⟩ 2 (by decide +kernel) ⟨by decide, by decide⟩ rfl rfl (Nat.le_of_ble_eq_true rfl) dX7_does_38 rfl (kd_v (fun S4 hp4 => ?_))
        obtain ⟨hg4, hp4⟩ := hp4
        have hfS4 : Fr tC S S4 := hfS.trans (hg4.mono (fun k i j h => by unfold fCl at h; unfold tC; omega))
        have hRS4 := hRS.fr hfS4
        have hnS4 := hRS4.n
        have enS4 : S4 3 16 2 = S 3 16 2 := hfS4 3 16 2 (by unfold tC; omega)
        obtain ⟨hvo, hbd⟩ := vC_own hnS (by omega) (by omega) (fun j j0 j1 => hp4 j j0 (by omega))
        rw [← enS4] at hbd
        refine kw_aload_n hC dX7_does_41 rfl 0 rfl ?_
        refine kg_0_0 hC w7 f12 dX7_does_42 rfl (by decide) (by decide) ?_
        refine kw_aload_n hC dX7_does_45 rfl 0 rfl ?_
        refine kg_0_2 hC w7 f25 dX7_does_46 rfl (by decide) (by decide) ?_
        refine kw_iload_n hC dX7_does_49 rfl 1 rfl ?_
        refine ka_20 hC dX7_does_50 rfl (by decide) (by decide) (by omega) (by omega) ?_
        refine kw_aload_n hC dX7_does_51 rfl 0 rfl ?_
        refine kg_0_2 hC w7 f25 dX7_does_52 rfl (by decide) (by decide) ?_
        refine kw_iload_n hC dX7_does_55 rfl 1 rfl ?_
        refine ka_20 hC dX7_does_56 rfl (by decide) (by decide) (by omega) (by omega) ?_
        refine kg_1_1 hC w6 f131 dX7_does_57 rfl (by omega) (by omega) ?_
        refine kw_chi (z' := S 1 a 1) (hfS4 1 a 1 (by unfold tC; omega)) ?_
        have hws : WV (S4 2 a) (S 1 a 1) (S4 3 16 2) := hwa.eq (fun j _ _ => hfS4 2 a j (by unfold tC; omega)) rfl (by omega)
        refine kw_aload_n hC dX7_does_60 rfl 0 rfl ?_
        refine kg_0_10 hC w7 f69 dX7_does_61 rfl (by decide) (by decide) ?_
        refine kw_callV hC (f_X3_turnBy hD (c := 22) (w := 0) (fun _ => rfl) (by decide) (by decide) (by decide) (fun j => by unfold tC; omega) (by omega) (by omega) (by omega) (by omega) hRS4 hws hbd) gX7_does_X3_turnBy ⟨_, rfl⟩ rfl (by omega) (show (16 : Int) < 17 by omega) rfl ⟨rfl, rfl⟩ 3 (by decide +kernel) ⟨by decide, by decide⟩ rfl rfl (Nat.le_of_ble_eq_true rfl) dX7_does_64 rfl (kd_i (fun r5 S5 hp5 => ?_))
        obtain ⟨hg5, hp5⟩ := hp5
        have hfS5 : Fr tC S S5 := hfS4.trans (hg5.mono (fun k i j h => by unfold fCl at h; unfold tC; omega))
        have hRS5 := hRS.fr hfS5
        have hnS5 := hRS5.n
        have enS5 : S5 3 16 2 = S 3 16 2 := hfS5 3 16 2 (by unfold tC; omega)
        obtain ⟨hzz9, hq5⟩ := hp5
        rw [kM_eq (W := S4) (S := S) (hfS4 3 16 2 (by unfold tC; omega)) (fun j => hfS4 5 16 j (by unfold tC; omega)), kn_eq (W := S4) (S := S) (hfS4 3 16 2 (by unfold tC; omega))] at hq5
        rw [show wl (S4 2 a) (S 1 a 1).toNat = cSl S a from (wl_eq rfl (fun j _ _ => hfS4 2 a j (by unfold tC; omega))).trans (cSl_at (by omega) (by omega)).symm, show (S 1 a 1).toNat = (cSl S a).length by omega] at hq5
        rw [show vC (kn S) (S4 22 0) = ownV b.toNat from hvo] at hq5
        have hq9 := hq5
        refine kw_if_eq (tgt := 79) hC dX7_does_67 rfl (by decide) (by omega) ⟨fun c67 => ?_, fun c67 => ?_⟩
        · refine kw_ldc2 (z := -10000000000004) hC dX7_does_79 rfl l206 ?_
          exact hR9.2.2.1 rfl _ _ _ _ dX7_does_82 (by first | (exfalso; omega) | exact ⟨_, rfl, hRS5, tC_tXw hfS5, by unfold fDoes; rw [if_neg (by omega), cSl_tC hfS5]⟩ | exact ⟨_, rfl, hRS5, tC_tXw hfS5, by have h9 := (hq9.resolve_right (fun z => by omega)).2; unfold fDoes; rw [if_pos (by omega), h9, cSl_tC hfS5]⟩ | exact ⟨_, rfl, hRS5, tC_tXw hfS5, by have h9 := (hq9.resolve_left (fun z => by omega)).2.1; unfold fDoes; rw [if_pos (by omega), h9, cSl_tC hfS5]; exact Prod.ext (by show vC (kn S) _ c.toNat = _; unfold vC; rw [if_pos (by omega), Int.toNat_of_nonneg (by omega)]) rfl⟩)
        · refine kw_aload_n hC dX7_does_70 rfl 0 rfl ?_
          refine kg_0_10 hC w7 f69 dX7_does_71 rfl (by decide) (by decide) ?_
          refine kw_iload_n hC dX7_does_74 rfl 3 rfl ?_
          refine ka_22 hC dX7_does_75 rfl (by decide) (by decide) (by omega) (by omega) ?_
          refine kw_goto (tgt := 82) hC dX7_does_76 rfl (by decide) ?_
          exact hR9.2.2.1 rfl _ _ _ _ dX7_does_82 (by first | (exfalso; omega) | exact ⟨_, rfl, hRS5, tC_tXw hfS5, by unfold fDoes; rw [if_neg (by omega), cSl_tC hfS5]⟩ | exact ⟨_, rfl, hRS5, tC_tXw hfS5, by have h9 := (hq9.resolve_right (fun z => by omega)).2; unfold fDoes; rw [if_pos (by omega), h9, cSl_tC hfS5]⟩ | exact ⟨_, rfl, hRS5, tC_tXw hfS5, by have h9 := (hq9.resolve_left (fun z => by omega)).2.1; unfold fDoes; rw [if_pos (by omega), h9, cSl_tC hfS5]; exact Prod.ext (by show vC (kn S) _ c.toNat = _; unfold vC; rw [if_pos (by omega), Int.toNat_of_nonneg (by omega)]) rfl⟩)
      · refine kw_ldc2 (z := -10000000000001) hC dX7_does_29 rfl l196 ?_
        exact hR9.2.2.1 rfl _ _ _ _ dX7_does_32 (by first | (exfalso; omega) | exact ⟨_, rfl, hRS, tC_tXw hfS, by unfold fDoes; rw [if_neg (by omega), cSl_tC hfS]⟩ | exact ⟨_, rfl, hRS, tC_tXw hfS, by have h9 := (hq9.resolve_right (fun z => by omega)).2; unfold fDoes; rw [if_pos (by omega), h9, cSl_tC hfS]⟩ | exact ⟨_, rfl, hRS, tC_tXw hfS, by have h9 := (hq9.resolve_left (fun z => by omega)).2.1; unfold fDoes; rw [if_pos (by omega), h9, cSl_tC hfS]; exact Prod.ext (by show vC (kn S) _ c.toNat = _; unfold vC; rw [if_pos (by omega), Int.toNat_of_nonneg (by omega)]) rfl⟩)

set_option maxHeartbeats 4000000 in
set_option maxRecDepth 100000 in
theorem f_X7_order {g : wG} (hD : wD g) {S : wSt} {a : Int} (ha : -2147483648 ≤ a ∧ a ≤ 2147483647) (hRS : CI S) (l : Launch) : Kt l yX7_order wsX7_order ({ frames := 3, cells := 0, slots := 0, locals := 73 } : Room) g S [vr g 0 0, vi a] (pI (fun r S' => CI S' ∧ Fr tXw S S' ∧ (fOrder (kM S) (kn S) a (cSl S), cSl S) = (r, cSl S'))) := by
  refine Kt.of (cc := cX7_order) (nL := 5) (ret := (some .int)) (own := RX7) rfl hD (by decide) rfl (Nat.le_of_ble_eq_true rfl) ⟨rfl, rfl⟩ ?_
  intro E hC hR9
  have f12 : Cond.fieldLink RX7 12 "MirrorBench" "set" "LMirrorBench$Mirrors;" ∈ wsX7_order := by decide +kernel
  have f25 : Cond.fieldLink RX7 25 "MirrorBench" "slots" "[LMirrorBench$Word;" ∈ wsX7_order := by decide +kernel
  have f75 : Cond.fieldLink RX7 75 "MirrorBench" "images" "[[J" ∈ wsX7_order := by decide +kernel
  have f83 : Cond.fieldLink RX7 83 "MirrorBench$Mirrors" "size" "I" ∈ wsX7_order := by decide +kernel
  have f131 : Cond.fieldLink RX7 131 "MirrorBench$Word" "length" "I" ∈ wsX7_order := by decide +kernel
  have w3 : ∀ w ∈ wsX30, w ∈ wsX7_order := by decide +kernel
  have w6 : ∀ w ∈ wsX60, w ∈ wsX7_order := by decide +kernel
  have w7 : ∀ w ∈ wsX70, w ∈ wsX7_order := by decide +kernel
  show Wk E g 5 S 0 [(0, vr g 0 0), (1, vi a)] []
  have hfS : Fr tC S S := Fr.rfl _ S
  have hRS := hRS.fr hfS
  have hnS := hRS.n
  have enS : S 3 16 2 = S 3 16 2 := hfS 3 16 2 (by unfold tC; omega)
  have hnS := hRS.n
  have hkn : (kn S : Int) = S 3 16 2 := by unfold kn; omega
  refine kw_iload_n hC dX7_order_0 rfl 1 rfl ?_
  refine kw_callS hC (d_X7_isSlot hD (by omega)) gX7_order_X7_isSlot rfl ⟨rfl, rfl⟩ 1 (by decide +kernel) ⟨by decide, by decide⟩ rfl rfl (Nat.le_of_ble_eq_true rfl) dX7_order_1 rfl (kd_ie ?_)
  refine kw_ifne_b (tgt := 9) hC dX7_order_4 rfl (by decide) ⟨fun c4 => ?_, fun c4 => ?_⟩
  · have hla := hRS.ln a (by omega) (by omega)
    have hwa := hRS.wv a (by omega) (by omega)
    have hLa := cSl_len hRS (a := a) (by omega) (by omega)
    refine kw_iconst hC dX7_order_9 rfl ?_
    refine kw_istore_n (lv' := [(2, _), (0, _), (1, _)]) hC dX7_order_10 rfl (by decide) rfl ?_
    have hL11 : ∀ (n11 : Nat) (i : Int) (W11 : wSt), Fr tC S W11 → (0 ≤ i) → (i ≤ W11 3 16 2) → (i ≤ 6) → (∀ k j : Int, 0 ≤ k → k < i → 0 ≤ j → j < 6 → W11 24 k j = if j = k then 1 else 0) → 6 - i < (n11 : Int) → Wk E g 5 W11 11 [(0, vr g 0 0), (1, vi a), (2, vi i)] [] := by
      intro n11
      induction n11 with
      | zero => intro i W11 hfW11 i0 i1 i6 hini hm11; exact absurd hm11 (by omega)
      | succ n11 ih11 =>
        intro i W11 hfW11 i0 i1 i6 hini hm11
        have hRW11 := hRS.fr hfW11
        have hnW11 := hRW11.n
        have enW11 : W11 3 16 2 = S 3 16 2 := hfW11 3 16 2 (by unfold tC; omega)
        refine kw_iload_n hC dX7_order_11 rfl 2 rfl ?_
        refine kw_aload_n hC dX7_order_12 rfl 0 rfl ?_
        refine kg_0_0 hC w7 f12 dX7_order_13 rfl (by decide) (by decide) ?_
        refine kg_3_2 hC w3 f83 dX7_order_16 rfl (by omega) (by omega) ?_
        refine kw_icmp_ge (tgt := 38) hC dX7_order_19 rfl (by decide) (by omega) (by omega) ⟨fun c19 => ?_, fun c19 => ?_⟩
        · refine kw_iconst hC dX7_order_38 rfl ?_
          refine kw_istore_n (lv' := [(2, _), (0, _), (1, _)]) hC dX7_order_39 rfl (by decide) rfl ?_
          have hL40 : ∀ (n40 : Nat) (n : Int) (W40 : wSt), Fr tC S W40 → (1 ≤ n) → (n ≤ 31) → (ordP (kM S) (kn S) (cSl S a) (31 - n).toNat (kIm S W40) = ordP (kM S) (kn S) (cSl S a) 30 ownV) → (∀ k : Int, 0 ≤ k → k < S 3 16 2 → bdd (S 3 16 2) (W40 24 k)) → (∀ k j : Int, 0 ≤ k → k < S 3 16 2 → S 3 16 2 ≤ j → j < 6 → W40 24 k j = 0) → 31 - n < (n40 : Int) → Wk E g 5 W40 40 [(0, vr g 0 0), (1, vi a), (2, vi n)] [] := by
            intro n40
            induction n40 with
            | zero => intro n W40 hfW40 n0 n1 hP hbi hz6 hm40; exact absurd hm40 (by omega)
            | succ n40 ih40 =>
              intro n W40 hfW40 n0 n1 hP hbi hz6 hm40
              have hRW40 := hRS.fr hfW40
              have hnW40 := hRW40.n
              have enW40 : W40 3 16 2 = S 3 16 2 := hfW40 3 16 2 (by unfold tC; omega)
              refine kw_iload_n hC dX7_order_40 rfl 2 rfl ?_
              refine kw_bipush hC dX7_order_41 rfl (by decide) ?_
              refine kw_icmp_gt (tgt := 134) hC dX7_order_43 rfl (by decide) (by omega) (by omega) ⟨fun c43 => ?_, fun c43 => ?_⟩
              · refine kw_bipush hC dX7_order_134 rfl (by decide) ?_
                exact hR9.1 rfl _ _ _ _ dX7_order_136 (by first | (exfalso; omega) | exact ⟨_, rfl, hRW40, tC_tXw hfW40, by unfold fOrder; rw [if_neg (by omega), cSl_tC hfW40]⟩ | exact ⟨_, rfl, hRW40, tC_tXw hfW40, by have h9 := hps; unfold fOrder; rw [if_pos (by omega), cSl_tC hfW40]; exact Prod.ext (h9.1 (ordI_none (ordI_n hI (hti (hq9.resolve_right (fun z => by omega)).2)) (by omega))) rfl⟩ | exact ⟨_, rfl, hRW40, tC_tXw hfW40, by have h9 := hI9; unfold fOrder; rw [if_pos (by omega), cSl_tC hfW40]; exact Prod.ext ((hps.2 _ h9).1 (hzz9.mp (by omega))) rfl⟩ | exact ⟨_, rfl, hRW40, tC_tXw hfW40, by have h9 := ordP_e hP (by omega); unfold fOrder; rw [if_pos (by omega), cSl_tC hfW40]; exact Prod.ext h9 rfl⟩)
              · have hps := ordP_s hP (by omega) (by omega)
                refine kw_iconst hC dX7_order_46 rfl ?_
                refine kw_istore_n (lv' := [(3, _), (0, _), (1, _), (2, _)]) hC dX7_order_47 rfl (by decide) rfl ?_
                refine kw_iconst hC dX7_order_48 rfl ?_
                refine kw_istore (lv' := [(4, _), (3, _), (0, _), (1, _), (2, _)]) hC dX7_order_49 rfl (by decide) rfl ?_
                have hL51 : ∀ (n51 : Nat) (i : Int) (z : Int) (W51 : wSt), Fr tC S W51 → (0 ≤ i) → (i ≤ W51 3 16 2) → (i ≤ 6) → (0 ≤ z) → (z ≤ i) → (ordI (kM S) (kn S) (cSl S a) (kIm S W40) i.toNat = some (kIm S W51)) → (z = 0 ↔ ∀ k, k < i.toNat → ∀ j, j < kn S → kIm S W51 k j = ownV k j) → (∀ k : Int, 0 ≤ k → k < S 3 16 2 → bdd (S 3 16 2) (W51 24 k)) → (∀ k j : Int, 0 ≤ k → k < S 3 16 2 → S 3 16 2 ≤ j → j < 6 → W51 24 k j = 0) → 6 - i < (n51 : Int) → Wk E g 5 W51 51 [(0, vr g 0 0), (1, vi a), (2, vi n), (3, vi z), (4, vi i)] [] := by
                  intro n51
                  induction n51 with
                  | zero => intro i z W51 hfW51 i0 i1 i6 z0 z1 hI hzz hbi hz6 hm51; exact absurd hm51 (by omega)
                  | succ n51 ih51 =>
                    intro i z W51 hfW51 i0 i1 i6 z0 z1 hI hzz hbi hz6 hm51
                    have hRW51 := hRS.fr hfW51
                    have hnW51 := hRW51.n
                    have enW51 : W51 3 16 2 = S 3 16 2 := hfW51 3 16 2 (by unfold tC; omega)
                    refine kw_iload hC dX7_order_51 rfl 4 rfl ?_
                    refine kw_aload_n hC dX7_order_53 rfl 0 rfl ?_
                    refine kg_0_0 hC w7 f12 dX7_order_54 rfl (by decide) (by decide) ?_
                    refine kg_3_2 hC w3 f83 dX7_order_57 rfl (by omega) (by omega) ?_
                    refine kw_icmp_ge (tgt := 122) hC dX7_order_60 rfl (by decide) (by omega) (by omega) ⟨fun c60 => ?_, fun c60 => ?_⟩
                    · have hin : i.toNat = kn S := by omega
                      have hI9 := hI
                      have hzz9 := hzz
                      rw [hin] at hI9 hzz9
                      refine kw_iload_n hC dX7_order_122 rfl 3 rfl ?_
                      refine kw_if_ne (tgt := 128) hC dX7_order_123 rfl (by decide) (by omega) ⟨fun c123 => ?_, fun c123 => ?_⟩
                      · refine kw_iinc (lv' := [(2, _), (0, _), (1, _), (3, _), (4, _)]) hC dX7_order_128 rfl 2 rfl (by decide) rfl ?_
                        refine kw_goto (tgt := 40) hC dX7_order_131 rfl (by decide) ?_
                        refine kw_lv [1, 2, 0] rfl ?_
                        exact ih40 (n + 1) W51 hfW51 (by omega) (by omega) ((hps.2 _ hI9).2 (fun q => by have := hzz9.mpr q; omega)) hbi hz6 (by omega)
                      · refine kw_iload_n hC dX7_order_126 rfl 2 rfl ?_
                        exact hR9.1 rfl _ _ _ _ dX7_order_127 (by first | (exfalso; omega) | exact ⟨_, rfl, hRW51, tC_tXw hfW51, by unfold fOrder; rw [if_neg (by omega), cSl_tC hfW51]⟩ | exact ⟨_, rfl, hRW51, tC_tXw hfW51, by have h9 := hps; unfold fOrder; rw [if_pos (by omega), cSl_tC hfW51]; exact Prod.ext (h9.1 (ordI_none (ordI_n hI (hti (hq9.resolve_right (fun z => by omega)).2)) (by omega))) rfl⟩ | exact ⟨_, rfl, hRW51, tC_tXw hfW51, by have h9 := hI9; unfold fOrder; rw [if_pos (by omega), cSl_tC hfW51]; exact Prod.ext ((hps.2 _ h9).1 (hzz9.mp (by omega))) rfl⟩ | exact ⟨_, rfl, hRW51, tC_tXw hfW51, by have h9 := ordP_e hP (by omega); unfold fOrder; rw [if_pos (by omega), cSl_tC hfW51]; exact Prod.ext h9 rfl⟩)
                    · refine kw_aload_n hC dX7_order_63 rfl 0 rfl ?_
                      refine kg_0_0 hC w7 f12 dX7_order_64 rfl (by decide) (by decide) ?_
                      refine kw_aload_n hC dX7_order_67 rfl 0 rfl ?_
                      refine kg_0_2 hC w7 f25 dX7_order_68 rfl (by decide) (by decide) ?_
                      refine kw_iload_n hC dX7_order_71 rfl 1 rfl ?_
                      refine ka_20 hC dX7_order_72 rfl (by decide) (by decide) (by omega) (by omega) ?_
                      refine kw_aload_n hC dX7_order_73 rfl 0 rfl ?_
                      refine kg_0_2 hC w7 f25 dX7_order_74 rfl (by decide) (by decide) ?_
                      refine kw_iload_n hC dX7_order_77 rfl 1 rfl ?_
                      refine ka_20 hC dX7_order_78 rfl (by decide) (by decide) (by omega) (by omega) ?_
                      refine kg_1_1 hC w6 f131 dX7_order_79 rfl (by omega) (by omega) ?_
                      refine kw_chi (z' := S 1 a 1) (hfW51 1 a 1 (by unfold tC; omega)) ?_
                      have hws : WV (W51 2 a) (S 1 a 1) (W51 3 16 2) := hwa.eq (fun j _ _ => hfW51 2 a j (by unfold tC; omega)) rfl (by omega)
                      have hbd : bdd (W51 3 16 2) (W51 24 i) := by rw [enW51]; exact hbi i i0 (by omega)
                      have hV9 : kIm S W40 i.toNat = vC (kn S) (W51 24 i) := by rw [← ordI_ge hI _ (by omega)]; unfold kIm; rw [imG_at (by omega), Int.toNat_of_nonneg i0]
                      refine kw_aload_n hC dX7_order_82 rfl 0 rfl ?_
                      refine kg_0_11 hC w7 f75 dX7_order_83 rfl (by decide) (by decide) ?_
                      refine kw_iload hC dX7_order_86 rfl 4 rfl ?_
                      refine ka_23 hC dX7_order_88 rfl (by decide) (by decide) (by omega) (by omega) ?_
                      refine kw_callV hC (f_X3_turnBy hD (c := 24) (w := i) (fun _ => rfl) (by omega) (show (_ : Int) < 6 by omega) (by decide) (fun j => by unfold tC; omega) (by omega) (by omega) (by omega) (by omega) hRW51 hws hbd) gX7_order_X3_turnBy ⟨_, rfl⟩ rfl (by omega) (show (16 : Int) < 17 by omega) rfl ⟨rfl, rfl⟩ 3 (by decide +kernel) ⟨by decide, by decide⟩ rfl rfl (Nat.le_of_ble_eq_true rfl) dX7_order_89 rfl (kd_i (fun r6 S6 hp6 => ?_))
                      obtain ⟨hg6, hp6⟩ := hp6
                      have hfS6 : Fr tC S S6 := hfW51.trans (hg6.mono (fun k i j h => by unfold fCl at h; unfold tC; omega))
                      have hRS6 := hRS.fr hfS6
                      have hnS6 := hRS6.n
                      have enS6 : S6 3 16 2 = S 3 16 2 := hfS6 3 16 2 (by unfold tC; omega)
                      obtain ⟨hzz9, hq6⟩ := hp6
                      rw [kM_eq (W := W51) (S := S) (hfW51 3 16 2 (by unfold tC; omega)) (fun j => hfW51 5 16 j (by unfold tC; omega)), kn_eq (W := W51) (S := S) (hfW51 3 16 2 (by unfold tC; omega))] at hq6
                      rw [show wl (W51 2 a) (S 1 a 1).toNat = cSl S a from (wl_eq rfl (fun j _ _ => hfW51 2 a j (by unfold tC; omega))).trans (cSl_at (by omega) (by omega)).symm, show (S 1 a 1).toNat = (cSl S a).length by omega] at hq6
                      have hq9 := hq6
                      have hti : ∀ {o}, tbd (kM S) (kn S) (cSl S a) (cSl S a).length (vC (kn S) (W51 24 i)) = o → tbd (kM S) (kn S) (cSl S a) (cSl S a).length (kIm S W40 i.toNat) = o := fun q => by rw [hV9]; exact q
                      have hot : ∀ k : Int, k ≠ i → ∀ j, S6 24 k j = W51 24 k j := fun k hk j => hg6 24 k j (by unfold fCl; omega)
                      refine kw_if_ne (tgt := 98) hC dX7_order_92 rfl (by decide) (by omega) ⟨fun c92 => ?_, fun c92 => ?_⟩
                      · have hqq := hq9.resolve_left (fun z => by omega)
                        have hI2 := ordI_s hI (hti hqq.2.1)
                        have hrI : kIm S S6 = fun k => if k = i.toNat then vC (kn S) (S6 24 i) else kIm S W51 k := imG_upd (by omega) (fun k hk hk2 j hj => hot (k : Int) (by omega) (j : Int)) (by rw [Int.toNat_of_nonneg i0])
                        have hI9 : ordI (kM S) (kn S) (cSl S a) (kIm S W40) (i + 1).toNat = some (kIm S S6) := by rw [show (i + 1).toNat = i.toNat + 1 by omega, hI2, hrI]
                        have hri : kIm S S6 i.toNat = vC (kn S) (S6 24 i) := by rw [hrI]; exact if_pos rfl
                        have hzs := mv_st hzz (P' := fun k => ∀ j, j < kn S → kIm S S6 k j = ownV k j) (fun k hk => by show _ ↔ ∀ j, j < kn S → kIm S S6 k j = ownV k j; rw [show kIm S S6 k = kIm S W51 k from by rw [hrI]; exact if_neg (by omega)])
                        have hbd5 : bdd (S 3 16 2) (S6 24 i) := by have h9 := hqq.2.2; rw [enW51] at h9; exact h9
                        have hbi9 : ∀ k : Int, 0 ≤ k → k < S 3 16 2 → bdd (S 3 16 2) (S6 24 k) := fun k k0 k1 => by rcases Decidable.em (k = i) with e | e; exact (by rw [e]; exact hbd5); exact (by rw [show S6 24 k = W51 24 k from funext fun j => hot k e j]; exact hbi k k0 k1)
                        have hz69 : ∀ k j : Int, 0 ≤ k → k < S 3 16 2 → S 3 16 2 ≤ j → j < 6 → S6 24 k j = 0 := fun k j k0 k1 j0 j1 => by rcases Decidable.em (k = i) with e | e; exact (by rw [e, hzz9 j (by omega) j1]; exact hz6 i j i0 (by omega) j0 j1); exact (by rw [hot k e j]; exact hz6 k j k0 k1 j0 j1)
                        refine kw_aload_n hC dX7_order_98 rfl 0 rfl ?_
                        refine kg_0_11 hC w7 f75 dX7_order_99 rfl (by decide) (by decide) ?_
                        refine kw_iload hC dX7_order_102 rfl 4 rfl ?_
                        refine ka_23 hC dX7_order_104 rfl (by decide) (by decide) (by omega) (by omega) ?_
                        refine kw_iload hC dX7_order_105 rfl 4 rfl ?_
                        refine kw_callS hC (d_X7_isOwn hD (c := 24) (w := i) (fun _ => rfl) (by omega) (show (_ : Int) < 6 by omega) (by omega) (by omega)) gX7_order_X7_isOwn rfl ⟨rfl, rfl⟩ 2 (by decide +kernel) ⟨by decide, by decide⟩ rfl rfl (Nat.le_of_ble_eq_true rfl) dX7_order_107 rfl (kd_ie ?_)
                        refine kw_ifne_b (tgt := 116) hC dX7_order_110 rfl (by decide) ⟨fun c110 => ?_, fun c110 => ?_⟩
                        · refine kw_iinc (lv' := [(4, _), (0, _), (1, _), (2, _), (3, _)]) hC dX7_order_116 rfl 4 rfl (by decide) rfl ?_
                          refine kw_goto (tgt := 51) hC dX7_order_119 rfl (by decide) ?_
                          refine kw_lv [1, 2, 3, 4, 0] rfl ?_
                          exact ih51 (i + 1) _ S6 hfS6 (by omega) (by omega) (by omega) (by omega) (by omega) hI9 (by rw [show (i + 1).toNat = i.toNat + 1 by omega]; first | exact ⟨fun q => by omega, fun q => absurd ((own6 hnS.2 (by omega) (fun j j0 j1 => hz69 i j i0 (by omega) j0 j1)).mpr ((own_C hnS i0 hbd5).mpr (by have h9 := (hzs.mpr q).2; rw [hri] at h9; exact h9))) c110⟩ | exact ⟨fun q => hzs.mp ⟨q, by rw [hri]; exact (own_C hnS i0 hbd5).mp ((own6 hnS.2 (by omega) (fun j j0 j1 => hz69 i j i0 (by omega) j0 j1)).mp c110)⟩, fun q => (hzs.mpr q).1⟩) hbi9 hz69 (by omega)
                        · refine kw_iinc (lv' := [(3, _), (0, _), (1, _), (2, _), (4, _)]) hC dX7_order_113 rfl 3 rfl (by decide) rfl ?_
                          refine kw_iinc (lv' := [(4, _), (3, _), (0, _), (1, _), (2, _)]) hC dX7_order_116 rfl 4 rfl (by decide) rfl ?_
                          refine kw_goto (tgt := 51) hC dX7_order_119 rfl (by decide) ?_
                          refine kw_lv [2, 3, 4, 1, 0] rfl ?_
                          exact ih51 (i + 1) _ S6 hfS6 (by omega) (by omega) (by omega) (by omega) (by omega) hI9 (by rw [show (i + 1).toNat = i.toNat + 1 by omega]; first | exact ⟨fun q => by omega, fun q => absurd ((own6 hnS.2 (by omega) (fun j j0 j1 => hz69 i j i0 (by omega) j0 j1)).mpr ((own_C hnS i0 hbd5).mpr (by have h9 := (hzs.mpr q).2; rw [hri] at h9; exact h9))) c110⟩ | exact ⟨fun q => hzs.mp ⟨q, by rw [hri]; exact (own_C hnS i0 hbd5).mp ((own6 hnS.2 (by omega) (fun j j0 j1 => hz69 i j i0 (by omega) j0 j1)).mp c110)⟩, fun q => (hzs.mpr q).1⟩) hbi9 hz69 (by omega)
                      · refine kw_bipush hC dX7_order_95 rfl (by decide) ?_
                        exact hR9.1 rfl _ _ _ _ dX7_order_97 (by first | (exfalso; omega) | exact ⟨_, rfl, hRS6, tC_tXw hfS6, by unfold fOrder; rw [if_neg (by omega), cSl_tC hfS6]⟩ | exact ⟨_, rfl, hRS6, tC_tXw hfS6, by have h9 := hps; unfold fOrder; rw [if_pos (by omega), cSl_tC hfS6]; exact Prod.ext (h9.1 (ordI_none (ordI_n hI (hti (hq9.resolve_right (fun z => by omega)).2)) (by omega))) rfl⟩ | exact ⟨_, rfl, hRS6, tC_tXw hfS6, by have h9 := hI9; unfold fOrder; rw [if_pos (by omega), cSl_tC hfS6]; exact Prod.ext ((hps.2 _ h9).1 (hzz9.mp (by omega))) rfl⟩ | exact ⟨_, rfl, hRS6, tC_tXw hfS6, by have h9 := ordP_e hP (by omega); unfold fOrder; rw [if_pos (by omega), cSl_tC hfS6]; exact Prod.ext h9 rfl⟩)
                refine kw_lv [2, 3, 4, 1, 0] rfl ?_
                exact hL51 7 0 _ W40 hfW40 (by omega) (by omega) (by omega) (by omega) (by omega) rfl ⟨fun _ k hk => by omega, fun _ => rfl⟩ hbi hz6 (by omega)
          refine kw_lv [1, 2, 0] rfl ?_
          exact hL40 31 1 W11 hfW11 (by omega) (by omega) (by rw [show kIm S W11 = ownV from imG_own (fun k hk j hj => by rw [hini _ _ (by omega) (by omega) (by omega) (by omega)]; rcases Decidable.em (j = k) with e | e; exact (by rw [if_pos e, if_pos (by omega)]); rw [if_neg e, if_neg (by omega)])]; rfl) (fun k k0 k1 j j0 j1 => by rw [hini k j k0 (by omega) j0 (by omega)]; split <;> omega) (fun k j k0 k1 j0 j1 => by rw [hini k j k0 (by omega) (by omega) j1, if_neg (by omega)]) (by omega)
        · refine kw_aload_n hC dX7_order_22 rfl 0 rfl ?_
          refine kg_0_11 hC w7 f75 dX7_order_23 rfl (by decide) (by decide) ?_
          refine kw_iload_n hC dX7_order_26 rfl 2 rfl ?_
          refine ka_23 hC dX7_order_27 rfl (by decide) (by decide) (by omega) (by omega) ?_
          refine kw_iload_n hC dX7_order_28 rfl 2 rfl ?_
          refine kw_callS hC (d_X7_setOwn hD (c := 24) (w := i) (fun _ => rfl) (by omega) (show (_ : Int) < 6 by omega) (by omega) (by omega)) gX7_order_X7_setOwn rfl ⟨rfl, rfl⟩ 2 (by decide +kernel) ⟨by decide, by decide⟩ rfl rfl (Nat.le_of_ble_eq_true rfl) dX7_order_29 rfl (kd_v (fun S9 hp9 => ?_))
          obtain ⟨hg9, hp9⟩ := hp9
          have hfS9 : Fr tC S S9 := hfW11.trans (hg9.mono (fun k i j h => by unfold fCl at h; unfold tC; omega))
          have hRS9 := hRS.fr hfS9
          have hnS9 := hRS9.n
          have enS9 : S9 3 16 2 = S 3 16 2 := hfS9 3 16 2 (by unfold tC; omega)
          have hpo := hp9
          refine kw_iinc (lv' := [(2, _), (0, _), (1, _)]) hC dX7_order_32 rfl 2 rfl (by decide) rfl ?_
          refine kw_goto (tgt := 11) hC dX7_order_35 rfl (by decide) ?_
          refine kw_lv [1, 2, 0] rfl ?_
          exact ih11 (i + 1) S9 hfS9 (by omega) (by omega) (by omega) (fun k j k0 k1 j0 j1 => by rcases Decidable.em (k = i) with e | e; exact (by rw [e]; exact hpo j j0 j1); exact (by rw [hg9 24 k j (by unfold fCl; omega)]; exact hini k j k0 (by omega) j0 j1)) (by omega)
    refine kw_lv [1, 2, 0] rfl ?_
    exact hL11 7 0 S hfS (by omega) (by omega) (by omega) (fun k j _ _ => by omega) (by omega)
  · refine kw_iconst hC dX7_order_7 rfl ?_
    exact hR9.1 rfl _ _ _ _ dX7_order_8 (by first | (exfalso; omega) | exact ⟨_, rfl, hRS, tC_tXw hfS, by unfold fOrder; rw [if_neg (by omega), cSl_tC hfS]⟩ | exact ⟨_, rfl, hRS, tC_tXw hfS, by have h9 := hps; unfold fOrder; rw [if_pos (by omega), cSl_tC hfS]; exact Prod.ext (h9.1 (ordI_none (ordI_n hI (hti (hq9.resolve_right (fun z => by omega)).2)) (by omega))) rfl⟩ | exact ⟨_, rfl, hRS, tC_tXw hfS, by have h9 := hI9; unfold fOrder; rw [if_pos (by omega), cSl_tC hfS]; exact Prod.ext ((hps.2 _ h9).1 (hzz9.mp (by omega))) rfl⟩ | exact ⟨_, rfl, hRS, tC_tXw hfS, by have h9 := ordP_e hP (by omega); unfold fOrder; rw [if_pos (by omega), cSl_tC hfS]; exact Prod.ext h9 rfl⟩)

set_option maxHeartbeats 4000000 in
set_option maxRecDepth 100000 in
theorem f_X7_below {g : wG} (hD : wD g) {S : wSt} {a b : Int} (ha : -2147483648 ≤ a ∧ a ≤ 2147483647) (hb : -2147483648 ≤ b ∧ b ≤ 2147483647) (hRS : CI S) (l : Launch) : Kt l yX7_below wsX7_below ({ frames := 4, cells := 0, slots := 0, locals := 96 } : Room) g S [vr g 0 0, vi a, vi b] (pI (fun r S' => CI S' ∧ Fr tXw S S' ∧ (fBelow (kM S) (kn S) a b (cSl S), cSl S) = (r, cSl S'))) := by
  refine Kt.of (cc := cX7_below) (nL := 5) (ret := (some .int)) (own := RX7) rfl hD (by decide) rfl (Nat.le_of_ble_eq_true rfl) ⟨rfl, rfl⟩ ?_
  intro E hC hR9
  have f25 : Cond.fieldLink RX7 25 "MirrorBench" "slots" "[LMirrorBench$Word;" ∈ wsX7_below := by decide +kernel
  have f40 : Cond.fieldLink RX7 40 "MirrorBench" "shortener" "LMirrorBench$Shortener;" ∈ wsX7_below := by decide +kernel
  have f59 : Cond.fieldLink RX7 59 "MirrorBench" "made" "LMirrorBench$Word;" ∈ wsX7_below := by decide +kernel
  have f63 : Cond.fieldLink RX7 63 "MirrorBench" "other" "LMirrorBench$Word;" ∈ wsX7_below := by decide +kernel
  have f131 : Cond.fieldLink RX7 131 "MirrorBench$Word" "length" "I" ∈ wsX7_below := by decide +kernel
  have f157 : Cond.fieldLink RX7 157 "MirrorBench$Word" "mirrors" "[I" ∈ wsX7_below := by decide +kernel
  have w6 : ∀ w ∈ wsX60, w ∈ wsX7_below := by decide +kernel
  have w7 : ∀ w ∈ wsX70, w ∈ wsX7_below := by decide +kernel
  show Wk E g 5 S 0 [(0, vr g 0 0), (1, vi a), (2, vi b)] []
  have hfS : Fr tC S S := Fr.rfl _ S
  have hRS := hRS.fr hfS
  have hnS := hRS.n
  have enS : S 3 16 2 = S 3 16 2 := hfS 3 16 2 (by unfold tC; omega)
  have hnS := hRS.n
  have hkn : (kn S : Int) = S 3 16 2 := by unfold kn; omega
  refine kw_iload_n hC dX7_below_0 rfl 1 rfl ?_
  refine kw_callS hC (d_X7_isSlot hD (by omega)) gX7_below_X7_isSlot rfl ⟨rfl, rfl⟩ 1 (by decide +kernel) ⟨by decide, by decide⟩ rfl rfl (Nat.le_of_ble_eq_true rfl) dX7_below_1 rfl (kd_ie ?_)
  refine kw_ifeq_b (tgt := 14) hC dX7_below_4 rfl (by decide) ⟨fun c4 => ?_, fun c4 => ?_⟩
  · refine kw_iconst hC dX7_below_14 rfl ?_
    exact hR9.1 rfl _ _ _ _ dX7_below_15 (by first | (exfalso; omega) | exact ⟨_, rfl, hRS, tC_tXw hfS, by unfold fBelow; rw [if_neg (by omega), cSl_tC hfS]⟩ | exact ⟨_, rfl, hRS, tC_tXw hfS, by have h9 := hbs.1 (by omega); unfold fBelow; rw [if_pos (by omega), cSl_tC hfS]; simp only [hsA, hsB, h9]⟩ | exact ⟨_, rfl, hRS, tC_tXw hfS, by have h9 := blw_e hB (by omega); unfold fBelow; rw [if_pos (by omega), cSl_tC hfS]; simp only [hsA, hsB, h9]; first | rw [if_pos (by omega)] | rw [if_neg (by omega)]⟩ | exact ⟨_, rfl, hRS, tC_tXw hfS, by have hA8 := hsA; have h9 := (hsb.resolve_right (fun z => by omega)).2; unfold fBelow; rw [if_pos (by omega), cSl_tC hfS]; simp only [hA8, h9]⟩ | exact ⟨_, rfl, hRS, tC_tXw hfS, by have h9 := (hsa.resolve_right (fun z => by omega)).2; unfold fBelow; rw [if_pos (by omega), cSl_tC hfS]; simp only [h9]⟩)
  · refine kw_iload_n hC dX7_below_7 rfl 2 rfl ?_
    refine kw_callS hC (d_X7_isSlot hD (by omega)) gX7_below_X7_isSlot rfl ⟨rfl, rfl⟩ 1 (by decide +kernel) ⟨by decide, by decide⟩ rfl rfl (Nat.le_of_ble_eq_true rfl) dX7_below_8 rfl (kd_ie ?_)
    refine kw_ifne_b (tgt := 16) hC dX7_below_11 rfl (by decide) ⟨fun c11 => ?_, fun c11 => ?_⟩
    · have hla := hRS.ln a (by omega) (by omega)
      have hlb := hRS.ln b (by omega) (by omega)
      have hwa := hRS.wv a (by omega) (by omega)
      have hwb := hRS.wv b (by omega) (by omega)
      have hLa := cSl_len hRS (a := a) (by omega) (by omega)
      have hLb := cSl_len hRS (a := b) (by omega) (by omega)
      refine kw_aload_n hC dX7_below_16 rfl 0 rfl ?_
      refine kg_0_4 hC w7 f40 dX7_below_17 rfl (by decide) (by decide) ?_
      refine kw_aload_n hC dX7_below_20 rfl 0 rfl ?_
      refine kg_0_2 hC w7 f25 dX7_below_21 rfl (by decide) (by decide) ?_
      refine kw_iload_n hC dX7_below_24 rfl 1 rfl ?_
      refine ka_20 hC dX7_below_25 rfl (by decide) (by decide) (by omega) (by omega) ?_
      refine kw_aload_n hC dX7_below_26 rfl 0 rfl ?_
      refine kg_0_7 hC w7 f59 dX7_below_27 rfl (by decide) (by decide) ?_
      refine kw_callV hC (f_X5_makeShort hD (by omega) (by omega) (by omega) (by omega) (by omega) hRS hwa (by omega) (by omega)) gX7_below_X5_makeShort ⟨_, rfl⟩ rfl (by decide) (by decide) rfl ⟨rfl, rfl⟩ 2 (by decide +kernel) ⟨by decide, by decide⟩ rfl rfl (Nat.le_of_ble_eq_true rfl) dX7_below_30 rfl (kd_i (fun r3 S3 hp3 => ?_))
      obtain ⟨hg3, hp3⟩ := hp3
      have hfS3 : Fr tC S S3 := hfS.trans (hg3.mono (fun k i j h => by unfold fMs at h; unfold tC; omega))
      have hRS3 := hRS.fr hfS3
      have hnS3 := hRS3.n
      have enS3 : S3 3 16 2 = S 3 16 2 := hfS3 3 16 2 (by unfold tC; omega)
      obtain ⟨⟨l03, l13⟩, hr3, hq3⟩ := hp3
      rw [kM_eq (W := S) (S := S) (hfS 3 16 2 (by unfold tC; omega)) (fun j => hfS 5 16 j (by unfold tC; omega)), kn_eq (W := S) (S := S) (hfS 3 16 2 (by unfold tC; omega))] at hq3
      rw [show kP S a = cSl S a from (kP_eq (hfS 1 a 1 (by unfold tC; omega)) (fun j => hfS 2 a j (by unfold tC; omega))).trans (cSl_at (by omega) (by omega)).symm] at hq3
      have hsa := hq3
      have hv8 : WV (S3 2 8) (S3 1 8 1) (S3 3 16 2) := hr3.eq (fun _ _ _ => rfl) rfl (by omega)
      refine kw_if_eq (tgt := 56) hC dX7_below_33 rfl (by decide) (by omega) ⟨fun c33 => ?_, fun c33 => ?_⟩
      · refine kw_bipush hC dX7_below_56 rfl (by decide) ?_
        exact hR9.1 rfl _ _ _ _ dX7_below_58 (by first | (exfalso; omega) | exact ⟨_, rfl, hRS3, tC_tXw hfS3, by unfold fBelow; rw [if_neg (by omega), cSl_tC hfS3]⟩ | exact ⟨_, rfl, hRS3, tC_tXw hfS3, by have h9 := hbs.1 (by omega); unfold fBelow; rw [if_pos (by omega), cSl_tC hfS3]; simp only [hsA, hsB, h9]⟩ | exact ⟨_, rfl, hRS3, tC_tXw hfS3, by have h9 := blw_e hB (by omega); unfold fBelow; rw [if_pos (by omega), cSl_tC hfS3]; simp only [hsA, hsB, h9]; first | rw [if_pos (by omega)] | rw [if_neg (by omega)]⟩ | exact ⟨_, rfl, hRS3, tC_tXw hfS3, by have hA8 := hsA; have h9 := (hsb.resolve_right (fun z => by omega)).2; unfold fBelow; rw [if_pos (by omega), cSl_tC hfS3]; simp only [hA8, h9]⟩ | exact ⟨_, rfl, hRS3, tC_tXw hfS3, by have h9 := (hsa.resolve_right (fun z => by omega)).2; unfold fBelow; rw [if_pos (by omega), cSl_tC hfS3]; simp only [h9]⟩)
      · have hs9 := hsa.resolve_left (fun z => by omega)
        obtain ⟨AA, hAA⟩ : ∃ q, q = kP S3 8 := ⟨_, rfl⟩
        have hsA : shoP (kM S) (kn S) [] (cSl S a) = some AA := by rw [hs9.2, hAA]
        have eb3 : S3 1 b 1 = S 1 b 1 := hfS3 1 b 1 (by unfold tC; omega)
        have hwc : WV (S3 2 b) (S3 1 b 1) (S3 3 16 2) := hwb.fr (T := tC) hfS3 (by unfold tC; omega) (fun j => by unfold tC; omega) (by omega)
        refine kw_aload_n hC dX7_below_36 rfl 0 rfl ?_
        refine kg_0_4 hC w7 f40 dX7_below_37 rfl (by decide) (by decide) ?_
        refine kw_aload_n hC dX7_below_40 rfl 0 rfl ?_
        refine kg_0_2 hC w7 f25 dX7_below_41 rfl (by decide) (by decide) ?_
        refine kw_iload_n hC dX7_below_44 rfl 2 rfl ?_
        refine ka_20 hC dX7_below_45 rfl (by decide) (by decide) (by omega) (by omega) ?_
        refine kw_aload_n hC dX7_below_46 rfl 0 rfl ?_
        refine kg_0_8 hC w7 f63 dX7_below_47 rfl (by decide) (by decide) ?_
        refine kw_callV hC (f_X5_makeShort hD (by omega) (by omega) (by omega) (by omega) (by omega) hRS3 hwc (by omega) (by omega)) gX7_below_X5_makeShort ⟨_, rfl⟩ rfl (by decide) (by decide) rfl ⟨rfl, rfl⟩ 2 (by decide +kernel) ⟨by decide, by decide⟩ rfl rfl (Nat.le_of_ble_eq_true rfl) dX7_below_50 rfl (kd_i (fun r5 S5 hp5 => ?_))
        obtain ⟨hg5, hp5⟩ := hp5
        have hfS5 : Fr tC S S5 := hfS3.trans (hg5.mono (fun k i j h => by unfold fMs at h; unfold tC; omega))
        have hRS5 := hRS.fr hfS5
        have hnS5 := hRS5.n
        have enS5 : S5 3 16 2 = S 3 16 2 := hfS5 3 16 2 (by unfold tC; omega)
        obtain ⟨⟨l05, l15⟩, hr5, hq5⟩ := hp5
        rw [kM_eq (W := S3) (S := S) (hfS3 3 16 2 (by unfold tC; omega)) (fun j => hfS3 5 16 j (by unfold tC; omega)), kn_eq (W := S3) (S := S) (hfS3 3 16 2 (by unfold tC; omega))] at hq5
        rw [show kP S3 b = cSl S b from (kP_eq (hfS3 1 b 1 (by unfold tC; omega)) (fun j => hfS3 2 b j (by unfold tC; omega))).trans (cSl_at (by omega) (by omega)).symm] at hq5
        have hsb := hq5
        have hv9 : WV (S5 2 9) (S5 1 9 1) (S5 3 16 2) := hr5.eq (fun _ _ _ => rfl) rfl (by omega)
        have e85 : S5 1 8 1 = S3 1 8 1 := hg5 1 8 1 (by unfold fMs; omega)
        have eV : kP S5 8 = AA := (kP_eq e85 (fun j => hg5 2 8 j (by unfold fMs; omega))).trans hAA.symm
        replace hv8 : WV (S5 2 8) (S5 1 8 1) (S5 3 16 2) := hv8.fr hg5 (by unfold fMs; omega) (fun j => by unfold fMs; omega) (by omega)
        refine kw_if_ne (tgt := 59) hC dX7_below_53 rfl (by decide) (by omega) ⟨fun c53 => ?_, fun c53 => ?_⟩
        · have hs8 := hsb.resolve_left (fun z => by omega)
          obtain ⟨BB, hBB⟩ : ∃ q, q = kP S5 9 := ⟨_, rfl⟩
          have hsB : shoP (kM S) (kn S) [] (cSl S b) = some BB := by rw [hs8.2, hBB]
          have hBl : (BB.length : Int) = S5 1 9 1 := by rw [hBB]; exact kP_len (by omega)
          refine kw_aload_n hC dX7_below_59 rfl 0 rfl ?_
          refine kg_0_8 hC w7 f63 dX7_below_60 rfl (by decide) (by decide) ?_
          refine kg_1_1 hC w6 f131 dX7_below_63 rfl (by omega) (by omega) ?_
          refine kw_iconst hC dX7_below_66 rfl ?_
          refine kw_isub hC dX7_below_67 rfl ?_
          refine kw_istore_n (lv' := [(3, _), (0, _), (1, _), (2, _)]) hC dX7_below_68 rfl (by decide) rfl ?_
          have hL69 : ∀ (n69 : Nat) (x : Int) (W69 : wSt), Fr tC S W69 → (-1 ≤ x) → (x < W69 1 9 1) → (W69 1 9 1 ≤ 100) → (0 ≤ W69 1 8 1) → (W69 1 8 1 ≤ 100) → (WV (W69 2 8) (W69 1 8 1) (W69 3 16 2)) → (WV (W69 2 9) (W69 1 9 1) (W69 3 16 2)) → (kP W69 9 = BB) → (blw (kM S) (kn S) BB (x + 1).toNat (kP W69 8) = blw (kM S) (kn S) BB BB.length AA) → x + 1 < (n69 : Int) → Wk E g 5 W69 69 [(0, vr g 0 0), (1, vi a), (2, vi b), (3, vi x)] [] := by
            intro n69
            induction n69 with
            | zero => intro x W69 hfW69 x0 x1 x2 l0 l1 hv8 hv9 eW hB hm69; exact absurd hm69 (by omega)
            | succ n69 ih69 =>
              intro x W69 hfW69 x0 x1 x2 l0 l1 hv8 hv9 eW hB hm69
              have hRW69 := hRS.fr hfW69
              have hnW69 := hRW69.n
              have enW69 : W69 3 16 2 = S 3 16 2 := hfW69 3 16 2 (by unfold tC; omega)
              refine kw_iload_n hC dX7_below_69 rfl 3 rfl ?_
              refine kw_if_lt (tgt := 126) hC dX7_below_70 rfl (by decide) (by omega) ⟨fun c70 => ?_, fun c70 => ?_⟩
              · have hlr9 := kP_len (S := W69) (p := 8) (by omega)
                refine kw_aload_n hC dX7_below_126 rfl 0 rfl ?_
                refine kg_0_7 hC w7 f59 dX7_below_127 rfl (by decide) (by decide) ?_
                refine kg_1_1 hC w6 f131 dX7_below_130 rfl (by omega) (by omega) ?_
                refine kw_if_ne (tgt := 140) hC dX7_below_133 rfl (by decide) (by omega) ⟨fun c133 => ?_, fun c133 => ?_⟩
                · refine kw_iconst hC dX7_below_140 rfl ?_
                  exact hR9.1 rfl _ _ _ _ dX7_below_141 (by first | (exfalso; omega) | exact ⟨_, rfl, hRW69, tC_tXw hfW69, by unfold fBelow; rw [if_neg (by omega), cSl_tC hfW69]⟩ | exact ⟨_, rfl, hRW69, tC_tXw hfW69, by have h9 := hbs.1 (by omega); unfold fBelow; rw [if_pos (by omega), cSl_tC hfW69]; simp only [hsA, hsB, h9]⟩ | exact ⟨_, rfl, hRW69, tC_tXw hfW69, by have h9 := blw_e hB (by omega); unfold fBelow; rw [if_pos (by omega), cSl_tC hfW69]; simp only [hsA, hsB, h9]; first | rw [if_pos (by omega)] | rw [if_neg (by omega)]⟩ | exact ⟨_, rfl, hRW69, tC_tXw hfW69, by have hA8 := hsA; have h9 := (hsb.resolve_right (fun z => by omega)).2; unfold fBelow; rw [if_pos (by omega), cSl_tC hfW69]; simp only [hA8, h9]⟩ | exact ⟨_, rfl, hRW69, tC_tXw hfW69, by have h9 := (hsa.resolve_right (fun z => by omega)).2; unfold fBelow; rw [if_pos (by omega), cSl_tC hfW69]; simp only [h9]⟩)
                · refine kw_iconst hC dX7_below_136 rfl ?_
                  refine kw_goto (tgt := 141) hC dX7_below_137 rfl (by decide) ?_
                  exact hR9.1 rfl _ _ _ _ dX7_below_141 (by first | (exfalso; omega) | exact ⟨_, rfl, hRW69, tC_tXw hfW69, by unfold fBelow; rw [if_neg (by omega), cSl_tC hfW69]⟩ | exact ⟨_, rfl, hRW69, tC_tXw hfW69, by have h9 := hbs.1 (by omega); unfold fBelow; rw [if_pos (by omega), cSl_tC hfW69]; simp only [hsA, hsB, h9]⟩ | exact ⟨_, rfl, hRW69, tC_tXw hfW69, by have h9 := blw_e hB (by omega); unfold fBelow; rw [if_pos (by omega), cSl_tC hfW69]; simp only [hsA, hsB, h9]; first | rw [if_pos (by omega)] | rw [if_neg (by omega)]⟩ | exact ⟨_, rfl, hRW69, tC_tXw hfW69, by have hA8 := hsA; have h9 := (hsb.resolve_right (fun z => by omega)).2; unfold fBelow; rw [if_pos (by omega), cSl_tC hfW69]; simp only [hA8, h9]⟩ | exact ⟨_, rfl, hRW69, tC_tXw hfW69, by have h9 := (hsa.resolve_right (fun z => by omega)).2; unfold fBelow; rw [if_pos (by omega), cSl_tC hfW69]; simp only [h9]⟩)
              · refine kw_aload_n hC dX7_below_73 rfl 0 rfl ?_
                refine kg_0_4 hC w7 f40 dX7_below_74 rfl (by decide) (by decide) ?_
                refine kw_aload_n hC dX7_below_77 rfl 0 rfl ?_
                refine kg_0_7 hC w7 f59 dX7_below_78 rfl (by decide) (by decide) ?_
                refine kw_aload_n hC dX7_below_81 rfl 0 rfl ?_
                refine kg_0_8 hC w7 f63 dX7_below_82 rfl (by decide) (by decide) ?_
                refine kg_1_0 hC w6 f157 dX7_below_85 rfl (by omega) (by omega) ?_
                refine kw_iload_n hC dX7_below_88 rfl 3 rfl ?_
                refine ka_2 hC dX7_below_89 rfl (by omega) (by omega) (by omega) (by omega) ?_
                have hlx := hv9 x (by omega) (by omega)
                have hbs := blw_s (M := kM S) (n := kn S) (f := W69 2 9) (m := W69 1 9 1) (x := x) (R := kP W69 8) (T := blw (kM S) (kn S) BB BB.length AA) (by rw [show wl (W69 2 9) (W69 1 9 1).toNat = BB from eW]; exact hB) (by omega) (by omega)
                rw [show wl (W69 2 9) (W69 1 9 1).toNat = BB from eW] at hbs
                refine kw_callV hC (f_X5_goesBehind hD (by omega) (by omega) (by omega) (by omega) hRW69 hv8 (by omega) (by omega)) gX7_below_X5_goesBehind ⟨_, rfl⟩ rfl (by decide) (by decide) rfl ⟨rfl, rfl⟩ 2 (by decide +kernel) ⟨by decide, by decide⟩ rfl rfl (Nat.le_of_ble_eq_true rfl) dX7_below_90 rfl (kd_i (fun r9 S9 hp9 => ?_))
                obtain ⟨hg9, hp9⟩ := hp9
                have hfS9 : Fr tC S S9 := hfW69.trans (hg9.mono (fun k i j h => by unfold fA at h; unfold tC; omega))
                have hRS9 := hRS.fr hfS9
                have hnS9 := hRS9.n
                have enS9 : S9 3 16 2 = S 3 16 2 := hfS9 3 16 2 (by unfold tC; omega)
                have hq9 := hp9
                rw [kM_eq (W := W69) (S := S) (hfW69 3 16 2 (by unfold tC; omega)) (fun j => hfW69 5 16 j (by unfold tC; omega)), kn_eq (W := W69) (S := S) (hfW69 3 16 2 (by unfold tC; omega))] at hq9
                have hk9 := hq9
                have hbr := bh_r (kM S) (kn S) (kP W69 8) (W69 2 9 x).toNat
                have hlr := kP_len (S := W69) (p := 8) (by omega)
                have e89 : S9 1 8 1 = W69 1 8 1 := hg9 1 8 1 (by unfold fA; omega)
                have eR9 : kP S9 8 = kP W69 8 := kP_eq e89 (fun j => hg9 2 8 j (by unfold fA; omega))
                replace hv8 : WV (S9 2 8) (S9 1 8 1) (S9 3 16 2) := hv8.fr hg9 (by unfold fA; omega) (fun j => by unfold fA; omega) (by omega)
                have e99 : S9 1 9 1 = W69 1 9 1 := hg9 1 9 1 (by unfold fA; omega)
                have eK9 : kP S9 9 = kP W69 9 := kP_eq (hg9 1 9 1 (by unfold fA; omega)) (fun j => hg9 2 9 j (by unfold fA; omega))
                replace eW : kP S9 9 = BB := eK9.trans eW
                replace hv9 : WV (S9 2 9) (S9 1 9 1) (S9 3 16 2) := hv9.fr hg9 (by unfold fA; omega) (fun j => by unfold fA; omega) (by omega)
                refine kw_istore (lv' := [(4, _), (0, _), (1, _), (2, _), (3, _)]) hC dX7_below_93 rfl (by decide) rfl ?_
                refine kw_iload hC dX7_below_95 rfl 0 rfl ?_
                refine kw_bipush hC dX7_below_97 rfl (by decide) ?_
                refine kw_icmp_ne (tgt := 105) hC dX7_below_99 rfl (by decide) (by omega) (by omega) ⟨fun c99 => ?_, fun c99 => ?_⟩
                · refine kw_iload hC dX7_below_105 rfl 0 rfl ?_
                  refine kw_iconst hC dX7_below_107 rfl ?_
                  refine kw_icmp_eq (tgt := 120) hC dX7_below_108 rfl (by decide) (by omega) (by omega) ⟨fun c108 => ?_, fun c108 => ?_⟩
                  · refine kw_iinc (lv' := [(3, _), (4, _), (0, _), (1, _), (2, _)]) hC dX7_below_120 rfl 4 rfl (by decide) rfl ?_
                    refine kw_goto (tgt := 69) hC dX7_below_123 rfl (by decide) ?_
                    refine kw_lv [2, 3, 4, 0] rfl ?_
                    exact ih69 (x + -1) S9 hfS9 (by omega) (by omega) (by omega) (by omega) (by omega) hv8 hv9 eW (by rw [show x + -1 = x - 1 by omega]; first | (rw [eR1]; exact hbs.2.2 (by omega)) | (rw [eR9]; exact hbs.2.1 (by omega))) (by omega)
                  · refine kw_aload_n hC dX7_below_111 rfl 1 rfl ?_
                    refine kg_0_7 hC w7 f59 dX7_below_112 rfl (by decide) (by decide) ?_
                    refine kw_iload hC dX7_below_115 rfl 0 rfl ?_
                    refine kw_callV hC (d_X6_removeAt hD (by omega) (by omega) (by omega) (by omega) (by omega)) gX7_below_X6_removeAt ⟨_, rfl⟩ rfl (by omega) (show (_ : Int) < 12 by omega) rfl ⟨rfl, rfl⟩ 1 (by decide +kernel) ⟨by decide, by decide⟩ rfl rfl (Nat.le_of_ble_eq_true rfl) dX7_below_117 rfl (kd_v (fun S12 hp12 => ?_))
                    obtain ⟨hg12, hp12⟩ := hp12
                    have hfS12 : Fr tC S S12 := hfS9.trans (hg12.mono (fun k i j h => by unfold fWd at h; unfold tC; omega))
                    have hRS12 := hRS.fr hfS12
                    have hnS12 := hRS12.n
                    have enS12 : S12 3 16 2 = S 3 16 2 := hfS12 3 16 2 (by unfold tC; omega)
                    obtain ⟨y1, y2, y3⟩ := hp12
                    have eR1 : kP S12 8 = (kP S9 8).eraseIdx _ := (wl_eq y1 (fun _ _ _ => rfl)).trans (wl_del (by omega) (by omega) y2 y3)
                    rw [eR9, hk9] at eR1
                    replace hv8 : WV (S12 2 8) (S12 1 8 1) (S12 3 16 2) := (y1 ▸ WV.del hv8 y2 y3 (by omega)).eq (fun _ _ _ => rfl) rfl (by omega)
                    have e912 : S12 1 9 1 = S9 1 9 1 := hg12 1 9 1 (by unfold fWd; omega)
                    have eK9 : kP S12 9 = kP S9 9 := kP_eq (hg12 1 9 1 (by unfold fWd; omega)) (fun j => hg12 2 9 j (by unfold fWd; omega))
                    replace eW : kP S12 9 = BB := eK9.trans eW
                    replace hv9 : WV (S12 2 9) (S12 1 9 1) (S12 3 16 2) := hv9.fr hg12 (by unfold fWd; omega) (fun j => by unfold fWd; omega) (by omega)
                    refine kw_iinc (lv' := [(3, _), (4, _), (0, _), (1, _), (2, _)]) hC dX7_below_120 rfl 4 rfl (by decide) rfl ?_
                    refine kw_goto (tgt := 69) hC dX7_below_123 rfl (by decide) ?_
                    refine kw_lv [2, 3, 4, 0] rfl ?_
                    exact ih69 (x + -1) S12 hfS12 (by omega) (by omega) (by omega) (by omega) (by omega) hv8 hv9 eW (by rw [show x + -1 = x - 1 by omega]; first | (rw [eR1]; exact hbs.2.2 (by omega)) | (rw [eR9]; exact hbs.2.1 (by omega))) (by omega)
                · refine kw_bipush hC dX7_below_102 rfl (by decide) ?_
                  exact hR9.1 rfl _ _ _ _ dX7_below_104 (by first | (exfalso; omega) | exact ⟨_, rfl, hRS9, tC_tXw hfS9, by unfold fBelow; rw [if_neg (by omega), cSl_tC hfS9]⟩ | exact ⟨_, rfl, hRS9, tC_tXw hfS9, by have h9 := hbs.1 (by omega); unfold fBelow; rw [if_pos (by omega), cSl_tC hfS9]; simp only [hsA, hsB, h9]⟩ | exact ⟨_, rfl, hRS9, tC_tXw hfS9, by have h9 := blw_e hB (by omega); unfold fBelow; rw [if_pos (by omega), cSl_tC hfS9]; simp only [hsA, hsB, h9]; first | rw [if_pos (by omega)] | rw [if_neg (by omega)]⟩ | exact ⟨_, rfl, hRS9, tC_tXw hfS9, by have hA8 := hsA; have h9 := (hsb.resolve_right (fun z => by omega)).2; unfold fBelow; rw [if_pos (by omega), cSl_tC hfS9]; simp only [hA8, h9]⟩ | exact ⟨_, rfl, hRS9, tC_tXw hfS9, by have h9 := (hsa.resolve_right (fun z => by omega)).2; unfold fBelow; rw [if_pos (by omega), cSl_tC hfS9]; simp only [h9]⟩)
          refine kw_lv [1, 2, 3, 0] rfl ?_
          exact hL69 101 _ S5 hfS5 (by omega) (by omega) (by omega) (by omega) (by omega) hv8 hv9 hBB.symm (by rw [eV]; congr 1; omega) (by omega)
        · refine kw_bipush hC dX7_below_56 rfl (by decide) ?_
          exact hR9.1 rfl _ _ _ _ dX7_below_58 (by first | (exfalso; omega) | exact ⟨_, rfl, hRS5, tC_tXw hfS5, by unfold fBelow; rw [if_neg (by omega), cSl_tC hfS5]⟩ | exact ⟨_, rfl, hRS5, tC_tXw hfS5, by have h9 := hbs.1 (by omega); unfold fBelow; rw [if_pos (by omega), cSl_tC hfS5]; simp only [hsA, hsB, h9]⟩ | exact ⟨_, rfl, hRS5, tC_tXw hfS5, by have h9 := blw_e hB (by omega); unfold fBelow; rw [if_pos (by omega), cSl_tC hfS5]; simp only [hsA, hsB, h9]; first | rw [if_pos (by omega)] | rw [if_neg (by omega)]⟩ | exact ⟨_, rfl, hRS5, tC_tXw hfS5, by have hA8 := hsA; have h9 := (hsb.resolve_right (fun z => by omega)).2; unfold fBelow; rw [if_pos (by omega), cSl_tC hfS5]; simp only [hA8, h9]⟩ | exact ⟨_, rfl, hRS5, tC_tXw hfS5, by have h9 := (hsa.resolve_right (fun z => by omega)).2; unfold fBelow; rw [if_pos (by omega), cSl_tC hfS5]; simp only [h9]⟩)
    · refine kw_iconst hC dX7_below_14 rfl ?_
      exact hR9.1 rfl _ _ _ _ dX7_below_15 (by first | (exfalso; omega) | exact ⟨_, rfl, hRS, tC_tXw hfS, by unfold fBelow; rw [if_neg (by omega), cSl_tC hfS]⟩ | exact ⟨_, rfl, hRS, tC_tXw hfS, by have h9 := hbs.1 (by omega); unfold fBelow; rw [if_pos (by omega), cSl_tC hfS]; simp only [hsA, hsB, h9]⟩ | exact ⟨_, rfl, hRS, tC_tXw hfS, by have h9 := blw_e hB (by omega); unfold fBelow; rw [if_pos (by omega), cSl_tC hfS]; simp only [hsA, hsB, h9]; first | rw [if_pos (by omega)] | rw [if_neg (by omega)]⟩ | exact ⟨_, rfl, hRS, tC_tXw hfS, by have hA8 := hsA; have h9 := (hsb.resolve_right (fun z => by omega)).2; unfold fBelow; rw [if_pos (by omega), cSl_tC hfS]; simp only [hA8, h9]⟩ | exact ⟨_, rfl, hRS, tC_tXw hfS, by have h9 := (hsa.resolve_right (fun z => by omega)).2; unfold fBelow; rw [if_pos (by omega), cSl_tC hfS]; simp only [h9]⟩)

set_option maxHeartbeats 4000000 in
set_option maxRecDepth 100000 in
theorem f_X7_joinWay {g : wG} (hD : wD g) {S : wSt} {a b : Int} (a0 : 0 ≤ a) (a1 : a < 8) (b0 : 0 ≤ b) (b1 : b < 8) (hRS : CI S) (l : Launch) : Kt l yX7_joinWay wsX7_joinWay ({ frames := 2, cells := 0, slots := 0, locals := 47 } : Room) g S [vr g 0 0, vi a, vi b] (pI (fun r S' => Fr (fWd 10) S S' ∧ ((r = 0 ∧ ((cSl S a).length : Int) + (cSl S b).length > 100) ∨ (r = 1 ∧ ((cSl S a).length : Int) + (cSl S b).length ≤ 100 ∧ (0 ≤ S' 1 10 1 ∧ S' 1 10 1 ≤ 100) ∧ WV (S' 2 10) (S' 1 10 1) (S 3 16 2) ∧ kP S' 10 = (cSl S a).reverse ++ cSl S b)))) := by
  refine Kt.of (cc := cX7_joinWay) (nL := 3) (ret := (some .boolean)) (own := RX7) rfl hD (by decide) rfl (Nat.le_of_ble_eq_true rfl) ⟨rfl, rfl⟩ ?_
  intro E hC hR9
  have f25 : Cond.fieldLink RX7 25 "MirrorBench" "slots" "[LMirrorBench$Word;" ∈ wsX7_joinWay := by decide +kernel
  have f66 : Cond.fieldLink RX7 66 "MirrorBench" "joined" "LMirrorBench$Word;" ∈ wsX7_joinWay := by decide +kernel
  have f131 : Cond.fieldLink RX7 131 "MirrorBench$Word" "length" "I" ∈ wsX7_joinWay := by decide +kernel
  have w6 : ∀ w ∈ wsX60, w ∈ wsX7_joinWay := by decide +kernel
  have w7 : ∀ w ∈ wsX70, w ∈ wsX7_joinWay := by decide +kernel
  show Wk E g 3 S 0 [(0, vr g 0 0), (1, vi a), (2, vi b)] []
  have hfS : Fr (fWd 10) S S := Fr.rfl _ S
  have hRS : CI S := hRS.fr (hfS.mono (fun k i j h => by unfold fWd at h; unfold tC; omega))
  have hnS := hRS.n
  have enS : S 3 16 2 = S 3 16 2 := hfS 3 16 2 (by unfold fWd; omega)
  have hla := hRS.ln a (by omega) (by omega)
  have hlb := hRS.ln b (by omega) (by omega)
  have hwa := hRS.wv a (by omega) (by omega)
  have hwb := hRS.wv b (by omega) (by omega)
  have hLa := cSl_len hRS (a := a) (by omega) (by omega)
  have hLb := cSl_len hRS (a := b) (by omega) (by omega)
  refine kw_aload_n hC dX7_joinWay_0 rfl 0 rfl ?_
  refine kg_0_2 hC w7 f25 dX7_joinWay_1 rfl (by decide) (by decide) ?_
  refine kw_iload_n hC dX7_joinWay_4 rfl 1 rfl ?_
  refine ka_20 hC dX7_joinWay_5 rfl (by decide) (by decide) (by omega) (by omega) ?_
  refine kg_1_1 hC w6 f131 dX7_joinWay_6 rfl (by omega) (by omega) ?_
  refine kw_aload_n hC dX7_joinWay_9 rfl 0 rfl ?_
  refine kg_0_2 hC w7 f25 dX7_joinWay_10 rfl (by decide) (by decide) ?_
  refine kw_iload_n hC dX7_joinWay_13 rfl 2 rfl ?_
  refine ka_20 hC dX7_joinWay_14 rfl (by decide) (by decide) (by omega) (by omega) ?_
  refine kg_1_1 hC w6 f131 dX7_joinWay_15 rfl (by omega) (by omega) ?_
  refine kw_iadd hC dX7_joinWay_18 rfl ?_
  refine kw_bipush hC dX7_joinWay_19 rfl (by decide) ?_
  refine kw_icmp_le (tgt := 26) hC dX7_joinWay_21 rfl (by decide) (by omega) (by omega) ⟨fun c21 => ?_, fun c21 => ?_⟩
  · refine kw_aload_n hC dX7_joinWay_26 rfl 0 rfl ?_
    refine kg_0_9 hC w7 f66 dX7_joinWay_27 rfl (by decide) (by decide) ?_
    refine kw_aload_n hC dX7_joinWay_30 rfl 0 rfl ?_
    refine kg_0_2 hC w7 f25 dX7_joinWay_31 rfl (by decide) (by decide) ?_
    refine kw_iload_n hC dX7_joinWay_34 rfl 1 rfl ?_
    refine ka_20 hC dX7_joinWay_35 rfl (by decide) (by decide) (by omega) (by omega) ?_
    refine kw_callV hC (d_X6_takeInverted hD (by omega) (by omega) (by omega) (by omega) (by omega) (by omega) (by omega) ) gX7_joinWay_X6_takeInverted ⟨_, rfl⟩ rfl (by omega) (show (_ : Int) < 12 by omega) rfl ⟨rfl, rfl⟩ 1 (by decide +kernel) ⟨by decide, by decide⟩ rfl rfl (Nat.le_of_ble_eq_true rfl) dX7_joinWay_36 rfl (kd_v (fun S2 hp2 => ?_))
    obtain ⟨hg2, hp2⟩ := hp2
    have hfS2 : Fr (fWd 10) S S2 := hfS.trans (hg2.mono (fun k i j h => by unfold fWd at h; unfold fWd; omega))
    have hRS2 : CI S2 := hRS.fr (hfS2.mono (fun k i j h => by unfold fWd at h; unfold tC; omega))
    have hnS2 := hRS2.n
    have enS2 : S2 3 16 2 = S 3 16 2 := hfS2 3 16 2 (by unfold fWd; omega)
    obtain ⟨y1, y2⟩ := hp2
    have eW1 : kP S2 10 = (cSl S a).reverse := by rw [cSl_at (by omega) (by omega)]; unfold kP; rw [y1]; exact wl_rev y2
    have hv : WV (S2 2 10) (S2 1 10 1) (S 3 16 2) := fun j j0 j1 => by rw [y2 j j0 (by omega)]; exact hwa (S 1 a 1 - 1 - j) (by omega) (by omega)
    have eb : S2 1 b 1 = S 1 b 1 := hfS2 1 b 1 (by unfold fWd; omega)
    have eb2 : ∀ j, S2 2 b j = S 2 b j := fun j => hfS2 2 b j (by unfold fWd; omega)
    refine kw_aload_n hC dX7_joinWay_39 rfl 0 rfl ?_
    refine kg_0_9 hC w7 f66 dX7_joinWay_40 rfl (by decide) (by decide) ?_
    refine kw_aload_n hC dX7_joinWay_43 rfl 0 rfl ?_
    refine kg_0_2 hC w7 f25 dX7_joinWay_44 rfl (by decide) (by decide) ?_
    refine kw_iload_n hC dX7_joinWay_47 rfl 2 rfl ?_
    refine ka_20 hC dX7_joinWay_48 rfl (by decide) (by decide) (by omega) (by omega) ?_
    refine kw_callV hC (d_X6_append hD (by omega) (by omega) (by omega) (by omega) (by omega) (by omega) (by omega) ) gX7_joinWay_X6_append ⟨_, rfl⟩ rfl (by omega) (show (_ : Int) < 12 by omega) rfl ⟨rfl, rfl⟩ 1 (by decide +kernel) ⟨by decide, by decide⟩ rfl rfl (Nat.le_of_ble_eq_true rfl) dX7_joinWay_49 rfl (kd_v (fun S3 hp3 => ?_))
    obtain ⟨hg3, hp3⟩ := hp3
    have hfS3 : Fr (fWd 10) S S3 := hfS2.trans (hg3.mono (fun k i j h => by unfold fWd at h; unfold fWd; omega))
    have hRS3 : CI S3 := hRS.fr (hfS3.mono (fun k i j h => by unfold fWd at h; unfold tC; omega))
    have hnS3 := hRS3.n
    have enS3 : S3 3 16 2 = S 3 16 2 := hfS3 3 16 2 (by unfold fWd; omega)
    obtain ⟨z1, z2, z3⟩ := hp3
    have eW2 : kP S3 10 = (cSl S a).reverse ++ cSl S b := by rw [← eW1, cSl_at (a := b) (by omega) (by omega), show kP S b = kP S2 b from (kP_eq eb eb2).symm]; unfold kP; rw [z1]; exact wl_app (by omega) (by omega) z2 z3
    replace hv : WV (S3 2 10) (S3 1 10 1) (S 3 16 2) := fun j j0 j1 => by rcases Decidable.em (j < S2 1 10 1) with e | e; exact (by rw [z2 j j0 e]; exact hv j j0 e); exact (by have h5 := z3 (j - S2 1 10 1) (by omega) (by omega); rw [show S2 1 10 1 + (j - S2 1 10 1) = j by omega, eb2] at h5; rw [h5]; exact hwb (j - S2 1 10 1) (by omega) (by omega))
    refine kw_iconst hC dX7_joinWay_52 rfl ?_
    exact hR9.2.1 rfl _ _ _ _ dX7_joinWay_53 (by omega) ⟨_, rfl, hfS3, Or.inr ⟨rfl, by omega, ⟨by omega, by omega⟩, hv, eW2⟩⟩
  · refine kw_iconst hC dX7_joinWay_24 rfl ?_
    exact hR9.2.1 rfl _ _ _ _ dX7_joinWay_25 (by omega) ⟨_, rfl, hfS, Or.inl ⟨rfl, by omega⟩⟩

set_option maxHeartbeats 4000000 in
set_option maxRecDepth 100000 in
theorem f_X7_way {g : wG} (hD : wD g) {S : wSt} {a b c : Int} (ha : -2147483648 ≤ a ∧ a ≤ 2147483647) (hb : -2147483648 ≤ b ∧ b ≤ 2147483647) (hc : -2147483648 ≤ c ∧ c ≤ 2147483647) (hRS : CI S) (l : Launch) : Kt l yX7_way wsX7_way ({ frames := 6, cells := 0, slots := 0, locals := 143 } : Room) g S [vr g 0 0, vi a, vi b, vi c] (pI (fun r S' => CI S' ∧ Fr tXw S S' ∧ fWay (kM S) (kn S) a b c (cSl S) = (r, cSl S'))) := by
  refine Kt.of (cc := cX7_way) (nL := 4) (ret := (some .int)) (own := RX7) rfl hD (by decide) rfl (Nat.le_of_ble_eq_true rfl) ⟨rfl, rfl⟩ ?_
  intro E hC hR9
  have f40 : Cond.fieldLink RX7 40 "MirrorBench" "shortener" "LMirrorBench$Shortener;" ∈ wsX7_way := by decide +kernel
  have f59 : Cond.fieldLink RX7 59 "MirrorBench" "made" "LMirrorBench$Word;" ∈ wsX7_way := by decide +kernel
  have f66 : Cond.fieldLink RX7 66 "MirrorBench" "joined" "LMirrorBench$Word;" ∈ wsX7_way := by decide +kernel
  have w7 : ∀ w ∈ wsX70, w ∈ wsX7_way := by decide +kernel
  show Wk E g 4 S 0 [(0, vr g 0 0), (1, vi a), (2, vi b), (3, vi c)] []
  have hfS : Fr tC S S := Fr.rfl _ S
  have hRS := hRS.fr hfS
  have hnS := hRS.n
  have enS : S 3 16 2 = S 3 16 2 := hfS 3 16 2 (by unfold tC; omega)
  have hnS := hRS.n
  have hkn : (kn S : Int) = S 3 16 2 := by unfold kn; omega
  refine kw_iload_n hC dX7_way_0 rfl 1 rfl ?_
  refine kw_callS hC (d_X7_isSlot hD (by omega)) gX7_way_X7_isSlot rfl ⟨rfl, rfl⟩ 1 (by decide +kernel) ⟨by decide, by decide⟩ rfl rfl (Nat.le_of_ble_eq_true rfl) dX7_way_1 rfl (kd_ie ?_)
  refine kw_ifeq_b (tgt := 21) hC dX7_way_4 rfl (by decide) ⟨fun c4 => ?_, fun c4 => ?_⟩
  · refine kw_iconst hC dX7_way_21 rfl ?_
    exact hR9.1 rfl _ _ _ _ dX7_way_22 (by first | (exfalso; omega) | exact ⟨_, rfl, hRS, tC_tXw hfS, by unfold fWay; rw [if_neg (by omega), cSl_tC hfS]⟩ | exact ⟨_, rfl, hRS, tC_tXw hfS, by have h8 := eJ; have h9 := (hfj.resolve_right (fun z => by omega)).2; unfold fWay; rw [if_pos (by omega), if_neg (by omega), h9, cSl_tC hfS]; rfl⟩ | exact ⟨_, rfl, hp9.2.1, (tC_tXw hfS).trans (fWd_tXw hp9.2.2.1), by have h9 := hfj9.2.1; unfold fWay; rw [if_pos (by omega), if_neg (by omega), h9]; exact st_k (by omega) (by omega) (by omega) hp9 (cSl_tC hfS) rfl⟩ | exact ⟨_, rfl, hRS, tC_tXw hfS, by have h9 := (hqJ.resolve_right (fun z => by omega)).2; unfold fWay; rw [if_pos (by omega), if_pos h9, cSl_tC hfS]⟩)
  · refine kw_iload_n hC dX7_way_7 rfl 2 rfl ?_
    refine kw_callS hC (d_X7_isSlot hD (by omega)) gX7_way_X7_isSlot rfl ⟨rfl, rfl⟩ 1 (by decide +kernel) ⟨by decide, by decide⟩ rfl rfl (Nat.le_of_ble_eq_true rfl) dX7_way_8 rfl (kd_ie ?_)
    refine kw_ifeq_b (tgt := 21) hC dX7_way_11 rfl (by decide) ⟨fun c11 => ?_, fun c11 => ?_⟩
    · refine kw_iconst hC dX7_way_21 rfl ?_
      exact hR9.1 rfl _ _ _ _ dX7_way_22 (by first | (exfalso; omega) | exact ⟨_, rfl, hRS, tC_tXw hfS, by unfold fWay; rw [if_neg (by omega), cSl_tC hfS]⟩ | exact ⟨_, rfl, hRS, tC_tXw hfS, by have h8 := eJ; have h9 := (hfj.resolve_right (fun z => by omega)).2; unfold fWay; rw [if_pos (by omega), if_neg (by omega), h9, cSl_tC hfS]; rfl⟩ | exact ⟨_, rfl, hp9.2.1, (tC_tXw hfS).trans (fWd_tXw hp9.2.2.1), by have h9 := hfj9.2.1; unfold fWay; rw [if_pos (by omega), if_neg (by omega), h9]; exact st_k (by omega) (by omega) (by omega) hp9 (cSl_tC hfS) rfl⟩ | exact ⟨_, rfl, hRS, tC_tXw hfS, by have h9 := (hqJ.resolve_right (fun z => by omega)).2; unfold fWay; rw [if_pos (by omega), if_pos h9, cSl_tC hfS]⟩)
    · refine kw_iload_n hC dX7_way_14 rfl 3 rfl ?_
      refine kw_callS hC (d_X7_isSlot hD (by omega)) gX7_way_X7_isSlot rfl ⟨rfl, rfl⟩ 1 (by decide +kernel) ⟨by decide, by decide⟩ rfl rfl (Nat.le_of_ble_eq_true rfl) dX7_way_15 rfl (kd_ie ?_)
      refine kw_ifne_b (tgt := 23) hC dX7_way_18 rfl (by decide) ⟨fun c18 => ?_, fun c18 => ?_⟩
      · refine kw_aload_n hC dX7_way_23 rfl 0 rfl ?_
        refine kw_iload_n hC dX7_way_24 rfl 1 rfl ?_
        refine kw_iload_n hC dX7_way_25 rfl 2 rfl ?_
        refine kw_callV hC (f_X7_joinWay hD (by omega) (by omega) (by omega) (by omega) hRS) gX7_way_X7_joinWay ⟨_, rfl⟩ rfl (by decide) (by decide) rfl ⟨rfl, rfl⟩ 2 (by decide +kernel) ⟨by decide, by decide⟩ rfl rfl (Nat.le_of_ble_eq_true rfl) dX7_way_26 rfl (kd_i (fun r4 S4 hp4 => ?_))
        obtain ⟨hg4, hp4⟩ := hp4
        have hfS4 : Fr tC S S4 := hfS.trans (hg4.mono (fun k i j h => by unfold fWd at h; unfold tC; omega))
        have hRS4 := hRS.fr hfS4
        have hnS4 := hRS4.n
        have enS4 : S4 3 16 2 = S 3 16 2 := hfS4 3 16 2 (by unfold tC; omega)
        have hqJ := hp4
        refine kw_if_ne (tgt := 35) hC dX7_way_29 rfl (by decide) (by omega) ⟨fun c29 => ?_, fun c29 => ?_⟩
        · obtain ⟨-, hJl, ⟨lJ0, lJ1⟩, hvJ, eJ⟩ := hqJ.resolve_left (fun z => by omega)
          replace hvJ : WV (S4 2 10) (S4 1 10 1) (S4 3 16 2) := hvJ.eq (fun _ _ _ => rfl) rfl (by omega)
          refine kw_aload_n hC dX7_way_35 rfl 0 rfl ?_
          refine kg_0_4 hC w7 f40 dX7_way_36 rfl (by decide) (by decide) ?_
          refine kw_aload_n hC dX7_way_39 rfl 0 rfl ?_
          refine kg_0_9 hC w7 f66 dX7_way_40 rfl (by decide) (by decide) ?_
          refine kw_aload_n hC dX7_way_43 rfl 0 rfl ?_
          refine kg_0_7 hC w7 f59 dX7_way_44 rfl (by decide) (by decide) ?_
          refine kw_callV hC (f_X5_makeForm hD (by omega) (by omega) (by omega) (by omega) hRS4 hvJ (by omega) (by omega)) gX7_way_X5_makeForm ⟨_, rfl⟩ rfl (by decide) (by decide) rfl ⟨rfl, rfl⟩ 2 (by decide +kernel) ⟨by decide, by decide⟩ rfl rfl (Nat.le_of_ble_eq_true rfl) dX7_way_47 rfl (kd_i (fun r6 S6 hp6 => ?_))
          obtain ⟨hg6, hp6⟩ := hp6
          have hfS6 : Fr tC S S6 := hfS4.trans (hg6.mono (fun k i j h => by unfold fMd at h; unfold tC; omega))
          have hRS6 := hRS.fr hfS6
          have hnS6 := hRS6.n
          have enS6 : S6 3 16 2 = S 3 16 2 := hfS6 3 16 2 (by unfold tC; omega)
          have hq6 := hp6
          rw [kM_eq (W := S4) (S := S) (hfS4 3 16 2 (by unfold tC; omega)) (fun j => hfS4 5 16 j (by unfold tC; omega)), kn_eq (W := S4) (S := S) (hfS4 3 16 2 (by unfold tC; omega))] at hq6
          rw [eJ] at hq6
          have hfj := hq6
          refine kw_if_eq (tgt := 65) hC dX7_way_50 rfl (by decide) (by omega) ⟨fun c50 => ?_, fun c50 => ?_⟩
          · refine kw_bipush hC dX7_way_65 rfl (by decide) ?_
            exact hR9.1 rfl _ _ _ _ dX7_way_67 (by first | (exfalso; omega) | exact ⟨_, rfl, hRS6, tC_tXw hfS6, by unfold fWay; rw [if_neg (by omega), cSl_tC hfS6]⟩ | exact ⟨_, rfl, hRS6, tC_tXw hfS6, by have h8 := eJ; have h9 := (hfj.resolve_right (fun z => by omega)).2; unfold fWay; rw [if_pos (by omega), if_neg (by omega), h9, cSl_tC hfS6]; rfl⟩ | exact ⟨_, rfl, hp9.2.1, (tC_tXw hfS6).trans (fWd_tXw hp9.2.2.1), by have h9 := hfj9.2.1; unfold fWay; rw [if_pos (by omega), if_neg (by omega), h9]; exact st_k (by omega) (by omega) (by omega) hp9 (cSl_tC hfS6) rfl⟩ | exact ⟨_, rfl, hRS6, tC_tXw hfS6, by have h9 := (hqJ.resolve_right (fun z => by omega)).2; unfold fWay; rw [if_pos (by omega), if_pos h9, cSl_tC hfS6]⟩)
          · have hfj9 := hfj.resolve_left (fun z => by omega)
            obtain ⟨lX0, lX1⟩ := hfj9.2.2.1
            have hv8 : WV (S6 2 8) (S6 1 8 1) (S6 3 16 2) := hfj9.2.2.2.eq (fun _ _ _ => rfl) rfl (by omega)
            refine kw_aload_n hC dX7_way_53 rfl 0 rfl ?_
            refine kw_aload_n hC dX7_way_54 rfl 0 rfl ?_
            refine kg_0_7 hC w7 f59 dX7_way_55 rfl (by decide) (by decide) ?_
            refine kw_iload_n hC dX7_way_58 rfl 3 rfl ?_
            refine kw_callV hC (d_X7_store hD (by omega) (by omega) (by omega) (by omega) hRS6 hv8 (by omega) (by omega)) gX7_way_X7_store ⟨_, rfl⟩ rfl (by decide) (by decide) rfl ⟨rfl, rfl⟩ 2 (by decide +kernel) ⟨by decide, by decide⟩ rfl rfl (Nat.le_of_ble_eq_true rfl) dX7_way_59 rfl (kd_i (fun r9 Sz hp9 => ?_))
            refine kw_goto (tgt := 67) hC dX7_way_62 rfl (by decide) ?_
            exact hR9.1 rfl _ _ _ _ dX7_way_67 (by first | (exfalso; omega) | exact ⟨_, rfl, hRS6, tC_tXw hfS6, by unfold fWay; rw [if_neg (by omega), cSl_tC hfS6]⟩ | exact ⟨_, rfl, hRS6, tC_tXw hfS6, by have h8 := eJ; have h9 := (hfj.resolve_right (fun z => by omega)).2; unfold fWay; rw [if_pos (by omega), if_neg (by omega), h9, cSl_tC hfS6]; rfl⟩ | exact ⟨_, rfl, hp9.2.1, (tC_tXw hfS6).trans (fWd_tXw hp9.2.2.1), by have h9 := hfj9.2.1; unfold fWay; rw [if_pos (by omega), if_neg (by omega), h9]; exact st_k (by omega) (by omega) (by omega) hp9 (cSl_tC hfS6) rfl⟩ | exact ⟨_, rfl, hRS6, tC_tXw hfS6, by have h9 := (hqJ.resolve_right (fun z => by omega)).2; unfold fWay; rw [if_pos (by omega), if_pos h9, cSl_tC hfS6]⟩)
        · refine kw_bipush hC dX7_way_32 rfl (by decide) ?_
          exact hR9.1 rfl _ _ _ _ dX7_way_34 (by first | (exfalso; omega) | exact ⟨_, rfl, hRS4, tC_tXw hfS4, by unfold fWay; rw [if_neg (by omega), cSl_tC hfS4]⟩ | exact ⟨_, rfl, hRS4, tC_tXw hfS4, by have h8 := eJ; have h9 := (hfj.resolve_right (fun z => by omega)).2; unfold fWay; rw [if_pos (by omega), if_neg (by omega), h9, cSl_tC hfS4]; rfl⟩ | exact ⟨_, rfl, hp9.2.1, (tC_tXw hfS4).trans (fWd_tXw hp9.2.2.1), by have h9 := hfj9.2.1; unfold fWay; rw [if_pos (by omega), if_neg (by omega), h9]; exact st_k (by omega) (by omega) (by omega) hp9 (cSl_tC hfS4) rfl⟩ | exact ⟨_, rfl, hRS4, tC_tXw hfS4, by have h9 := (hqJ.resolve_right (fun z => by omega)).2; unfold fWay; rw [if_pos (by omega), if_pos h9, cSl_tC hfS4]⟩)
      · refine kw_iconst hC dX7_way_21 rfl ?_
        exact hR9.1 rfl _ _ _ _ dX7_way_22 (by first | (exfalso; omega) | exact ⟨_, rfl, hRS, tC_tXw hfS, by unfold fWay; rw [if_neg (by omega), cSl_tC hfS]⟩ | exact ⟨_, rfl, hRS, tC_tXw hfS, by have h8 := eJ; have h9 := (hfj.resolve_right (fun z => by omega)).2; unfold fWay; rw [if_pos (by omega), if_neg (by omega), h9, cSl_tC hfS]; rfl⟩ | exact ⟨_, rfl, hp9.2.1, (tC_tXw hfS).trans (fWd_tXw hp9.2.2.1), by have h9 := hfj9.2.1; unfold fWay; rw [if_pos (by omega), if_neg (by omega), h9]; exact st_k (by omega) (by omega) (by omega) hp9 (cSl_tC hfS) rfl⟩ | exact ⟨_, rfl, hRS, tC_tXw hfS, by have h9 := (hqJ.resolve_right (fun z => by omega)).2; unfold fWay; rw [if_pos (by omega), if_pos h9, cSl_tC hfS]⟩)

set_option maxHeartbeats 4000000 in
set_option maxRecDepth 100000 in
theorem f_X3_partBits {g : wG} (hD : wD g) {S : wSt} (hRS : CI S) (l : Launch) : Kt l yX3_partBits wsX3_partBits ({ frames := 0, cells := 0, slots := 0, locals := 0 } : Room) g S [vr g 3 16] (pI (fun r S' => r = pbt (kK S) (kn S) (kn S) 0 ∧ S' = S)) := by
  refine Kt.of (cc := cX3_partBits) (nL := 3) (ret := (some .int)) (own := RX3) rfl hD (by decide) rfl (Nat.le_of_ble_eq_true rfl) ⟨rfl, rfl⟩ ?_
  intro E hC hR9
  have f9 : Cond.fieldLink RX3 9 "MirrorBench$Mirrors" "kinds" "[I" ∈ wsX3_partBits := by decide +kernel
  have f18 : Cond.fieldLink RX3 18 "MirrorBench$Mirrors" "size" "I" ∈ wsX3_partBits := by decide +kernel
  have w3 : ∀ w ∈ wsX30, w ∈ wsX3_partBits := by decide +kernel
  show Wk E g 3 S 0 [(0, vr g 3 16)] []
  have hn := hRS.n
  have hkn : (kn S : Int) = S 3 16 2 := by unfold kn; omega
  refine kw_iconst hC dX3_partBits_0 rfl ?_
  refine kw_istore_n (lv' := [(1, _), (0, _)]) hC dX3_partBits_1 rfl (by decide) rfl ?_
  refine kw_iconst hC dX3_partBits_2 rfl ?_
  refine kw_istore_n (lv' := [(2, _), (1, _), (0, _)]) hC dX3_partBits_3 rfl (by decide) rfl ?_
  have hL4 : ∀ (n4 : Nat) (s : Int) (z : Int), (0 ≤ s) → (s ≤ S 3 16 2) → (pbt (kK S) (kn S) (kn S - s.toNat) z = pbt (kK S) (kn S) (kn S) 0) → S 3 16 2 - s < (n4 : Int) → Wk E g 3 S 4 [(0, vr g 3 16), (1, vi z), (2, vi s)] [] := by
    intro n4
    induction n4 with
    | zero => intro s z s0 s1 hpt9 hm4; exact absurd hm4 (by omega)
    | succ n4 ih4 =>
      intro s z s0 s1 hpt9 hm4
      refine kw_iload_n hC dX3_partBits_4 rfl 2 rfl ?_
      refine kw_aload_n hC dX3_partBits_5 rfl 0 rfl ?_
      refine kg_3_2 hC w3 f18 dX3_partBits_6 rfl (by omega) (by omega) ?_
      refine kw_icmp_ge (tgt := 34) hC dX3_partBits_9 rfl (by decide) (by omega) (by omega) ⟨fun c9 => ?_, fun c9 => ?_⟩
      · refine kw_iload_n hC dX3_partBits_34 rfl 1 rfl ?_
        exact hR9.1 rfl _ _ _ _ dX3_partBits_35 ⟨_, rfl, (pbt_e hpt9 (by omega)).symm, rfl⟩
      · refine kw_aload_n hC dX3_partBits_12 rfl 0 rfl ?_
        refine kg_3_0 hC w3 f9 dX3_partBits_13 rfl (by omega) (by omega) ?_
        refine kw_iload_n hC dX3_partBits_16 rfl 2 rfl ?_
        refine ka_4 hC dX3_partBits_17 rfl (by omega) (by omega) (by omega) (by omega) ?_
        have hkd := hRS.kd s (by omega) (by omega)
        have hps := pbt_s hpt9 s0 (by omega)
        have hrk : kK S s.toNat = S 4 16 s := kK_c s0 (by omega)
        rw [hrk] at hps
        refine kw_iconst hC dX3_partBits_18 rfl ?_
        refine kw_icmp_ge (tgt := 28) hC dX3_partBits_19 rfl (by decide) (by omega) (by omega) ⟨fun c19 => ?_, fun c19 => ?_⟩
        · refine kw_iinc (lv' := [(2, _), (0, _), (1, _)]) hC dX3_partBits_28 rfl 2 rfl (by decide) rfl ?_
          refine kw_goto (tgt := 4) hC dX3_partBits_31 rfl (by decide) ?_
          refine kw_lv [1, 2, 0] rfl ?_
          exact ih4 (s + 1) _ (by omega) (by omega) (by first | (rw [if_neg (by omega)] at hps; exact hps) | (rw [if_pos (by omega)] at hps; exact hps)) (by omega)
        · refine kw_iload_n hC dX3_partBits_22 rfl 1 rfl ?_
          refine kw_iconst hC dX3_partBits_23 rfl ?_
          refine kw_iload_n hC dX3_partBits_24 rfl 2 rfl ?_
          refine kw_ishlX hC dX3_partBits_25 rfl ?_
          refine kw_iorX hC dX3_partBits_26 rfl ?_
          refine kw_istore_n (lv' := [(1, _), (0, _), (2, _)]) hC dX3_partBits_27 rfl (by decide) rfl ?_
          refine kw_iinc (lv' := [(2, _), (1, _), (0, _)]) hC dX3_partBits_28 rfl 2 rfl (by decide) rfl ?_
          refine kw_goto (tgt := 4) hC dX3_partBits_31 rfl (by decide) ?_
          refine kw_lv [2, 1, 0] rfl ?_
          exact ih4 (s + 1) _ (by omega) (by omega) (by first | (rw [if_neg (by omega)] at hps; exact hps) | (rw [if_pos (by omega)] at hps; exact hps)) (by omega)
  refine kw_lv [2, 1, 0] rfl ?_
  exact hL4 7 0 _ (by omega) (by omega) rfl (by omega)

set_option maxHeartbeats 4000000 in
set_option maxRecDepth 100000 in
theorem f_X7_parts {g : wG} (hD : wD g) {S : wSt} {a b c d : Int} (ha : -2147483648 ≤ a ∧ a ≤ 2147483647) (hb : -2147483648 ≤ b ∧ b ≤ 2147483647) (hc : -2147483648 ≤ c ∧ c ≤ 2147483647) (hd : -2147483648 ≤ d ∧ d ≤ 2147483647) (hRS : CI S) (l : Launch) : Kt l yX7_parts wsX7_parts ({ frames := 6, cells := 0, slots := 0, locals := 143 } : Room) g S [vr g 0 0, vi a, vi b, vi c, vi d] (pI (fun r S' => CI S' ∧ Fr tXw S S' ∧ fParts (kM S) (kn S) (bJ (ptB (kK S) (kn S) b)) a c d (cSl S) = (r, cSl S'))) := by
  refine Kt.of (cc := cX7_parts) (nL := 6) (ret := (some .int)) (own := RX7) rfl hD (by decide) rfl (Nat.le_of_ble_eq_true rfl) ⟨rfl, rfl⟩ ?_
  intro E hC hR9
  have f12 : Cond.fieldLink RX7 12 "MirrorBench" "set" "LMirrorBench$Mirrors;" ∈ wsX7_parts := by decide +kernel
  have f25 : Cond.fieldLink RX7 25 "MirrorBench" "slots" "[LMirrorBench$Word;" ∈ wsX7_parts := by decide +kernel
  have f40 : Cond.fieldLink RX7 40 "MirrorBench" "shortener" "LMirrorBench$Shortener;" ∈ wsX7_parts := by decide +kernel
  have f59 : Cond.fieldLink RX7 59 "MirrorBench" "made" "LMirrorBench$Word;" ∈ wsX7_parts := by decide +kernel
  have f63 : Cond.fieldLink RX7 63 "MirrorBench" "other" "LMirrorBench$Word;" ∈ wsX7_parts := by decide +kernel
  have f66 : Cond.fieldLink RX7 66 "MirrorBench" "joined" "LMirrorBench$Word;" ∈ wsX7_parts := by decide +kernel
  have f131 : Cond.fieldLink RX7 131 "MirrorBench$Word" "length" "I" ∈ wsX7_parts := by decide +kernel
  have w6 : ∀ w ∈ wsX60, w ∈ wsX7_parts := by decide +kernel
  have w7 : ∀ w ∈ wsX70, w ∈ wsX7_parts := by decide +kernel
  show Wk E g 6 S 0 [(0, vr g 0 0), (1, vi a), (2, vi b), (3, vi c), (4, vi d)] []
  have hfS : Fr tC S S := Fr.rfl _ S
  have hRS := hRS.fr hfS
  have hnS := hRS.n
  have enS : S 3 16 2 = S 3 16 2 := hfS 3 16 2 (by unfold tC; omega)
  have hnS := hRS.n
  have hkn : (kn S : Int) = S 3 16 2 := by unfold kn; omega
  refine kw_iload_n hC dX7_parts_0 rfl 1 rfl ?_
  refine kw_callS hC (d_X7_isSlot hD (by omega)) gX7_parts_X7_isSlot rfl ⟨rfl, rfl⟩ 1 (by decide +kernel) ⟨by decide, by decide⟩ rfl rfl (Nat.le_of_ble_eq_true rfl) dX7_parts_1 rfl (kd_ie ?_)
  refine kw_ifeq_b (tgt := 28) hC dX7_parts_4 rfl (by decide) ⟨fun c4 => ?_, fun c4 => ?_⟩
  · refine kw_iconst hC dX7_parts_28 rfl ?_
    exact hR9.1 rfl _ _ _ _ dX7_parts_29 (by first | (exfalso; omega) | exact ⟨_, rfl, hRS, tC_tXw hfS, by unfold fParts; rw [if_neg (by omega), cSl_tC hfS]⟩ | exact ⟨_, rfl, hRS, tC_tXw hfS, by have h8 := hA9; have h9 := (hfb.resolve_right (fun z => by omega)).2; unfold fParts; rw [if_pos (by omega), ptP_n4 hsA hTT hA9 h9, cSl_tC hfS]⟩ | exact ⟨_, rfl, hRS, tC_tXw hfS, by have h8 := hTT; have h9 := (hfa.resolve_right (fun z => by omega)).2; unfold fParts; rw [if_pos (by omega), ptP_n3 hsA h8 h9, cSl_tC hfS]⟩ | exact ⟨_, rfl, hRS, tC_tXw hfS, by have h9 := (hT.resolve_right (fun z => by omega)).2; unfold fParts; rw [if_pos (by omega), ptP_n2 hsA h9, cSl_tC hfS]⟩ | exact ⟨_, rfl, hRS, tC_tXw hfS, by have h9 := (hsh.resolve_right (fun z => by omega)).2; unfold fParts; rw [if_pos (by omega), ptP_n1 h9, cSl_tC hfS]⟩ | exact ⟨_, rfl, hp9.2.1, hbW.trans ((tC_tXw hfS).trans (fWd_tXw hp9.2.2.1)), by have h9 := st_k (by omega) (by omega) (by omega) hp9 ((cSl_tC hfS).trans hB8) eK8; unfold fParts; rw [if_pos (by omega), ptP_s hsA hTT hA9 hB9]; exact h9⟩)
  · refine kw_iload_n hC dX7_parts_7 rfl 3 rfl ?_
    refine kw_callS hC (d_X7_isSlot hD (by omega)) gX7_parts_X7_isSlot rfl ⟨rfl, rfl⟩ 1 (by decide +kernel) ⟨by decide, by decide⟩ rfl rfl (Nat.le_of_ble_eq_true rfl) dX7_parts_8 rfl (kd_ie ?_)
    refine kw_ifeq_b (tgt := 28) hC dX7_parts_11 rfl (by decide) ⟨fun c11 => ?_, fun c11 => ?_⟩
    · refine kw_iconst hC dX7_parts_28 rfl ?_
      exact hR9.1 rfl _ _ _ _ dX7_parts_29 (by first | (exfalso; omega) | exact ⟨_, rfl, hRS, tC_tXw hfS, by unfold fParts; rw [if_neg (by omega), cSl_tC hfS]⟩ | exact ⟨_, rfl, hRS, tC_tXw hfS, by have h8 := hA9; have h9 := (hfb.resolve_right (fun z => by omega)).2; unfold fParts; rw [if_pos (by omega), ptP_n4 hsA hTT hA9 h9, cSl_tC hfS]⟩ | exact ⟨_, rfl, hRS, tC_tXw hfS, by have h8 := hTT; have h9 := (hfa.resolve_right (fun z => by omega)).2; unfold fParts; rw [if_pos (by omega), ptP_n3 hsA h8 h9, cSl_tC hfS]⟩ | exact ⟨_, rfl, hRS, tC_tXw hfS, by have h9 := (hT.resolve_right (fun z => by omega)).2; unfold fParts; rw [if_pos (by omega), ptP_n2 hsA h9, cSl_tC hfS]⟩ | exact ⟨_, rfl, hRS, tC_tXw hfS, by have h9 := (hsh.resolve_right (fun z => by omega)).2; unfold fParts; rw [if_pos (by omega), ptP_n1 h9, cSl_tC hfS]⟩ | exact ⟨_, rfl, hp9.2.1, hbW.trans ((tC_tXw hfS).trans (fWd_tXw hp9.2.2.1)), by have h9 := st_k (by omega) (by omega) (by omega) hp9 ((cSl_tC hfS).trans hB8) eK8; unfold fParts; rw [if_pos (by omega), ptP_s hsA hTT hA9 hB9]; exact h9⟩)
    · refine kw_iload hC dX7_parts_14 rfl 4 rfl ?_
      refine kw_callS hC (d_X7_isSlot hD (by omega)) gX7_parts_X7_isSlot rfl ⟨rfl, rfl⟩ 1 (by decide +kernel) ⟨by decide, by decide⟩ rfl rfl (Nat.le_of_ble_eq_true rfl) dX7_parts_16 rfl (kd_ie ?_)
      refine kw_ifeq_b (tgt := 28) hC dX7_parts_19 rfl (by decide) ⟨fun c19 => ?_, fun c19 => ?_⟩
      · refine kw_iconst hC dX7_parts_28 rfl ?_
        exact hR9.1 rfl _ _ _ _ dX7_parts_29 (by first | (exfalso; omega) | exact ⟨_, rfl, hRS, tC_tXw hfS, by unfold fParts; rw [if_neg (by omega), cSl_tC hfS]⟩ | exact ⟨_, rfl, hRS, tC_tXw hfS, by have h8 := hA9; have h9 := (hfb.resolve_right (fun z => by omega)).2; unfold fParts; rw [if_pos (by omega), ptP_n4 hsA hTT hA9 h9, cSl_tC hfS]⟩ | exact ⟨_, rfl, hRS, tC_tXw hfS, by have h8 := hTT; have h9 := (hfa.resolve_right (fun z => by omega)).2; unfold fParts; rw [if_pos (by omega), ptP_n3 hsA h8 h9, cSl_tC hfS]⟩ | exact ⟨_, rfl, hRS, tC_tXw hfS, by have h9 := (hT.resolve_right (fun z => by omega)).2; unfold fParts; rw [if_pos (by omega), ptP_n2 hsA h9, cSl_tC hfS]⟩ | exact ⟨_, rfl, hRS, tC_tXw hfS, by have h9 := (hsh.resolve_right (fun z => by omega)).2; unfold fParts; rw [if_pos (by omega), ptP_n1 h9, cSl_tC hfS]⟩ | exact ⟨_, rfl, hp9.2.1, hbW.trans ((tC_tXw hfS).trans (fWd_tXw hp9.2.2.1)), by have h9 := st_k (by omega) (by omega) (by omega) hp9 ((cSl_tC hfS).trans hB8) eK8; unfold fParts; rw [if_pos (by omega), ptP_s hsA hTT hA9 hB9]; exact h9⟩)
      · refine kw_iload_n hC dX7_parts_22 rfl 3 rfl ?_
        refine kw_iload hC dX7_parts_23 rfl 4 rfl ?_
        refine kw_icmp_ne (tgt := 30) hC dX7_parts_25 rfl (by decide) (by omega) (by omega) ⟨fun c25 => ?_, fun c25 => ?_⟩
        · have hla := hRS.ln a (by omega) (by omega)
          have hwa := hRS.wv a (by omega) (by omega)
          have hLa := cSl_len hRS (a := a) (by omega) (by omega)
          refine kw_iload_n hC dX7_parts_30 rfl 2 rfl ?_
          refine kw_iconst hC dX7_parts_31 rfl ?_
          refine kw_icmp_ne (tgt := 45) hC dX7_parts_32 rfl (by decide) (by omega) (by omega) ⟨fun c32 => ?_, fun c32 => ?_⟩
          · refine kw_iload_n hC dX7_parts_45 rfl 2 rfl ?_
            refine kw_chi (z' := ptB (kK S) (kn S) b) (by unfold ptB; first | rw [if_neg (by omega)] | (rw [if_pos (by omega)]; exact hpb)) ?_
            refine kw_istore (lv' := [(5, _), (0, _), (1, _), (2, _), (3, _), (4, _)]) hC dX7_parts_46 rfl (by decide) rfl ?_
            refine kw_aload_n hC dX7_parts_48 rfl 1 rfl ?_
            refine kg_0_4 hC w7 f40 dX7_parts_49 rfl (by decide) (by decide) ?_
            refine kw_aload_n hC dX7_parts_52 rfl 1 rfl ?_
            refine kg_0_2 hC w7 f25 dX7_parts_53 rfl (by decide) (by decide) ?_
            refine kw_iload_n hC dX7_parts_56 rfl 2 rfl ?_
            refine ka_20 hC dX7_parts_57 rfl (by decide) (by decide) (by omega) (by omega) ?_
            refine kw_aload_n hC dX7_parts_58 rfl 1 rfl ?_
            refine kg_0_8 hC w7 f63 dX7_parts_59 rfl (by decide) (by decide) ?_
            refine kw_callV hC (f_X5_makeShort hD (by omega) (by omega) (by omega) (by omega) (by omega) hRS hwa (by omega) (by omega)) gX7_parts_X5_makeShort ⟨_, rfl⟩ rfl (by decide) (by decide) rfl ⟨rfl, rfl⟩ 2 (by decide +kernel) ⟨by decide, by decide⟩ rfl rfl (Nat.le_of_ble_eq_true rfl) dX7_parts_62 rfl (kd_i (fun r6 S6 hp6 => ?_))
            obtain ⟨hg6, hp6⟩ := hp6
            have hfS6 : Fr tC S S6 := hfS.trans (hg6.mono (fun k i j h => by unfold fMs at h; unfold tC; omega))
            have hRS6 := hRS.fr hfS6
            have hnS6 := hRS6.n
            have enS6 : S6 3 16 2 = S 3 16 2 := hfS6 3 16 2 (by unfold tC; omega)
            obtain ⟨⟨l06, l16⟩, hr6, hq6⟩ := hp6
            rw [kM_eq (W := S) (S := S) (hfS 3 16 2 (by unfold tC; omega)) (fun j => hfS 5 16 j (by unfold tC; omega)), kn_eq (W := S) (S := S) (hfS 3 16 2 (by unfold tC; omega))] at hq6
            rw [show kP S a = cSl S a from (kP_eq (hfS 1 a 1 (by unfold tC; omega)) (fun j => hfS 2 a j (by unfold tC; omega))).trans (cSl_at (by omega) (by omega)).symm] at hq6
            have hsh := hq6
            have hv9 : WV (S6 2 9) (S6 1 9 1) (S6 3 16 2) := hr6.eq (fun _ _ _ => rfl) rfl (by omega)
            refine kw_if_ne (tgt := 71) hC dX7_parts_65 rfl (by decide) (by omega) ⟨fun c65 => ?_, fun c65 => ?_⟩
            · have hs9 := hsh.resolve_left (fun z => by omega)
              obtain ⟨RS, hRSx⟩ : ∃ q, q = kP S6 9 := ⟨_, rfl⟩
              have hsA : shoP (kM S) (kn S) [] (cSl S a) = some RS := by rw [hs9.2, hRSx]
              refine kw_aload_n hC dX7_parts_71 rfl 1 rfl ?_
              refine kg_0_9 hC w7 f66 dX7_parts_72 rfl (by decide) (by decide) ?_
              refine kw_iconst hC dX7_parts_75 rfl ?_
              refine kp_1_1 hC w6 f131 dX7_parts_76 rfl (by omega) (by omega) ?_
              refine kw_hv hfS6 (by unfold tC; omega) (fun S8 hfS8 hv8 ho8 => ?_)
              have hRS8 := hRS.fr hfS8
              have hnS8 := hRS8.n
              have enS8 : S8 3 16 2 = S 3 16 2 := hfS8 3 16 2 (by unfold tC; omega)
              have lJ := hv8
              have eR9 : kP S8 9 = RS := (kP_eq (ho8 1 9 1 (by omega)) (fun j => ho8 2 9 j (by omega))).trans hRSx.symm
              have eJ0 : kP S8 10 = [] := by unfold kP; rw [hv8]; rfl
              replace hv9 : WV (S8 2 9) (S8 1 9 1) (S8 3 16 2) := hv9.eq (fun j _ _ => ho8 2 9 j (by omega)) (ho8 1 9 1 (by omega)) (ho8 3 16 2 (by omega))
              have e98 : S8 1 9 1 = S6 1 9 1 := ho8 1 9 1 (by omega)
              refine kw_aload_n hC dX7_parts_79 rfl 1 rfl ?_
              refine kg_0_4 hC w7 f40 dX7_parts_80 rfl (by decide) (by decide) ?_
              refine kw_aload_n hC dX7_parts_83 rfl 1 rfl ?_
              refine kg_0_8 hC w7 f63 dX7_parts_84 rfl (by decide) (by decide) ?_
              refine kw_iload hC dX7_parts_87 rfl 0 rfl ?_
              refine kw_aload_n hC dX7_parts_89 rfl 1 rfl ?_
              refine kg_0_9 hC w7 f66 dX7_parts_90 rfl (by decide) (by decide) ?_
              refine kw_callV hC (f_X5_moveDowns hD (by omega) (by omega) (by omega) (by omega) (by omega) hRS8 hv9 (by omega) (fun j _ _ => by omega) (by omega) (by omega)) gX7_parts_X5_moveDowns ⟨_, rfl⟩ rfl (by decide) (by decide) rfl ⟨rfl, rfl⟩ 3 (by decide +kernel) ⟨by decide, by decide⟩ rfl rfl (Nat.le_of_ble_eq_true rfl) dX7_parts_93 rfl (kd_i (fun r9 S9 hp9 => ?_))
              obtain ⟨hg9, hp9⟩ := hp9
              have hfS9 : Fr tC S S9 := hfS8.trans (hg9.mono (fun k i j h => by unfold fMd at h; unfold tC; omega))
              have hRS9 := hRS.fr hfS9
              have hnS9 := hRS9.n
              have enS9 : S9 3 16 2 = S 3 16 2 := hfS9 3 16 2 (by unfold tC; omega)
              obtain ⟨⟨f0, f1, f2⟩, hrA, hrB, hq9⟩ := hp9
              rw [kM_eq (W := S8) (S := S) (hfS8 3 16 2 (by unfold tC; omega)) (fun j => hfS8 5 16 j (by unfold tC; omega)), kn_eq (W := S8) (S := S) (hfS8 3 16 2 (by unfold tC; omega))] at hq9
              rw [eR9, eJ0] at hq9
              have hT := hq9
              replace hv9 : WV (S9 2 9) (S9 1 9 1) (S9 3 16 2) := hrA.eq (fun _ _ _ => rfl) rfl (by omega)
              have hvJ : WV (S9 2 10) (S9 1 10 1) (S9 3 16 2) := hrB.eq (fun _ _ _ => rfl) rfl (by omega)
              refine kw_if_ne (tgt := 102) hC dX7_parts_96 rfl (by decide) (by omega) ⟨fun c96 => ?_, fun c96 => ?_⟩
              · have hTT := (hT.resolve_left (fun z => by omega)).2
                obtain ⟨RR, hRR⟩ : ∃ q, q = kP S9 9 := ⟨_, rfl⟩
                obtain ⟨VV, hVV⟩ : ∃ q, q = kP S9 10 := ⟨_, rfl⟩
                rw [← hRR, ← hVV] at hTT
                refine kw_aload_n hC dX7_parts_102 rfl 1 rfl ?_
                refine kg_0_4 hC w7 f40 dX7_parts_103 rfl (by decide) (by decide) ?_
                refine kw_aload_n hC dX7_parts_106 rfl 1 rfl ?_
                refine kg_0_9 hC w7 f66 dX7_parts_107 rfl (by decide) (by decide) ?_
                refine kw_aload_n hC dX7_parts_110 rfl 1 rfl ?_
                refine kg_0_7 hC w7 f59 dX7_parts_111 rfl (by decide) (by decide) ?_
                refine kw_callV hC (f_X5_makeForm hD (by omega) (by omega) (by omega) (by omega) hRS9 hvJ (by omega) (by omega)) gX7_parts_X5_makeForm ⟨_, rfl⟩ rfl (by decide) (by decide) rfl ⟨rfl, rfl⟩ 2 (by decide +kernel) ⟨by decide, by decide⟩ rfl rfl (Nat.le_of_ble_eq_true rfl) dX7_parts_114 rfl (kd_i (fun r11 S11 hp11 => ?_))
                obtain ⟨hg11, hp11⟩ := hp11
                have hfS11 : Fr tC S S11 := hfS9.trans (hg11.mono (fun k i j h => by unfold fMd at h; unfold tC; omega))
                have hRS11 := hRS.fr hfS11
                have hnS11 := hRS11.n
                have enS11 : S11 3 16 2 = S 3 16 2 := hfS11 3 16 2 (by unfold tC; omega)
                have hq11 := hp11
                rw [kM_eq (W := S9) (S := S) (hfS9 3 16 2 (by unfold tC; omega)) (fun j => hfS9 5 16 j (by unfold tC; omega)), kn_eq (W := S9) (S := S) (hfS9 3 16 2 (by unfold tC; omega))] at hq11
                rw [show kP S9 10 = VV from hVV.symm] at hq11
                have hfa := hq11
                have eR8 : kP S11 9 = RR := (kP_eq (hg11 1 9 1 (by unfold fMd; omega)) (fun j => hg11 2 9 j (by unfold fMd; omega))).trans hRR.symm
                replace hv9 : WV (S11 2 9) (S11 1 9 1) (S11 3 16 2) := hv9.fr hg11 (by unfold fMd; omega) (fun j => by unfold fMd; omega) (by omega)
                have e911 : S11 1 9 1 = S9 1 9 1 := hg11 1 9 1 (by unfold fMd; omega)
                refine kw_if_eq (tgt := 138) hC dX7_parts_117 rfl (by decide) (by omega) ⟨fun c117 => ?_, fun c117 => ?_⟩
                · refine kw_bipush hC dX7_parts_138 rfl (by decide) ?_
                  exact hR9.1 rfl _ _ _ _ dX7_parts_140 (by first | (exfalso; omega) | exact ⟨_, rfl, hRS11, tC_tXw hfS11, by unfold fParts; rw [if_neg (by omega), cSl_tC hfS11]⟩ | exact ⟨_, rfl, hRS11, tC_tXw hfS11, by have h8 := hA9; have h9 := (hfb.resolve_right (fun z => by omega)).2; unfold fParts; rw [if_pos (by omega), ptP_n4 hsA hTT hA9 h9, cSl_tC hfS11]⟩ | exact ⟨_, rfl, hRS11, tC_tXw hfS11, by have h8 := hTT; have h9 := (hfa.resolve_right (fun z => by omega)).2; unfold fParts; rw [if_pos (by omega), ptP_n3 hsA h8 h9, cSl_tC hfS11]⟩ | exact ⟨_, rfl, hRS11, tC_tXw hfS11, by have h9 := (hT.resolve_right (fun z => by omega)).2; unfold fParts; rw [if_pos (by omega), ptP_n2 hsA h9, cSl_tC hfS11]⟩ | exact ⟨_, rfl, hRS11, tC_tXw hfS11, by have h9 := (hsh.resolve_right (fun z => by omega)).2; unfold fParts; rw [if_pos (by omega), ptP_n1 h9, cSl_tC hfS11]⟩ | exact ⟨_, rfl, hp9.2.1, hbW.trans ((tC_tXw hfS11).trans (fWd_tXw hp9.2.2.1)), by have h9 := st_k (by omega) (by omega) (by omega) hp9 ((cSl_tC hfS11).trans hB8) eK8; unfold fParts; rw [if_pos (by omega), ptP_s hsA hTT hA9 hB9]; exact h9⟩)
                · have hfa9 := hfa.resolve_left (fun z => by omega)
                  obtain ⟨lX0, lX1⟩ := hfa9.2.2.1
                  have hv8 : WV (S11 2 8) (S11 1 8 1) (S11 3 16 2) := hfa9.2.2.2.eq (fun _ _ _ => rfl) rfl (by omega)
                  obtain ⟨AA, hAA⟩ : ∃ q, q = kP S11 8 := ⟨_, rfl⟩
                  have hA9 := hfa9.2.1
                  rw [← hAA] at hA9
                  refine kw_aload_n hC dX7_parts_120 rfl 1 rfl ?_
                  refine kg_0_4 hC w7 f40 dX7_parts_121 rfl (by decide) (by decide) ?_
                  refine kw_aload_n hC dX7_parts_124 rfl 1 rfl ?_
                  refine kg_0_8 hC w7 f63 dX7_parts_125 rfl (by decide) (by decide) ?_
                  refine kw_aload_n hC dX7_parts_128 rfl 1 rfl ?_
                  refine kg_0_9 hC w7 f66 dX7_parts_129 rfl (by decide) (by decide) ?_
                  refine kw_callV hC (f_X5_makeForm hD (by omega) (by omega) (by omega) (by omega) hRS11 hv9 (by omega) (by omega)) gX7_parts_X5_makeForm ⟨_, rfl⟩ rfl (by decide) (by decide) rfl ⟨rfl, rfl⟩ 2 (by decide +kernel) ⟨by decide, by decide⟩ rfl rfl (Nat.le_of_ble_eq_true rfl) dX7_parts_132 rfl (kd_i (fun r13 S13 hp13 => ?_))
                  obtain ⟨hg13, hp13⟩ := hp13
                  have hfS13 : Fr tC S S13 := hfS11.trans (hg13.mono (fun k i j h => by unfold fMd at h; unfold tC; omega))
                  have hRS13 := hRS.fr hfS13
                  have hnS13 := hRS13.n
                  have enS13 : S13 3 16 2 = S 3 16 2 := hfS13 3 16 2 (by unfold tC; omega)
                  have hq13 := hp13
                  rw [kM_eq (W := S11) (S := S) (hfS11 3 16 2 (by unfold tC; omega)) (fun j => hfS11 5 16 j (by unfold tC; omega)), kn_eq (W := S11) (S := S) (hfS11 3 16 2 (by unfold tC; omega))] at hq13
                  rw [show kP S11 9 = RR from eR8] at hq13
                  have hfb := hq13
                  have e813 : S13 1 8 1 = S11 1 8 1 := hg13 1 8 1 (by unfold fMd; omega)
                  have eK8 : kP S13 8 = AA := (kP_eq e813 (fun j => hg13 2 8 j (by unfold fMd; omega))).trans hAA.symm
                  replace hv8 : WV (S13 2 8) (S13 1 8 1) (S13 3 16 2) := hv8.fr hg13 (by unfold fMd; omega) (fun j => by unfold fMd; omega) (by omega)
                  refine kw_if_ne (tgt := 141) hC dX7_parts_135 rfl (by decide) (by omega) ⟨fun c135 => ?_, fun c135 => ?_⟩
                  · have hfb9 := hfb.resolve_left (fun z => by omega)
                    obtain ⟨lY0, lY1⟩ := hfb9.2.2.1
                    have hvY : WV (S13 2 10) (S13 1 10 1) (S13 3 16 2) := hfb9.2.2.2.eq (fun _ _ _ => rfl) rfl (by omega)
                    have hB9 := hfb9.2.1
                    refine kw_aload_n hC dX7_parts_141 rfl 1 rfl ?_
                    refine kw_aload_n hC dX7_parts_142 rfl 1 rfl ?_
                    refine kg_0_9 hC w7 f66 dX7_parts_143 rfl (by decide) (by decide) ?_
                    refine kw_iload hC dX7_parts_146 rfl 5 rfl ?_
                    refine kw_callV hC (d_X7_store hD (by omega) (by omega) (by omega) (by omega) hRS13 hvY (by omega) (by omega)) gX7_parts_X7_store ⟨_, rfl⟩ rfl (by decide) (by decide) rfl ⟨rfl, rfl⟩ 2 (by decide +kernel) ⟨by decide, by decide⟩ rfl rfl (Nat.le_of_ble_eq_true rfl) dX7_parts_148 rfl (kd_i (fun r15 S15 hp15 => ?_))
                    have hst9 : cSl S15 = upw (cSl S) d (kP S13 10) := by rw [cSl_st (by omega) (by omega) hp15.2.2.1, cSl_tC hfS13, show kP S15 d = kP S13 10 from wl_eq hp15.2.2.2.1 hp15.2.2.2.2]
                    obtain ⟨-, hRS15, hgV, -⟩ := hp15
                    have hB8 := hst9
                    have hbW : Fr tXw S S15 := (tC_tXw hfS13).trans (fWd_tXw hgV)
                    have hfS15 : Fr tC S15 S15 := Fr.rfl _ _
                    have hnS15 := hRS15.n
                    have eb0 : S15 3 16 2 = S13 3 16 2 := hgV 3 16 2 (by unfold fWd; omega)
                    have e8b : S15 1 8 1 = S13 1 8 1 := hgV 1 8 1 (by unfold fWd; omega)
                    replace eK8 : kP S15 8 = AA := (kP_eq e8b (fun j => hgV 2 8 j (by unfold fWd; omega))).trans eK8
                    replace hv8 : WV (S15 2 8) (S15 1 8 1) (S15 3 16 2) := hv8.fr hgV (by unfold fWd; omega) (fun j => by unfold fWd; omega) eb0
                    refine kw_pop hC dX7_parts_151 rfl rfl ?_
                    refine kw_aload_n hC dX7_parts_152 rfl 1 rfl ?_
                    refine kw_aload_n hC dX7_parts_153 rfl 1 rfl ?_
                    refine kg_0_7 hC w7 f59 dX7_parts_154 rfl (by decide) (by decide) ?_
                    refine kw_iload_n hC dX7_parts_157 rfl 4 rfl ?_
                    refine kw_callV hC (d_X7_store hD (by omega) (by omega) (by omega) (by omega) hRS15 hv8 (by omega) (by omega)) gX7_parts_X7_store ⟨_, rfl⟩ rfl (by decide) (by decide) rfl ⟨rfl, rfl⟩ 2 (by decide +kernel) ⟨by decide, by decide⟩ rfl rfl (Nat.le_of_ble_eq_true rfl) dX7_parts_158 rfl (kd_i (fun r9 Sz hp9 => ?_))
                    exact hR9.1 rfl _ _ _ _ dX7_parts_161 (by first | (exfalso; omega) | exact ⟨_, rfl, hRS15, tC_tXw hfS15, by unfold fParts; rw [if_neg (by omega), cSl_tC hfS15]⟩ | exact ⟨_, rfl, hRS15, tC_tXw hfS15, by have h8 := hA9; have h9 := (hfb.resolve_right (fun z => by omega)).2; unfold fParts; rw [if_pos (by omega), ptP_n4 hsA hTT hA9 h9, cSl_tC hfS15]⟩ | exact ⟨_, rfl, hRS15, tC_tXw hfS15, by have h8 := hTT; have h9 := (hfa.resolve_right (fun z => by omega)).2; unfold fParts; rw [if_pos (by omega), ptP_n3 hsA h8 h9, cSl_tC hfS15]⟩ | exact ⟨_, rfl, hRS15, tC_tXw hfS15, by have h9 := (hT.resolve_right (fun z => by omega)).2; unfold fParts; rw [if_pos (by omega), ptP_n2 hsA h9, cSl_tC hfS15]⟩ | exact ⟨_, rfl, hRS15, tC_tXw hfS15, by have h9 := (hsh.resolve_right (fun z => by omega)).2; unfold fParts; rw [if_pos (by omega), ptP_n1 h9, cSl_tC hfS15]⟩ | exact ⟨_, rfl, hp9.2.1, hbW.trans ((tC_tXw hfS15).trans (fWd_tXw hp9.2.2.1)), by have h9 := st_k (by omega) (by omega) (by omega) hp9 ((cSl_tC hfS15).trans hB8) eK8; unfold fParts; rw [if_pos (by omega), ptP_s hsA hTT hA9 hB9]; exact h9⟩)
                  · refine kw_bipush hC dX7_parts_138 rfl (by decide) ?_
                    exact hR9.1 rfl _ _ _ _ dX7_parts_140 (by first | (exfalso; omega) | exact ⟨_, rfl, hRS13, tC_tXw hfS13, by unfold fParts; rw [if_neg (by omega), cSl_tC hfS13]⟩ | exact ⟨_, rfl, hRS13, tC_tXw hfS13, by have h8 := hA9; have h9 := (hfb.resolve_right (fun z => by omega)).2; unfold fParts; rw [if_pos (by omega), ptP_n4 hsA hTT hA9 h9, cSl_tC hfS13]⟩ | exact ⟨_, rfl, hRS13, tC_tXw hfS13, by have h8 := hTT; have h9 := (hfa.resolve_right (fun z => by omega)).2; unfold fParts; rw [if_pos (by omega), ptP_n3 hsA h8 h9, cSl_tC hfS13]⟩ | exact ⟨_, rfl, hRS13, tC_tXw hfS13, by have h9 := (hT.resolve_right (fun z => by omega)).2; unfold fParts; rw [if_pos (by omega), ptP_n2 hsA h9, cSl_tC hfS13]⟩ | exact ⟨_, rfl, hRS13, tC_tXw hfS13, by have h9 := (hsh.resolve_right (fun z => by omega)).2; unfold fParts; rw [if_pos (by omega), ptP_n1 h9, cSl_tC hfS13]⟩ | exact ⟨_, rfl, hp9.2.1, hbW.trans ((tC_tXw hfS13).trans (fWd_tXw hp9.2.2.1)), by have h9 := st_k (by omega) (by omega) (by omega) hp9 ((cSl_tC hfS13).trans hB8) eK8; unfold fParts; rw [if_pos (by omega), ptP_s hsA hTT hA9 hB9]; exact h9⟩)
              · refine kw_bipush hC dX7_parts_99 rfl (by decide) ?_
                exact hR9.1 rfl _ _ _ _ dX7_parts_101 (by first | (exfalso; omega) | exact ⟨_, rfl, hRS9, tC_tXw hfS9, by unfold fParts; rw [if_neg (by omega), cSl_tC hfS9]⟩ | exact ⟨_, rfl, hRS9, tC_tXw hfS9, by have h8 := hA9; have h9 := (hfb.resolve_right (fun z => by omega)).2; unfold fParts; rw [if_pos (by omega), ptP_n4 hsA hTT hA9 h9, cSl_tC hfS9]⟩ | exact ⟨_, rfl, hRS9, tC_tXw hfS9, by have h8 := hTT; have h9 := (hfa.resolve_right (fun z => by omega)).2; unfold fParts; rw [if_pos (by omega), ptP_n3 hsA h8 h9, cSl_tC hfS9]⟩ | exact ⟨_, rfl, hRS9, tC_tXw hfS9, by have h9 := (hT.resolve_right (fun z => by omega)).2; unfold fParts; rw [if_pos (by omega), ptP_n2 hsA h9, cSl_tC hfS9]⟩ | exact ⟨_, rfl, hRS9, tC_tXw hfS9, by have h9 := (hsh.resolve_right (fun z => by omega)).2; unfold fParts; rw [if_pos (by omega), ptP_n1 h9, cSl_tC hfS9]⟩ | exact ⟨_, rfl, hp9.2.1, hbW.trans ((tC_tXw hfS9).trans (fWd_tXw hp9.2.2.1)), by have h9 := st_k (by omega) (by omega) (by omega) hp9 ((cSl_tC hfS9).trans hB8) eK8; unfold fParts; rw [if_pos (by omega), ptP_s hsA hTT hA9 hB9]; exact h9⟩)
            · refine kw_bipush hC dX7_parts_68 rfl (by decide) ?_
              exact hR9.1 rfl _ _ _ _ dX7_parts_70 (by first | (exfalso; omega) | exact ⟨_, rfl, hRS6, tC_tXw hfS6, by unfold fParts; rw [if_neg (by omega), cSl_tC hfS6]⟩ | exact ⟨_, rfl, hRS6, tC_tXw hfS6, by have h8 := hA9; have h9 := (hfb.resolve_right (fun z => by omega)).2; unfold fParts; rw [if_pos (by omega), ptP_n4 hsA hTT hA9 h9, cSl_tC hfS6]⟩ | exact ⟨_, rfl, hRS6, tC_tXw hfS6, by have h8 := hTT; have h9 := (hfa.resolve_right (fun z => by omega)).2; unfold fParts; rw [if_pos (by omega), ptP_n3 hsA h8 h9, cSl_tC hfS6]⟩ | exact ⟨_, rfl, hRS6, tC_tXw hfS6, by have h9 := (hT.resolve_right (fun z => by omega)).2; unfold fParts; rw [if_pos (by omega), ptP_n2 hsA h9, cSl_tC hfS6]⟩ | exact ⟨_, rfl, hRS6, tC_tXw hfS6, by have h9 := (hsh.resolve_right (fun z => by omega)).2; unfold fParts; rw [if_pos (by omega), ptP_n1 h9, cSl_tC hfS6]⟩ | exact ⟨_, rfl, hp9.2.1, hbW.trans ((tC_tXw hfS6).trans (fWd_tXw hp9.2.2.1)), by have h9 := st_k (by omega) (by omega) (by omega) hp9 ((cSl_tC hfS6).trans hB8) eK8; unfold fParts; rw [if_pos (by omega), ptP_s hsA hTT hA9 hB9]; exact h9⟩)
          · refine kw_aload_n hC dX7_parts_35 rfl 0 rfl ?_
            refine kg_0_0 hC w7 f12 dX7_parts_36 rfl (by decide) (by decide) ?_
            refine kw_callV hC (f_X3_partBits hD hRS) gX7_parts_X3_partBits ⟨_, rfl⟩ rfl (by omega) (show (16 : Int) < 17 by omega) rfl ⟨rfl, rfl⟩ 0 (by decide +kernel) ⟨by decide, by decide⟩ rfl rfl (Nat.le_of_ble_eq_true rfl) dX7_parts_39 rfl (kd_i (fun r9 S9 hp9 => ?_))
            rw [hp9.2]
            have hpb := hp9.1
            refine kw_goto (tgt := 46) hC dX7_parts_42 rfl (by decide) ?_
            refine kw_chi (z' := ptB (kK S) (kn S) b) (by unfold ptB; first | rw [if_neg (by omega)] | (rw [if_pos (by omega)]; exact hpb)) ?_
            refine kw_istore (lv' := [(5, _), (0, _), (1, _), (2, _), (3, _), (4, _)]) hC dX7_parts_46 rfl (by decide) rfl ?_
            refine kw_aload_n hC dX7_parts_48 rfl 1 rfl ?_
            refine kg_0_4 hC w7 f40 dX7_parts_49 rfl (by decide) (by decide) ?_
            refine kw_aload_n hC dX7_parts_52 rfl 1 rfl ?_
            refine kg_0_2 hC w7 f25 dX7_parts_53 rfl (by decide) (by decide) ?_
            refine kw_iload_n hC dX7_parts_56 rfl 2 rfl ?_
            refine ka_20 hC dX7_parts_57 rfl (by decide) (by decide) (by omega) (by omega) ?_
            refine kw_aload_n hC dX7_parts_58 rfl 1 rfl ?_
            refine kg_0_8 hC w7 f63 dX7_parts_59 rfl (by decide) (by decide) ?_
            refine kw_callV hC (f_X5_makeShort hD (by omega) (by omega) (by omega) (by omega) (by omega) hRS hwa (by omega) (by omega)) gX7_parts_X5_makeShort ⟨_, rfl⟩ rfl (by decide) (by decide) rfl ⟨rfl, rfl⟩ 2 (by decide +kernel) ⟨by decide, by decide⟩ rfl rfl (Nat.le_of_ble_eq_true rfl) dX7_parts_62 rfl (kd_i (fun r16 S16 hp16 => ?_))
            obtain ⟨hg16, hp16⟩ := hp16
            have hfS16 : Fr tC S S16 := hfS.trans (hg16.mono (fun k i j h => by unfold fMs at h; unfold tC; omega))
            have hRS16 := hRS.fr hfS16
            have hnS16 := hRS16.n
            have enS16 : S16 3 16 2 = S 3 16 2 := hfS16 3 16 2 (by unfold tC; omega)
            obtain ⟨⟨l016, l116⟩, hr16, hq16⟩ := hp16
            rw [kM_eq (W := S) (S := S) (hfS 3 16 2 (by unfold tC; omega)) (fun j => hfS 5 16 j (by unfold tC; omega)), kn_eq (W := S) (S := S) (hfS 3 16 2 (by unfold tC; omega))] at hq16
            rw [show kP S a = cSl S a from (kP_eq (hfS 1 a 1 (by unfold tC; omega)) (fun j => hfS 2 a j (by unfold tC; omega))).trans (cSl_at (by omega) (by omega)).symm] at hq16
            have hsh := hq16
            have hv9 : WV (S16 2 9) (S16 1 9 1) (S16 3 16 2) := hr16.eq (fun _ _ _ => rfl) rfl (by omega)
            refine kw_if_ne (tgt := 71) hC dX7_parts_65 rfl (by decide) (by omega) ⟨fun c65 => ?_, fun c65 => ?_⟩
            · have hs9 := hsh.resolve_left (fun z => by omega)
              obtain ⟨RS, hRSx⟩ : ∃ q, q = kP S16 9 := ⟨_, rfl⟩
              have hsA : shoP (kM S) (kn S) [] (cSl S a) = some RS := by rw [hs9.2, hRSx]
              refine kw_aload_n hC dX7_parts_71 rfl 1 rfl ?_
              refine kg_0_9 hC w7 f66 dX7_parts_72 rfl (by decide) (by decide) ?_
              refine kw_iconst hC dX7_parts_75 rfl ?_
              refine kp_1_1 hC w6 f131 dX7_parts_76 rfl (by omega) (by omega) ?_
              refine kw_hv hfS16 (by unfold tC; omega) (fun S18 hfS18 hv18 ho18 => ?_)
              have hRS18 := hRS.fr hfS18
              have hnS18 := hRS18.n
              have enS18 : S18 3 16 2 = S 3 16 2 := hfS18 3 16 2 (by unfold tC; omega)
              have lJ := hv18
              have eR9 : kP S18 9 = RS := (kP_eq (ho18 1 9 1 (by omega)) (fun j => ho18 2 9 j (by omega))).trans hRSx.symm
              have eJ0 : kP S18 10 = [] := by unfold kP; rw [hv18]; rfl
              replace hv9 : WV (S18 2 9) (S18 1 9 1) (S18 3 16 2) := hv9.eq (fun j _ _ => ho18 2 9 j (by omega)) (ho18 1 9 1 (by omega)) (ho18 3 16 2 (by omega))
              have e918 : S18 1 9 1 = S16 1 9 1 := ho18 1 9 1 (by omega)
              refine kw_aload_n hC dX7_parts_79 rfl 1 rfl ?_
              refine kg_0_4 hC w7 f40 dX7_parts_80 rfl (by decide) (by decide) ?_
              refine kw_aload_n hC dX7_parts_83 rfl 1 rfl ?_
              refine kg_0_8 hC w7 f63 dX7_parts_84 rfl (by decide) (by decide) ?_
              refine kw_iload hC dX7_parts_87 rfl 0 rfl ?_
              refine kw_aload_n hC dX7_parts_89 rfl 1 rfl ?_
              refine kg_0_9 hC w7 f66 dX7_parts_90 rfl (by decide) (by decide) ?_
              refine kw_callV hC (f_X5_moveDowns hD (by omega) (by omega) (by omega) (by omega) (by omega) hRS18 hv9 (by omega) (fun j _ _ => by omega) (by omega) (by omega)) gX7_parts_X5_moveDowns ⟨_, rfl⟩ rfl (by decide) (by decide) rfl ⟨rfl, rfl⟩ 3 (by decide +kernel) ⟨by decide, by decide⟩ rfl rfl (Nat.le_of_ble_eq_true rfl) dX7_parts_93 rfl (kd_i (fun r19 S19 hp19 => ?_))
              obtain ⟨hg19, hp19⟩ := hp19
              have hfS19 : Fr tC S S19 := hfS18.trans (hg19.mono (fun k i j h => by unfold fMd at h; unfold tC; omega))
              have hRS19 := hRS.fr hfS19
              have hnS19 := hRS19.n
              have enS19 : S19 3 16 2 = S 3 16 2 := hfS19 3 16 2 (by unfold tC; omega)
              obtain ⟨⟨f0, f1, f2⟩, hrA, hrB, hq19⟩ := hp19
              rw [kM_eq (W := S18) (S := S) (hfS18 3 16 2 (by unfold tC; omega)) (fun j => hfS18 5 16 j (by unfold tC; omega)), kn_eq (W := S18) (S := S) (hfS18 3 16 2 (by unfold tC; omega))] at hq19
              rw [eR9, eJ0] at hq19
              have hT := hq19
              replace hv9 : WV (S19 2 9) (S19 1 9 1) (S19 3 16 2) := hrA.eq (fun _ _ _ => rfl) rfl (by omega)
              have hvJ : WV (S19 2 10) (S19 1 10 1) (S19 3 16 2) := hrB.eq (fun _ _ _ => rfl) rfl (by omega)
              refine kw_if_ne (tgt := 102) hC dX7_parts_96 rfl (by decide) (by omega) ⟨fun c96 => ?_, fun c96 => ?_⟩
              · have hTT := (hT.resolve_left (fun z => by omega)).2
                obtain ⟨RR, hRR⟩ : ∃ q, q = kP S19 9 := ⟨_, rfl⟩
                obtain ⟨VV, hVV⟩ : ∃ q, q = kP S19 10 := ⟨_, rfl⟩
                rw [← hRR, ← hVV] at hTT
                refine kw_aload_n hC dX7_parts_102 rfl 1 rfl ?_
                refine kg_0_4 hC w7 f40 dX7_parts_103 rfl (by decide) (by decide) ?_
                refine kw_aload_n hC dX7_parts_106 rfl 1 rfl ?_
                refine kg_0_9 hC w7 f66 dX7_parts_107 rfl (by decide) (by decide) ?_
                refine kw_aload_n hC dX7_parts_110 rfl 1 rfl ?_
                refine kg_0_7 hC w7 f59 dX7_parts_111 rfl (by decide) (by decide) ?_
                refine kw_callV hC (f_X5_makeForm hD (by omega) (by omega) (by omega) (by omega) hRS19 hvJ (by omega) (by omega)) gX7_parts_X5_makeForm ⟨_, rfl⟩ rfl (by decide) (by decide) rfl ⟨rfl, rfl⟩ 2 (by decide +kernel) ⟨by decide, by decide⟩ rfl rfl (Nat.le_of_ble_eq_true rfl) dX7_parts_114 rfl (kd_i (fun r21 S21 hp21 => ?_))
                obtain ⟨hg21, hp21⟩ := hp21
                have hfS21 : Fr tC S S21 := hfS19.trans (hg21.mono (fun k i j h => by unfold fMd at h; unfold tC; omega))
                have hRS21 := hRS.fr hfS21
                have hnS21 := hRS21.n
                have enS21 : S21 3 16 2 = S 3 16 2 := hfS21 3 16 2 (by unfold tC; omega)
                have hq21 := hp21
                rw [kM_eq (W := S19) (S := S) (hfS19 3 16 2 (by unfold tC; omega)) (fun j => hfS19 5 16 j (by unfold tC; omega)), kn_eq (W := S19) (S := S) (hfS19 3 16 2 (by unfold tC; omega))] at hq21
                rw [show kP S19 10 = VV from hVV.symm] at hq21
                have hfa := hq21
                have eR8 : kP S21 9 = RR := (kP_eq (hg21 1 9 1 (by unfold fMd; omega)) (fun j => hg21 2 9 j (by unfold fMd; omega))).trans hRR.symm
                replace hv9 : WV (S21 2 9) (S21 1 9 1) (S21 3 16 2) := hv9.fr hg21 (by unfold fMd; omega) (fun j => by unfold fMd; omega) (by omega)
                have e921 : S21 1 9 1 = S19 1 9 1 := hg21 1 9 1 (by unfold fMd; omega)
                refine kw_if_eq (tgt := 138) hC dX7_parts_117 rfl (by decide) (by omega) ⟨fun c117 => ?_, fun c117 => ?_⟩
                · refine kw_bipush hC dX7_parts_138 rfl (by decide) ?_
                  exact hR9.1 rfl _ _ _ _ dX7_parts_140 (by first | (exfalso; omega) | exact ⟨_, rfl, hRS21, tC_tXw hfS21, by unfold fParts; rw [if_neg (by omega), cSl_tC hfS21]⟩ | exact ⟨_, rfl, hRS21, tC_tXw hfS21, by have h8 := hA9; have h9 := (hfb.resolve_right (fun z => by omega)).2; unfold fParts; rw [if_pos (by omega), ptP_n4 hsA hTT hA9 h9, cSl_tC hfS21]⟩ | exact ⟨_, rfl, hRS21, tC_tXw hfS21, by have h8 := hTT; have h9 := (hfa.resolve_right (fun z => by omega)).2; unfold fParts; rw [if_pos (by omega), ptP_n3 hsA h8 h9, cSl_tC hfS21]⟩ | exact ⟨_, rfl, hRS21, tC_tXw hfS21, by have h9 := (hT.resolve_right (fun z => by omega)).2; unfold fParts; rw [if_pos (by omega), ptP_n2 hsA h9, cSl_tC hfS21]⟩ | exact ⟨_, rfl, hRS21, tC_tXw hfS21, by have h9 := (hsh.resolve_right (fun z => by omega)).2; unfold fParts; rw [if_pos (by omega), ptP_n1 h9, cSl_tC hfS21]⟩ | exact ⟨_, rfl, hp9.2.1, hbW.trans ((tC_tXw hfS21).trans (fWd_tXw hp9.2.2.1)), by have h9 := st_k (by omega) (by omega) (by omega) hp9 ((cSl_tC hfS21).trans hB8) eK8; unfold fParts; rw [if_pos (by omega), ptP_s hsA hTT hA9 hB9]; exact h9⟩)
                · have hfa9 := hfa.resolve_left (fun z => by omega)
                  obtain ⟨lX0, lX1⟩ := hfa9.2.2.1
                  have hv8 : WV (S21 2 8) (S21 1 8 1) (S21 3 16 2) := hfa9.2.2.2.eq (fun _ _ _ => rfl) rfl (by omega)
                  obtain ⟨AA, hAA⟩ : ∃ q, q = kP S21 8 := ⟨_, rfl⟩
                  have hA9 := hfa9.2.1
                  rw [← hAA] at hA9
                  refine kw_aload_n hC dX7_parts_120 rfl 1 rfl ?_
                  refine kg_0_4 hC w7 f40 dX7_parts_121 rfl (by decide) (by decide) ?_
                  refine kw_aload_n hC dX7_parts_124 rfl 1 rfl ?_
                  refine kg_0_8 hC w7 f63 dX7_parts_125 rfl (by decide) (by decide) ?_
                  refine kw_aload_n hC dX7_parts_128 rfl 1 rfl ?_
                  refine kg_0_9 hC w7 f66 dX7_parts_129 rfl (by decide) (by decide) ?_
                  refine kw_callV hC (f_X5_makeForm hD (by omega) (by omega) (by omega) (by omega) hRS21 hv9 (by omega) (by omega)) gX7_parts_X5_makeForm ⟨_, rfl⟩ rfl (by decide) (by decide) rfl ⟨rfl, rfl⟩ 2 (by decide +kernel) ⟨by decide, by decide⟩ rfl rfl (Nat.le_of_ble_eq_true rfl) dX7_parts_132 rfl (kd_i (fun r23 S23 hp23 => ?_))
                  obtain ⟨hg23, hp23⟩ := hp23
                  have hfS23 : Fr tC S S23 := hfS21.trans (hg23.mono (fun k i j h => by unfold fMd at h; unfold tC; omega))
                  have hRS23 := hRS.fr hfS23
                  have hnS23 := hRS23.n
                  have enS23 : S23 3 16 2 = S 3 16 2 := hfS23 3 16 2 (by unfold tC; omega)
                  have hq23 := hp23
                  rw [kM_eq (W := S21) (S := S) (hfS21 3 16 2 (by unfold tC; omega)) (fun j => hfS21 5 16 j (by unfold tC; omega)), kn_eq (W := S21) (S := S) (hfS21 3 16 2 (by unfold tC; omega))] at hq23
                  rw [show kP S21 9 = RR from eR8] at hq23
                  have hfb := hq23
                  have e823 : S23 1 8 1 = S21 1 8 1 := hg23 1 8 1 (by unfold fMd; omega)
                  have eK8 : kP S23 8 = AA := (kP_eq e823 (fun j => hg23 2 8 j (by unfold fMd; omega))).trans hAA.symm
                  replace hv8 : WV (S23 2 8) (S23 1 8 1) (S23 3 16 2) := hv8.fr hg23 (by unfold fMd; omega) (fun j => by unfold fMd; omega) (by omega)
                  refine kw_if_ne (tgt := 141) hC dX7_parts_135 rfl (by decide) (by omega) ⟨fun c135 => ?_, fun c135 => ?_⟩
                  · have hfb9 := hfb.resolve_left (fun z => by omega)
                    obtain ⟨lY0, lY1⟩ := hfb9.2.2.1
                    have hvY : WV (S23 2 10) (S23 1 10 1) (S23 3 16 2) := hfb9.2.2.2.eq (fun _ _ _ => rfl) rfl (by omega)
                    have hB9 := hfb9.2.1
                    refine kw_aload_n hC dX7_parts_141 rfl 1 rfl ?_
                    refine kw_aload_n hC dX7_parts_142 rfl 1 rfl ?_
                    refine kg_0_9 hC w7 f66 dX7_parts_143 rfl (by decide) (by decide) ?_
                    refine kw_iload hC dX7_parts_146 rfl 5 rfl ?_
                    refine kw_callV hC (d_X7_store hD (by omega) (by omega) (by omega) (by omega) hRS23 hvY (by omega) (by omega)) gX7_parts_X7_store ⟨_, rfl⟩ rfl (by decide) (by decide) rfl ⟨rfl, rfl⟩ 2 (by decide +kernel) ⟨by decide, by decide⟩ rfl rfl (Nat.le_of_ble_eq_true rfl) dX7_parts_148 rfl (kd_i (fun r25 S25 hp25 => ?_))
                    have hst9 : cSl S25 = upw (cSl S) d (kP S23 10) := by rw [cSl_st (by omega) (by omega) hp25.2.2.1, cSl_tC hfS23, show kP S25 d = kP S23 10 from wl_eq hp25.2.2.2.1 hp25.2.2.2.2]
                    obtain ⟨-, hRS25, hgV, -⟩ := hp25
                    have hB8 := hst9
                    have hbW : Fr tXw S S25 := (tC_tXw hfS23).trans (fWd_tXw hgV)
                    have hfS25 : Fr tC S25 S25 := Fr.rfl _ _
                    have hnS25 := hRS25.n
                    have eb0 : S25 3 16 2 = S23 3 16 2 := hgV 3 16 2 (by unfold fWd; omega)
                    have e8b : S25 1 8 1 = S23 1 8 1 := hgV 1 8 1 (by unfold fWd; omega)
                    replace eK8 : kP S25 8 = AA := (kP_eq e8b (fun j => hgV 2 8 j (by unfold fWd; omega))).trans eK8
                    replace hv8 : WV (S25 2 8) (S25 1 8 1) (S25 3 16 2) := hv8.fr hgV (by unfold fWd; omega) (fun j => by unfold fWd; omega) eb0
                    refine kw_pop hC dX7_parts_151 rfl rfl ?_
                    refine kw_aload_n hC dX7_parts_152 rfl 1 rfl ?_
                    refine kw_aload_n hC dX7_parts_153 rfl 1 rfl ?_
                    refine kg_0_7 hC w7 f59 dX7_parts_154 rfl (by decide) (by decide) ?_
                    refine kw_iload_n hC dX7_parts_157 rfl 4 rfl ?_
                    refine kw_callV hC (d_X7_store hD (by omega) (by omega) (by omega) (by omega) hRS25 hv8 (by omega) (by omega)) gX7_parts_X7_store ⟨_, rfl⟩ rfl (by decide) (by decide) rfl ⟨rfl, rfl⟩ 2 (by decide +kernel) ⟨by decide, by decide⟩ rfl rfl (Nat.le_of_ble_eq_true rfl) dX7_parts_158 rfl (kd_i (fun r9 Sz hp9 => ?_))
                    exact hR9.1 rfl _ _ _ _ dX7_parts_161 (by first | (exfalso; omega) | exact ⟨_, rfl, hRS25, tC_tXw hfS25, by unfold fParts; rw [if_neg (by omega), cSl_tC hfS25]⟩ | exact ⟨_, rfl, hRS25, tC_tXw hfS25, by have h8 := hA9; have h9 := (hfb.resolve_right (fun z => by omega)).2; unfold fParts; rw [if_pos (by omega), ptP_n4 hsA hTT hA9 h9, cSl_tC hfS25]⟩ | exact ⟨_, rfl, hRS25, tC_tXw hfS25, by have h8 := hTT; have h9 := (hfa.resolve_right (fun z => by omega)).2; unfold fParts; rw [if_pos (by omega), ptP_n3 hsA h8 h9, cSl_tC hfS25]⟩ | exact ⟨_, rfl, hRS25, tC_tXw hfS25, by have h9 := (hT.resolve_right (fun z => by omega)).2; unfold fParts; rw [if_pos (by omega), ptP_n2 hsA h9, cSl_tC hfS25]⟩ | exact ⟨_, rfl, hRS25, tC_tXw hfS25, by have h9 := (hsh.resolve_right (fun z => by omega)).2; unfold fParts; rw [if_pos (by omega), ptP_n1 h9, cSl_tC hfS25]⟩ | exact ⟨_, rfl, hp9.2.1, hbW.trans ((tC_tXw hfS25).trans (fWd_tXw hp9.2.2.1)), by have h9 := st_k (by omega) (by omega) (by omega) hp9 ((cSl_tC hfS25).trans hB8) eK8; unfold fParts; rw [if_pos (by omega), ptP_s hsA hTT hA9 hB9]; exact h9⟩)
                  · refine kw_bipush hC dX7_parts_138 rfl (by decide) ?_
                    exact hR9.1 rfl _ _ _ _ dX7_parts_140 (by first | (exfalso; omega) | exact ⟨_, rfl, hRS23, tC_tXw hfS23, by unfold fParts; rw [if_neg (by omega), cSl_tC hfS23]⟩ | exact ⟨_, rfl, hRS23, tC_tXw hfS23, by have h8 := hA9; have h9 := (hfb.resolve_right (fun z => by omega)).2; unfold fParts; rw [if_pos (by omega), ptP_n4 hsA hTT hA9 h9, cSl_tC hfS23]⟩ | exact ⟨_, rfl, hRS23, tC_tXw hfS23, by have h8 := hTT; have h9 := (hfa.resolve_right (fun z => by omega)).2; unfold fParts; rw [if_pos (by omega), ptP_n3 hsA h8 h9, cSl_tC hfS23]⟩ | exact ⟨_, rfl, hRS23, tC_tXw hfS23, by have h9 := (hT.resolve_right (fun z => by omega)).2; unfold fParts; rw [if_pos (by omega), ptP_n2 hsA h9, cSl_tC hfS23]⟩ | exact ⟨_, rfl, hRS23, tC_tXw hfS23, by have h9 := (hsh.resolve_right (fun z => by omega)).2; unfold fParts; rw [if_pos (by omega), ptP_n1 h9, cSl_tC hfS23]⟩ | exact ⟨_, rfl, hp9.2.1, hbW.trans ((tC_tXw hfS23).trans (fWd_tXw hp9.2.2.1)), by have h9 := st_k (by omega) (by omega) (by omega) hp9 ((cSl_tC hfS23).trans hB8) eK8; unfold fParts; rw [if_pos (by omega), ptP_s hsA hTT hA9 hB9]; exact h9⟩)
              · refine kw_bipush hC dX7_parts_99 rfl (by decide) ?_
                exact hR9.1 rfl _ _ _ _ dX7_parts_101 (by first | (exfalso; omega) | exact ⟨_, rfl, hRS19, tC_tXw hfS19, by unfold fParts; rw [if_neg (by omega), cSl_tC hfS19]⟩ | exact ⟨_, rfl, hRS19, tC_tXw hfS19, by have h8 := hA9; have h9 := (hfb.resolve_right (fun z => by omega)).2; unfold fParts; rw [if_pos (by omega), ptP_n4 hsA hTT hA9 h9, cSl_tC hfS19]⟩ | exact ⟨_, rfl, hRS19, tC_tXw hfS19, by have h8 := hTT; have h9 := (hfa.resolve_right (fun z => by omega)).2; unfold fParts; rw [if_pos (by omega), ptP_n3 hsA h8 h9, cSl_tC hfS19]⟩ | exact ⟨_, rfl, hRS19, tC_tXw hfS19, by have h9 := (hT.resolve_right (fun z => by omega)).2; unfold fParts; rw [if_pos (by omega), ptP_n2 hsA h9, cSl_tC hfS19]⟩ | exact ⟨_, rfl, hRS19, tC_tXw hfS19, by have h9 := (hsh.resolve_right (fun z => by omega)).2; unfold fParts; rw [if_pos (by omega), ptP_n1 h9, cSl_tC hfS19]⟩ | exact ⟨_, rfl, hp9.2.1, hbW.trans ((tC_tXw hfS19).trans (fWd_tXw hp9.2.2.1)), by have h9 := st_k (by omega) (by omega) (by omega) hp9 ((cSl_tC hfS19).trans hB8) eK8; unfold fParts; rw [if_pos (by omega), ptP_s hsA hTT hA9 hB9]; exact h9⟩)
            · refine kw_bipush hC dX7_parts_68 rfl (by decide) ?_
              exact hR9.1 rfl _ _ _ _ dX7_parts_70 (by first | (exfalso; omega) | exact ⟨_, rfl, hRS16, tC_tXw hfS16, by unfold fParts; rw [if_neg (by omega), cSl_tC hfS16]⟩ | exact ⟨_, rfl, hRS16, tC_tXw hfS16, by have h8 := hA9; have h9 := (hfb.resolve_right (fun z => by omega)).2; unfold fParts; rw [if_pos (by omega), ptP_n4 hsA hTT hA9 h9, cSl_tC hfS16]⟩ | exact ⟨_, rfl, hRS16, tC_tXw hfS16, by have h8 := hTT; have h9 := (hfa.resolve_right (fun z => by omega)).2; unfold fParts; rw [if_pos (by omega), ptP_n3 hsA h8 h9, cSl_tC hfS16]⟩ | exact ⟨_, rfl, hRS16, tC_tXw hfS16, by have h9 := (hT.resolve_right (fun z => by omega)).2; unfold fParts; rw [if_pos (by omega), ptP_n2 hsA h9, cSl_tC hfS16]⟩ | exact ⟨_, rfl, hRS16, tC_tXw hfS16, by have h9 := (hsh.resolve_right (fun z => by omega)).2; unfold fParts; rw [if_pos (by omega), ptP_n1 h9, cSl_tC hfS16]⟩ | exact ⟨_, rfl, hp9.2.1, hbW.trans ((tC_tXw hfS16).trans (fWd_tXw hp9.2.2.1)), by have h9 := st_k (by omega) (by omega) (by omega) hp9 ((cSl_tC hfS16).trans hB8) eK8; unfold fParts; rw [if_pos (by omega), ptP_s hsA hTT hA9 hB9]; exact h9⟩)
        · refine kw_iconst hC dX7_parts_28 rfl ?_
          exact hR9.1 rfl _ _ _ _ dX7_parts_29 (by first | (exfalso; omega) | exact ⟨_, rfl, hRS, tC_tXw hfS, by unfold fParts; rw [if_neg (by omega), cSl_tC hfS]⟩ | exact ⟨_, rfl, hRS, tC_tXw hfS, by have h8 := hA9; have h9 := (hfb.resolve_right (fun z => by omega)).2; unfold fParts; rw [if_pos (by omega), ptP_n4 hsA hTT hA9 h9, cSl_tC hfS]⟩ | exact ⟨_, rfl, hRS, tC_tXw hfS, by have h8 := hTT; have h9 := (hfa.resolve_right (fun z => by omega)).2; unfold fParts; rw [if_pos (by omega), ptP_n3 hsA h8 h9, cSl_tC hfS]⟩ | exact ⟨_, rfl, hRS, tC_tXw hfS, by have h9 := (hT.resolve_right (fun z => by omega)).2; unfold fParts; rw [if_pos (by omega), ptP_n2 hsA h9, cSl_tC hfS]⟩ | exact ⟨_, rfl, hRS, tC_tXw hfS, by have h9 := (hsh.resolve_right (fun z => by omega)).2; unfold fParts; rw [if_pos (by omega), ptP_n1 h9, cSl_tC hfS]⟩ | exact ⟨_, rfl, hp9.2.1, hbW.trans ((tC_tXw hfS).trans (fWd_tXw hp9.2.2.1)), by have h9 := st_k (by omega) (by omega) (by omega) hp9 ((cSl_tC hfS).trans hB8) eK8; unfold fParts; rw [if_pos (by omega), ptP_s hsA hTT hA9 hB9]; exact h9⟩)
end
