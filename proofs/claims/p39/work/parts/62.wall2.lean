section
/-! what wall answers, in a set that ends -/
noncomputable def fWal (M : Nat → Nat → Int) (n : Nat) (a b k j : Int) (w : wS) : Int := if (0 ≤ a ∧ a < 8) ∧ (0 ≤ b ∧ b < 8) ∧ 0 ≤ k ∧ (0 ≤ j ∧ j < n) ∧ ((w a).length : Int) + (w b).length ≤ 100 then (match fwP M n ((w a).reverse ++ w b) with
  | none => -10000000000004
  | some F => if (F.length : Int) ≤ k then -10000000000001 else wab (bta M n (w a) F k.toNat) j.toNat) else -10000000000001
theorem fWal_b {M : Nat → Nat → Int} {n : Nat} {a b k j : Int} {w : wS} (h : ¬ ((0 ≤ a ∧ a < 8) ∧ (0 ≤ b ∧ b < 8) ∧ 0 ≤ k ∧ (0 ≤ j ∧ j < n) ∧ ((w a).length : Int) + (w b).length ≤ 100)) : fWal M n a b k j w = -10000000000001 := if_neg h
theorem fWal_g {M : Nat → Nat → Int} {n : Nat} {a b k j : Int} {w : wS} (h : (0 ≤ a ∧ a < 8) ∧ (0 ≤ b ∧ b < 8) ∧ 0 ≤ k ∧ (0 ≤ j ∧ j < n) ∧ ((w a).length : Int) + (w b).length ≤ 100) (hF : fwP M n ((w a).reverse ++ w b) = none) : fWal M n a b k j w = -10000000000004 := by
  unfold fWal
  rw [if_pos h, hF]
theorem fWal_k {M : Nat → Nat → Int} {n : Nat} {a b k j : Int} {w : wS} {F : List Nat} (h : (0 ≤ a ∧ a < 8) ∧ (0 ≤ b ∧ b < 8) ∧ 0 ≤ k ∧ (0 ≤ j ∧ j < n) ∧ ((w a).length : Int) + (w b).length ≤ 100) (hF : fwP M n ((w a).reverse ++ w b) = some F) (hk : (F.length : Int) ≤ k) : fWal M n a b k j w = -10000000000001 := by
  unfold fWal
  rw [if_pos h, hF]
  exact if_pos hk
theorem fWal_s {M : Nat → Nat → Int} {n : Nat} {a b k j : Int} {w : wS} {F : List Nat} (h : (0 ≤ a ∧ a < 8) ∧ (0 ≤ b ∧ b < 8) ∧ 0 ≤ k ∧ (0 ≤ j ∧ j < n) ∧ ((w a).length : Int) + (w b).length ≤ 100) (hF : fwP M n ((w a).reverse ++ w b) = some F) (hk : k < (F.length : Int)) : fWal M n a b k j w = wab (bta M n (w a) F k.toNat) j.toNat := by
  unfold fWal
  rw [if_pos h, hF]
  exact if_neg (by omega)
theorem wab_at {n : Nat} (hn : n ≤ 6) {Y : Nat → Int} {f : Int → Int} {d : Int} (hY : vC n f = Y) (hz : ∀ j, (n : Int) ≤ j → j < 6 → f j = 0) (hr : ∀ j, -6 ≤ Y j ∧ Y j ≤ 6) (d0 : 0 ≤ d) (d1 : d < n) : ((∃ j, 0 ≤ j ∧ j < 6 ∧ nl (f j) < 0) → wab Y d.toNat = - f d) ∧ ((¬ ∃ j, 0 ≤ j ∧ j < 6 ∧ nl (f j) < 0) → wab Y d.toNat = f d) := by
  have e : ∀ j : Nat, j < n → f (j : Int) = Y j := fun j hj => by
    rw [← hY]
    unfold vC
    rw [if_pos hj]
  have ed : f d = Y d.toNat := by
    have := e d.toNat (by omega)
    rw [Int.toNat_of_nonneg d0] at this
    exact this
  have hiff : (∃ j, 0 ≤ j ∧ j < 6 ∧ nl (f j) < 0) ↔ ∃ k, Y k < 0 := by
    constructor
    · rintro ⟨j, j0, j1, q⟩
      by_cases c : j < n
      · have h1 := e j.toNat (by omega)
        rw [Int.toNat_of_nonneg j0] at h1
        have h2 := hr j.toNat
        rw [h1, nl_e (by omega)] at q
        exact ⟨j.toNat, q⟩
      · rw [hz j (by omega) j1, nl_e (by omega)] at q
        omega
    · rintro ⟨k, q⟩
      have hk : k < n := Classical.byContradiction fun c => by
        rw [← hY] at q
        unfold vC at q
        rw [if_neg c] at q
        omega
      have h2 := hr k
      exact ⟨(k : Int), by omega, by omega, by rw [e k hk, nl_e (by omega)]; exact q⟩
  constructor
  · intro h
    unfold wab
    rw [if_pos (hiff.mp h), ed]
  · intro h
    unfold wab
    rw [if_neg (fun q => h (hiff.mpr q)), ed]
end
section
set_option maxHeartbeats 4000000 in
set_option maxRecDepth 100000 in
theorem e_X7_wall {g : wG} (hD : wD g) {S : wSt} {a b c d : Int} (ha : -2147483648 ≤ a ∧ a ≤ 2147483647) (hb : -2147483648 ≤ b ∧ b ≤ 2147483647) (hc : -2147483648 ≤ c ∧ c ≤ 2147483647) (hd : -2147483648 ≤ d ∧ d ≤ 2147483647) (hRS : CI S) {L : List (Nat → Int)} (hE : EndL (kM S) (kn S) L) (l : Launch) : Kt l yX7_wall wsX7_wall ({ frames := 6, cells := 0, slots := 0, locals := 143 } : Room) g S [vr g 0 0, vi a, vi b, vi c, vi d] (pL (fun r S' => CI S' ∧ Fr tXw S S' ∧ cSl S' = cSl S ∧ fWal (kM S) (kn S) a b c d (cSl S) = r)) := by
  refine Kt.of (cc := cX7_wall) (nL := 5) (ret := (some .long)) (own := RX7) rfl hD (by decide) rfl (Nat.le_of_ble_eq_true rfl) ⟨rfl, rfl⟩ ?_
  intro E hC hR9
  have f12 : Cond.fieldLink RX7 12 "MirrorBench" "set" "LMirrorBench$Mirrors;" ∈ wsX7_wall := by decide +kernel
  have f25 : Cond.fieldLink RX7 25 "MirrorBench" "slots" "[LMirrorBench$Word;" ∈ wsX7_wall := by decide +kernel
  have f40 : Cond.fieldLink RX7 40 "MirrorBench" "shortener" "LMirrorBench$Shortener;" ∈ wsX7_wall := by decide +kernel
  have f59 : Cond.fieldLink RX7 59 "MirrorBench" "made" "LMirrorBench$Word;" ∈ wsX7_wall := by decide +kernel
  have f66 : Cond.fieldLink RX7 66 "MirrorBench" "joined" "LMirrorBench$Word;" ∈ wsX7_wall := by decide +kernel
  have f69 : Cond.fieldLink RX7 69 "MirrorBench" "spare" "[J" ∈ wsX7_wall := by decide +kernel
  have f131 : Cond.fieldLink RX7 131 "MirrorBench$Word" "length" "I" ∈ wsX7_wall := by decide +kernel
  have f157 : Cond.fieldLink RX7 157 "MirrorBench$Word" "mirrors" "[I" ∈ wsX7_wall := by decide +kernel
  have l196 : Cond.constantLong RX7 196 (Int64.ofInt (-10000000000001)) ∈ wsX7_wall := by decide +kernel
  have l206 : Cond.constantLong RX7 206 (Int64.ofInt (-10000000000004)) ∈ wsX7_wall := by decide +kernel
  have w6 : ∀ w ∈ wsX60, w ∈ wsX7_wall := by decide +kernel
  have w7 : ∀ w ∈ wsX70, w ∈ wsX7_wall := by decide +kernel
  show Wk E g 5 S 0 [(0, vr g 0 0), (1, vi a), (2, vi b), (3, vi c), (4, vi d)] []
  have hfS : Fr tC S S := Fr.rfl _ S
  have hRS := hRS.fr hfS
  have hnS := hRS.n
  have enS : S 3 16 2 = S 3 16 2 := hfS 3 16 2 (by unfold tC; omega)
  have hnS := hRS.n
  have hkn : (kn S : Int) = S 3 16 2 := by unfold kn; omega
  refine kw_iload_n hC dX7_wall_0 rfl 1 rfl ?_
  refine kw_callS hC (d_X7_isSlot hD (by omega)) gX7_wall_X7_isSlot rfl ⟨rfl, rfl⟩ 1 (by decide +kernel) ⟨by decide, by decide⟩ rfl rfl (Nat.le_of_ble_eq_true rfl) dX7_wall_1 rfl (kd_ie ?_)
  refine kw_ifeq_b (tgt := 39) hC dX7_wall_4 rfl (by decide) ⟨fun c4 => ?_, fun c4 => ?_⟩
  · refine kw_ldc2 (z := -10000000000001) hC dX7_wall_39 rfl l196 ?_
    exact hR9.2.2.1 rfl _ _ _ _ dX7_wall_42 (by first | (exfalso; omega) | exact ⟨_, rfl, hRS, tC_tXw hfS, cSl_tC hfS, (fWal_s ⟨⟨by omega, by omega⟩, ⟨by omega, by omega⟩, by omega, ⟨by omega, by omega⟩, by omega⟩ hF9 (by omega)).trans ((wab_at (by omega) hvo (fun j j0 j1 => hz6 j (by omega) j1) hYr (by omega) (by omega)).1 c155)⟩ | exact ⟨_, rfl, hRS, tC_tXw hfS, cSl_tC hfS, (fWal_s ⟨⟨by omega, by omega⟩, ⟨by omega, by omega⟩, by omega, ⟨by omega, by omega⟩, by omega⟩ hF9 (by omega)).trans ((wab_at (by omega) hvo (fun j j0 j1 => hz6 j (by omega) j1) hYr (by omega) (by omega)).2 c155)⟩ | exact ⟨_, rfl, hRS, tC_tXw hfS, cSl_tC hfS, fWal_k ⟨⟨by omega, by omega⟩, ⟨by omega, by omega⟩, by omega, ⟨by omega, by omega⟩, by omega⟩ hF9 (by omega)⟩ | exact ⟨_, rfl, hRS, tC_tXw hfS, cSl_tC hfS, fWal_g ⟨⟨by omega, by omega⟩, ⟨by omega, by omega⟩, by omega, ⟨by omega, by omega⟩, by omega⟩ (hfj.resolve_right (fun z => by omega)).2⟩ | exact ⟨_, rfl, hRS, tC_tXw hfS, cSl_tC hfS, fWal_b (by omega)⟩ | exact ⟨_, rfl, hRS, tC_tXw hfS, cSl_tC hfS, fWal_b (fun z => by have h9 := (hqJ.resolve_right (fun z => by omega)).2; omega)⟩)
  · refine kw_iload_n hC dX7_wall_7 rfl 2 rfl ?_
    refine kw_callS hC (d_X7_isSlot hD (by omega)) gX7_wall_X7_isSlot rfl ⟨rfl, rfl⟩ 1 (by decide +kernel) ⟨by decide, by decide⟩ rfl rfl (Nat.le_of_ble_eq_true rfl) dX7_wall_8 rfl (kd_ie ?_)
    refine kw_ifeq_b (tgt := 39) hC dX7_wall_11 rfl (by decide) ⟨fun c11 => ?_, fun c11 => ?_⟩
    · refine kw_ldc2 (z := -10000000000001) hC dX7_wall_39 rfl l196 ?_
      exact hR9.2.2.1 rfl _ _ _ _ dX7_wall_42 (by first | (exfalso; omega) | exact ⟨_, rfl, hRS, tC_tXw hfS, cSl_tC hfS, (fWal_s ⟨⟨by omega, by omega⟩, ⟨by omega, by omega⟩, by omega, ⟨by omega, by omega⟩, by omega⟩ hF9 (by omega)).trans ((wab_at (by omega) hvo (fun j j0 j1 => hz6 j (by omega) j1) hYr (by omega) (by omega)).1 c155)⟩ | exact ⟨_, rfl, hRS, tC_tXw hfS, cSl_tC hfS, (fWal_s ⟨⟨by omega, by omega⟩, ⟨by omega, by omega⟩, by omega, ⟨by omega, by omega⟩, by omega⟩ hF9 (by omega)).trans ((wab_at (by omega) hvo (fun j j0 j1 => hz6 j (by omega) j1) hYr (by omega) (by omega)).2 c155)⟩ | exact ⟨_, rfl, hRS, tC_tXw hfS, cSl_tC hfS, fWal_k ⟨⟨by omega, by omega⟩, ⟨by omega, by omega⟩, by omega, ⟨by omega, by omega⟩, by omega⟩ hF9 (by omega)⟩ | exact ⟨_, rfl, hRS, tC_tXw hfS, cSl_tC hfS, fWal_g ⟨⟨by omega, by omega⟩, ⟨by omega, by omega⟩, by omega, ⟨by omega, by omega⟩, by omega⟩ (hfj.resolve_right (fun z => by omega)).2⟩ | exact ⟨_, rfl, hRS, tC_tXw hfS, cSl_tC hfS, fWal_b (by omega)⟩ | exact ⟨_, rfl, hRS, tC_tXw hfS, cSl_tC hfS, fWal_b (fun z => by have h9 := (hqJ.resolve_right (fun z => by omega)).2; omega)⟩)
    · refine kw_iload_n hC dX7_wall_14 rfl 3 rfl ?_
      refine kw_if_lt (tgt := 39) hC dX7_wall_15 rfl (by decide) (by omega) ⟨fun c15 => ?_, fun c15 => ?_⟩
      · refine kw_ldc2 (z := -10000000000001) hC dX7_wall_39 rfl l196 ?_
        exact hR9.2.2.1 rfl _ _ _ _ dX7_wall_42 (by first | (exfalso; omega) | exact ⟨_, rfl, hRS, tC_tXw hfS, cSl_tC hfS, (fWal_s ⟨⟨by omega, by omega⟩, ⟨by omega, by omega⟩, by omega, ⟨by omega, by omega⟩, by omega⟩ hF9 (by omega)).trans ((wab_at (by omega) hvo (fun j j0 j1 => hz6 j (by omega) j1) hYr (by omega) (by omega)).1 c155)⟩ | exact ⟨_, rfl, hRS, tC_tXw hfS, cSl_tC hfS, (fWal_s ⟨⟨by omega, by omega⟩, ⟨by omega, by omega⟩, by omega, ⟨by omega, by omega⟩, by omega⟩ hF9 (by omega)).trans ((wab_at (by omega) hvo (fun j j0 j1 => hz6 j (by omega) j1) hYr (by omega) (by omega)).2 c155)⟩ | exact ⟨_, rfl, hRS, tC_tXw hfS, cSl_tC hfS, fWal_k ⟨⟨by omega, by omega⟩, ⟨by omega, by omega⟩, by omega, ⟨by omega, by omega⟩, by omega⟩ hF9 (by omega)⟩ | exact ⟨_, rfl, hRS, tC_tXw hfS, cSl_tC hfS, fWal_g ⟨⟨by omega, by omega⟩, ⟨by omega, by omega⟩, by omega, ⟨by omega, by omega⟩, by omega⟩ (hfj.resolve_right (fun z => by omega)).2⟩ | exact ⟨_, rfl, hRS, tC_tXw hfS, cSl_tC hfS, fWal_b (by omega)⟩ | exact ⟨_, rfl, hRS, tC_tXw hfS, cSl_tC hfS, fWal_b (fun z => by have h9 := (hqJ.resolve_right (fun z => by omega)).2; omega)⟩)
      · refine kw_aload_n hC dX7_wall_18 rfl 0 rfl ?_
        refine kg_0_0 hC w7 f12 dX7_wall_19 rfl (by decide) (by decide) ?_
        refine kw_iload hC dX7_wall_22 rfl 4 rfl ?_
        refine kw_callV hC (d_X3_has hD (by omega) (by omega) (by omega) (by omega) (by omega)) gX7_wall_X3_has ⟨_, rfl⟩ rfl (by omega) (show (16 : Int) < 17 by omega) rfl ⟨rfl, rfl⟩ 1 (by decide +kernel) ⟨by decide, by decide⟩ rfl rfl (Nat.le_of_ble_eq_true rfl) dX7_wall_24 rfl (kd_ie ?_)
        refine kw_ifeq_b (tgt := 39) hC dX7_wall_27 rfl (by decide) ⟨fun c27 => ?_, fun c27 => ?_⟩
        · refine kw_ldc2 (z := -10000000000001) hC dX7_wall_39 rfl l196 ?_
          exact hR9.2.2.1 rfl _ _ _ _ dX7_wall_42 (by first | (exfalso; omega) | exact ⟨_, rfl, hRS, tC_tXw hfS, cSl_tC hfS, (fWal_s ⟨⟨by omega, by omega⟩, ⟨by omega, by omega⟩, by omega, ⟨by omega, by omega⟩, by omega⟩ hF9 (by omega)).trans ((wab_at (by omega) hvo (fun j j0 j1 => hz6 j (by omega) j1) hYr (by omega) (by omega)).1 c155)⟩ | exact ⟨_, rfl, hRS, tC_tXw hfS, cSl_tC hfS, (fWal_s ⟨⟨by omega, by omega⟩, ⟨by omega, by omega⟩, by omega, ⟨by omega, by omega⟩, by omega⟩ hF9 (by omega)).trans ((wab_at (by omega) hvo (fun j j0 j1 => hz6 j (by omega) j1) hYr (by omega) (by omega)).2 c155)⟩ | exact ⟨_, rfl, hRS, tC_tXw hfS, cSl_tC hfS, fWal_k ⟨⟨by omega, by omega⟩, ⟨by omega, by omega⟩, by omega, ⟨by omega, by omega⟩, by omega⟩ hF9 (by omega)⟩ | exact ⟨_, rfl, hRS, tC_tXw hfS, cSl_tC hfS, fWal_g ⟨⟨by omega, by omega⟩, ⟨by omega, by omega⟩, by omega, ⟨by omega, by omega⟩, by omega⟩ (hfj.resolve_right (fun z => by omega)).2⟩ | exact ⟨_, rfl, hRS, tC_tXw hfS, cSl_tC hfS, fWal_b (by omega)⟩ | exact ⟨_, rfl, hRS, tC_tXw hfS, cSl_tC hfS, fWal_b (fun z => by have h9 := (hqJ.resolve_right (fun z => by omega)).2; omega)⟩)
        · refine kw_aload_n hC dX7_wall_30 rfl 0 rfl ?_
          refine kw_iload_n hC dX7_wall_31 rfl 1 rfl ?_
          refine kw_iload_n hC dX7_wall_32 rfl 2 rfl ?_
          refine kw_callV hC (f_X7_joinWay hD (by omega) (by omega) (by omega) (by omega) hRS) gX7_wall_X7_joinWay ⟨_, rfl⟩ rfl (by decide) (by decide) rfl ⟨rfl, rfl⟩ 2 (by decide +kernel) ⟨by decide, by decide⟩ rfl rfl (Nat.le_of_ble_eq_true rfl) dX7_wall_33 rfl (kd_i (fun r5 S5 hp5 => ?_))
          obtain ⟨hg5, hp5⟩ := hp5
          have hfS5 : Fr tC S S5 := hfS.trans (hg5.mono (fun k i j h => by unfold fWd at h; unfold tC; omega))
          have hRS5 := hRS.fr hfS5
          have hnS5 := hRS5.n
          have enS5 : S5 3 16 2 = S 3 16 2 := hfS5 3 16 2 (by unfold tC; omega)
          have hqJ := hp5
          refine kw_if_ne (tgt := 43) hC dX7_wall_36 rfl (by decide) (by omega) ⟨fun c36 => ?_, fun c36 => ?_⟩
          · obtain ⟨-, hJl, ⟨lJ0, lJ1⟩, hvJ, eJ⟩ := hqJ.resolve_left (fun z => by omega)
            replace hvJ : WV (S5 2 10) (S5 1 10 1) (S5 3 16 2) := hvJ.eq (fun _ _ _ => rfl) rfl (by omega)
            have hla := hRS.ln a (by omega) (by omega)
            have hwa := hRS.wv a (by omega) (by omega)
            have hLa := cSl_len hRS (a := a) (by omega) (by omega)
            refine kw_aload_n hC dX7_wall_43 rfl 0 rfl ?_
            refine kg_0_4 hC w7 f40 dX7_wall_44 rfl (by decide) (by decide) ?_
            refine kw_aload_n hC dX7_wall_47 rfl 0 rfl ?_
            refine kg_0_9 hC w7 f66 dX7_wall_48 rfl (by decide) (by decide) ?_
            refine kw_aload_n hC dX7_wall_51 rfl 0 rfl ?_
            refine kg_0_7 hC w7 f59 dX7_wall_52 rfl (by decide) (by decide) ?_
            refine kw_callV hC (f_X5_makeForm hD (by omega) (by omega) (by omega) (by omega) hRS5 hvJ (by omega) (by omega)) gX7_wall_X5_makeForm ⟨_, rfl⟩ rfl (by decide) (by decide) rfl ⟨rfl, rfl⟩ 2 (by decide +kernel) ⟨by decide, by decide⟩ rfl rfl (Nat.le_of_ble_eq_true rfl) dX7_wall_55 rfl (kd_i (fun r7 S7 hp7 => ?_))
            obtain ⟨hg7, hp7⟩ := hp7
            have hfS7 : Fr tC S S7 := hfS5.trans (hg7.mono (fun k i j h => by unfold fMd at h; unfold tC; omega))
            have hRS7 := hRS.fr hfS7
            have hnS7 := hRS7.n
            have enS7 : S7 3 16 2 = S 3 16 2 := hfS7 3 16 2 (by unfold tC; omega)
            have hq7 := hp7
            rw [kM_eq (W := S5) (S := S) (hfS5 3 16 2 (by unfold tC; omega)) (fun j => hfS5 5 16 j (by unfold tC; omega)), kn_eq (W := S5) (S := S) (hfS5 3 16 2 (by unfold tC; omega))] at hq7
            rw [eJ] at hq7
            have hfj := hq7
            refine kw_if_ne (tgt := 65) hC dX7_wall_58 rfl (by decide) (by omega) ⟨fun c58 => ?_, fun c58 => ?_⟩
            · have hfj9 := hfj.resolve_left (fun z => by omega)
              obtain ⟨lX0, lX1⟩ := hfj9.2.2.1
              have hv8 : WV (S7 2 8) (S7 1 8 1) (S7 3 16 2) := hfj9.2.2.2.eq (fun _ _ _ => rfl) rfl (by omega)
              obtain ⟨FF, hFF⟩ : ∃ q, q = kP S7 8 := ⟨_, rfl⟩
              have hF9 : fwP (kM S) (kn S) ((cSl S a).reverse ++ cSl S b) = some FF := by rw [hFF]; exact hfj9.2.1
              have hFl : (FF.length : Int) = S7 1 8 1 := by rw [hFF]; exact kP_len (by omega)
              have hFw : wl (S7 2 8) (S7 1 8 1).toNat = FF := hFF.symm
              have hFn : ∀ i, i ∈ FF → i < kn S := by rw [hFF]; unfold kP; rw [show kn S = (S7 3 16 2).toNat by omega]; exact wl_WV hv8
              have han : ∀ i, i ∈ cSl S a → i < kn S := by rw [cSl_at (by omega) (by omega)]; exact wl_WV hwa
              refine kw_iload_n hC dX7_wall_65 rfl 3 rfl ?_
              refine kw_aload_n hC dX7_wall_66 rfl 0 rfl ?_
              refine kg_0_7 hC w7 f59 dX7_wall_67 rfl (by decide) (by decide) ?_
              refine kg_1_1 hC w6 f131 dX7_wall_70 rfl (by omega) (by omega) ?_
              refine kw_icmp_lt (tgt := 80) hC dX7_wall_73 rfl (by decide) (by omega) (by omega) ⟨fun c73 => ?_, fun c73 => ?_⟩
              · refine kw_aload_n hC dX7_wall_80 rfl 0 rfl ?_
                refine kg_0_10 hC w7 f69 dX7_wall_81 rfl (by decide) (by decide) ?_
                refine kw_aload_n hC dX7_wall_84 rfl 0 rfl ?_
                refine kg_0_7 hC w7 f59 dX7_wall_85 rfl (by decide) (by decide) ?_
                refine kg_1_0 hC w6 f157 dX7_wall_88 rfl (by omega) (by omega) ?_
                refine kw_iload_n hC dX7_wall_91 rfl 3 rfl ?_
                refine ka_2 hC dX7_wall_92 rfl (by omega) (by omega) (by omega) (by omega) ?_
                have hlx := hv8 c (by omega) (by omega)
                have hgc : FF.getD c.toNat 0 = (S7 2 8 c).toNat := by rw [← hFw, wl_get _ (by omega), Int.toNat_of_nonneg (by omega)]
                refine kw_callS hC (d_X7_setOwn hD (c := 22) (w := 0) (fun _ => rfl) (by decide) (by decide) (by omega) (by omega)) gX7_wall_X7_setOwn rfl ⟨rfl, rfl⟩ 2 (by decide +kernel) ⟨by decide, by decide⟩ rfl rfl (Nat.le_of_ble_eq_true rfl) dX7_wall_93 rfl (kd_v (fun S10 hp10 => ?_))
                obtain ⟨hg10, hp10⟩ := hp10
                have hfS10 : Fr tC S S10 := hfS7.trans (hg10.mono (fun k i j h => by unfold fCl at h; unfold tC; omega))
                have hRS10 := hRS.fr hfS10
                have hnS10 := hRS10.n
                have enS10 : S10 3 16 2 = S 3 16 2 := hfS10 3 16 2 (by unfold tC; omega)
                obtain ⟨hvo, hbd⟩ := vC_own hnS (by omega) (by omega) (fun j j0 j1 => hp10 j j0 (by omega))
                rw [← hgc] at hvo
                replace hvo : vC (kn S) (S10 22 0) = ownV (FF.getD c.toNat 0) := hvo
                rw [← enS10] at hbd
                have hz6 : ∀ j, S 3 16 2 ≤ j → j < 6 → S10 22 0 j = 0 := fun j j0 j1 => by rw [hp10 j (by omega) j1, if_neg (by omega)]
                replace hv8 : WV (S10 2 8) (S10 1 8 1) (S10 3 16 2) := hv8.fr hg10 (by unfold fCl; omega) (fun j => by unfold fCl; omega) (by omega)
                have e810 : S10 1 8 1 = S7 1 8 1 := hg10 1 8 1 (by unfold fCl; omega)
                have hvc : WV (S10 2 8) c (S10 3 16 2) := fun j j0 j1 => hv8 j j0 (by omega)
                have hFc : wl (S10 2 8) c.toNat = FF.take c.toNat := by rw [← hFw, wl_take _ (by omega)]; exact wl_eq rfl (fun j _ _ => hg10 2 8 j (by unfold fCl; omega))
                have hFtl : (FF.take c.toNat).length = c.toNat := by rw [List.length_take]; omega
                have hUo : UL L (ownV (FF.getD c.toNat 0)) := Or.inl (hE.1.own _ (hFn _ (getD_mem (by omega))))
                have hFtn : ∀ i, i ∈ FF.take c.toNat → i < kn S := fun i hi => hFn i (List.mem_of_mem_take hi)
                refine kw_aload_n hC dX7_wall_96 rfl 0 rfl ?_
                refine kg_0_0 hC w7 f12 dX7_wall_97 rfl (by decide) (by decide) ?_
                refine kw_aload_n hC dX7_wall_100 rfl 0 rfl ?_
                refine kg_0_7 hC w7 f59 dX7_wall_101 rfl (by decide) (by decide) ?_
                refine kw_iload_n hC dX7_wall_104 rfl 3 rfl ?_
                refine kw_aload_n hC dX7_wall_105 rfl 0 rfl ?_
                refine kg_0_10 hC w7 f69 dX7_wall_106 rfl (by decide) (by decide) ?_
                refine kw_callV hC (f_X3_turnBy hD (c := 22) (w := 0) (fun _ => rfl) (by decide) (by decide) (by decide) (fun j => by unfold tC; omega) (by omega) (by omega) (by omega) (by omega) hRS10 hvc hbd) gX7_wall_X3_turnBy ⟨_, rfl⟩ rfl (by omega) (show (16 : Int) < 17 by omega) rfl ⟨rfl, rfl⟩ 3 (by decide +kernel) ⟨by decide, by decide⟩ rfl rfl (Nat.le_of_ble_eq_true rfl) dX7_wall_109 rfl (kd_i (fun r11 S11 hp11 => ?_))
                obtain ⟨hg11, hp11⟩ := hp11
                have hfS11 : Fr tC S S11 := hfS10.trans (hg11.mono (fun k i j h => by unfold fCl at h; unfold tC; omega))
                have hRS11 := hRS.fr hfS11
                have hnS11 := hRS11.n
                have enS11 : S11 3 16 2 = S 3 16 2 := hfS11 3 16 2 (by unfold tC; omega)
                obtain ⟨hzz11, hq11⟩ := hp11
                rw [kM_eq (W := S10) (S := S) (hfS10 3 16 2 (by unfold tC; omega)) (fun j => hfS10 5 16 j (by unfold tC; omega)), kn_eq (W := S10) (S := S) (hfS10 3 16 2 (by unfold tC; omega))] at hq11
                have hTB := tbd_act (M := kM S) (n := kn S) hRS.mB hE.1 (R := (FF.take c.toNat)) hFtn ((FF.take c.toNat)).length (ownV (FF.getD c.toNat 0)) (Nat.le_refl _) hUo
                rw [List.take_length] at hTB
                rw [hFtl] at hTB
                rw [hFc, hvo] at hq11
                rw [hTB] at hq11
                obtain ⟨hr1_11, hvY, hbd⟩ := hq11.resolve_left (fun z => by cases z.2)
                replace hvo := (Option.some.inj hvY).symm
                rw [enS10, ← enS11] at hbd
                replace hz6 : ∀ j, S 3 16 2 ≤ j → j < 6 → S11 22 0 j = 0 := fun j j0 j1 => by rw [hzz11 j (by omega) j1]; exact hz6 j j0 j1
                refine kw_if_eq (tgt := 144) hC dX7_wall_112 rfl (by decide) (by omega) ⟨fun c112 => ?_, fun c112 => ?_⟩
                · refine kw_ldc2 (z := -10000000000004) hC dX7_wall_144 rfl l206 ?_
                  exact hR9.2.2.1 rfl _ _ _ _ dX7_wall_147 (by first | (exfalso; omega) | exact ⟨_, rfl, hRS11, tC_tXw hfS11, cSl_tC hfS11, (fWal_s ⟨⟨by omega, by omega⟩, ⟨by omega, by omega⟩, by omega, ⟨by omega, by omega⟩, by omega⟩ hF9 (by omega)).trans ((wab_at (by omega) hvo (fun j j0 j1 => hz6 j (by omega) j1) hYr (by omega) (by omega)).1 c155)⟩ | exact ⟨_, rfl, hRS11, tC_tXw hfS11, cSl_tC hfS11, (fWal_s ⟨⟨by omega, by omega⟩, ⟨by omega, by omega⟩, by omega, ⟨by omega, by omega⟩, by omega⟩ hF9 (by omega)).trans ((wab_at (by omega) hvo (fun j j0 j1 => hz6 j (by omega) j1) hYr (by omega) (by omega)).2 c155)⟩ | exact ⟨_, rfl, hRS11, tC_tXw hfS11, cSl_tC hfS11, fWal_k ⟨⟨by omega, by omega⟩, ⟨by omega, by omega⟩, by omega, ⟨by omega, by omega⟩, by omega⟩ hF9 (by omega)⟩ | exact ⟨_, rfl, hRS11, tC_tXw hfS11, cSl_tC hfS11, fWal_g ⟨⟨by omega, by omega⟩, ⟨by omega, by omega⟩, by omega, ⟨by omega, by omega⟩, by omega⟩ (hfj.resolve_right (fun z => by omega)).2⟩ | exact ⟨_, rfl, hRS11, tC_tXw hfS11, cSl_tC hfS11, fWal_b (by omega)⟩ | exact ⟨_, rfl, hRS11, tC_tXw hfS11, cSl_tC hfS11, fWal_b (fun z => by have h9 := (hqJ.resolve_right (fun z => by omega)).2; omega)⟩)
                · have hU1 := UL_act (M := kM S) (n := kn S) (fun i _ => hRS.mB.1 i) hE.1 hFtn hUo
                  refine kw_aload_n hC dX7_wall_115 rfl 0 rfl ?_
                  refine kg_0_0 hC w7 f12 dX7_wall_116 rfl (by decide) (by decide) ?_
                  refine kw_aload_n hC dX7_wall_119 rfl 0 rfl ?_
                  refine kg_0_2 hC w7 f25 dX7_wall_120 rfl (by decide) (by decide) ?_
                  refine kw_iload_n hC dX7_wall_123 rfl 1 rfl ?_
                  refine ka_20 hC dX7_wall_124 rfl (by decide) (by decide) (by omega) (by omega) ?_
                  refine kw_aload_n hC dX7_wall_125 rfl 0 rfl ?_
                  refine kg_0_2 hC w7 f25 dX7_wall_126 rfl (by decide) (by decide) ?_
                  refine kw_iload_n hC dX7_wall_129 rfl 1 rfl ?_
                  refine ka_20 hC dX7_wall_130 rfl (by decide) (by decide) (by omega) (by omega) ?_
                  refine kg_1_1 hC w6 f131 dX7_wall_131 rfl (by omega) (by omega) ?_
                  refine kw_chi (z' := S 1 a 1) (hfS11 1 a 1 (by unfold tC; omega)) ?_
                  have hws : WV (S11 2 a) (S 1 a 1) (S11 3 16 2) := hwa.eq (fun j _ _ => hfS11 2 a j (by unfold tC; omega)) rfl (by omega)
                  refine kw_aload_n hC dX7_wall_134 rfl 0 rfl ?_
                  refine kg_0_10 hC w7 f69 dX7_wall_135 rfl (by decide) (by decide) ?_
                  refine kw_callV hC (f_X3_turnBy hD (c := 22) (w := 0) (fun _ => rfl) (by decide) (by decide) (by decide) (fun j => by unfold tC; omega) (by omega) (by omega) (by omega) (by omega) hRS11 hws hbd) gX7_wall_X3_turnBy ⟨_, rfl⟩ rfl (by omega) (show (16 : Int) < 17 by omega) rfl ⟨rfl, rfl⟩ 3 (by decide +kernel) ⟨by decide, by decide⟩ rfl rfl (Nat.le_of_ble_eq_true rfl) dX7_wall_138 rfl (kd_i (fun r13 S13 hp13 => ?_))
                  obtain ⟨hg13, hp13⟩ := hp13
                  have hfS13 : Fr tC S S13 := hfS11.trans (hg13.mono (fun k i j h => by unfold fCl at h; unfold tC; omega))
                  have hRS13 := hRS.fr hfS13
                  have hnS13 := hRS13.n
                  have enS13 : S13 3 16 2 = S 3 16 2 := hfS13 3 16 2 (by unfold tC; omega)
                  obtain ⟨hzz13, hq13⟩ := hp13
                  rw [kM_eq (W := S11) (S := S) (hfS11 3 16 2 (by unfold tC; omega)) (fun j => hfS11 5 16 j (by unfold tC; omega)), kn_eq (W := S11) (S := S) (hfS11 3 16 2 (by unfold tC; omega))] at hq13
                  have hTB := tbd_act (M := kM S) (n := kn S) hRS.mB hE.1 (R := (cSl S a)) han ((cSl S a)).length (act (kM S) (kn S) (FF.take c.toNat) (ownV (FF.getD c.toNat 0))) (Nat.le_refl _) hU1
                  rw [List.take_length] at hTB
                  rw [show wl (S11 2 a) (S 1 a 1).toNat = cSl S a from (wl_eq rfl (fun j _ _ => hfS11 2 a j (by unfold tC; omega))).trans (cSl_at (by omega) (by omega)).symm, show (S 1 a 1).toNat = (cSl S a).length by omega, hvo] at hq13
                  rw [hTB] at hq13
                  obtain ⟨hr1_13, hvY, hbd⟩ := hq13.resolve_left (fun z => by cases z.2)
                  replace hvo := (Option.some.inj hvY).symm
                  rw [enS11, ← enS13] at hbd
                  replace hz6 : ∀ j, S 3 16 2 ≤ j → j < 6 → S13 22 0 j = 0 := fun j j0 j1 => by rw [hzz13 j (by omega) j1]; exact hz6 j j0 j1
                  refine kw_if_ne (tgt := 148) hC dX7_wall_141 rfl (by decide) (by omega) ⟨fun c141 => ?_, fun c141 => ?_⟩
                  · have hYr := (UL_act (M := kM S) (n := kn S) (fun i _ => hRS.mB.1 i) hE.1 han hU1).rg hE.1
                    refine kw_aload_n hC dX7_wall_148 rfl 0 rfl ?_
                    refine kg_0_10 hC w7 f69 dX7_wall_149 rfl (by decide) (by decide) ?_
                    refine kw_callS hC (d_X7_hasBelowZero hD (c := 22) (w := 0) (fun _ => rfl) (by decide) (by decide) ) gX7_wall_X7_hasBelowZero rfl ⟨rfl, rfl⟩ 1 (by decide +kernel) ⟨by decide, by decide⟩ rfl rfl (Nat.le_of_ble_eq_true rfl) dX7_wall_152 rfl (kd_ie ?_)
                    refine kw_ifeq_b (tgt := 169) hC dX7_wall_155 rfl (by decide) ⟨fun c155 => ?_, fun c155 => ?_⟩
                    · refine kw_aload_n hC dX7_wall_169 rfl 0 rfl ?_
                      refine kg_0_10 hC w7 f69 dX7_wall_170 rfl (by decide) (by decide) ?_
                      refine kw_iload hC dX7_wall_173 rfl 4 rfl ?_
                      refine ka_22 hC dX7_wall_175 rfl (by decide) (by decide) (by omega) (by omega) ?_
                      exact hR9.2.2.1 rfl _ _ _ _ dX7_wall_176 (by first | (exfalso; omega) | exact ⟨_, rfl, hRS13, tC_tXw hfS13, cSl_tC hfS13, (fWal_s ⟨⟨by omega, by omega⟩, ⟨by omega, by omega⟩, by omega, ⟨by omega, by omega⟩, by omega⟩ hF9 (by omega)).trans ((wab_at (by omega) hvo (fun j j0 j1 => hz6 j (by omega) j1) hYr (by omega) (by omega)).1 c155)⟩ | exact ⟨_, rfl, hRS13, tC_tXw hfS13, cSl_tC hfS13, (fWal_s ⟨⟨by omega, by omega⟩, ⟨by omega, by omega⟩, by omega, ⟨by omega, by omega⟩, by omega⟩ hF9 (by omega)).trans ((wab_at (by omega) hvo (fun j j0 j1 => hz6 j (by omega) j1) hYr (by omega) (by omega)).2 c155)⟩ | exact ⟨_, rfl, hRS13, tC_tXw hfS13, cSl_tC hfS13, fWal_k ⟨⟨by omega, by omega⟩, ⟨by omega, by omega⟩, by omega, ⟨by omega, by omega⟩, by omega⟩ hF9 (by omega)⟩ | exact ⟨_, rfl, hRS13, tC_tXw hfS13, cSl_tC hfS13, fWal_g ⟨⟨by omega, by omega⟩, ⟨by omega, by omega⟩, by omega, ⟨by omega, by omega⟩, by omega⟩ (hfj.resolve_right (fun z => by omega)).2⟩ | exact ⟨_, rfl, hRS13, tC_tXw hfS13, cSl_tC hfS13, fWal_b (by omega)⟩ | exact ⟨_, rfl, hRS13, tC_tXw hfS13, cSl_tC hfS13, fWal_b (fun z => by have h9 := (hqJ.resolve_right (fun z => by omega)).2; omega)⟩)
                    · refine kw_aload_n hC dX7_wall_158 rfl 0 rfl ?_
                      refine kg_0_10 hC w7 f69 dX7_wall_159 rfl (by decide) (by decide) ?_
                      refine kw_iload hC dX7_wall_162 rfl 4 rfl ?_
                      refine ka_22 hC dX7_wall_164 rfl (by decide) (by decide) (by omega) (by omega) ?_
                      refine kw_lneg hC dX7_wall_165 rfl ?_
                      refine kw_goto (tgt := 176) hC dX7_wall_166 rfl (by decide) ?_
                      exact hR9.2.2.1 rfl _ _ _ _ dX7_wall_176 (by first | (exfalso; omega) | exact ⟨_, rfl, hRS13, tC_tXw hfS13, cSl_tC hfS13, (fWal_s ⟨⟨by omega, by omega⟩, ⟨by omega, by omega⟩, by omega, ⟨by omega, by omega⟩, by omega⟩ hF9 (by omega)).trans ((wab_at (by omega) hvo (fun j j0 j1 => hz6 j (by omega) j1) hYr (by omega) (by omega)).1 c155)⟩ | exact ⟨_, rfl, hRS13, tC_tXw hfS13, cSl_tC hfS13, (fWal_s ⟨⟨by omega, by omega⟩, ⟨by omega, by omega⟩, by omega, ⟨by omega, by omega⟩, by omega⟩ hF9 (by omega)).trans ((wab_at (by omega) hvo (fun j j0 j1 => hz6 j (by omega) j1) hYr (by omega) (by omega)).2 c155)⟩ | exact ⟨_, rfl, hRS13, tC_tXw hfS13, cSl_tC hfS13, fWal_k ⟨⟨by omega, by omega⟩, ⟨by omega, by omega⟩, by omega, ⟨by omega, by omega⟩, by omega⟩ hF9 (by omega)⟩ | exact ⟨_, rfl, hRS13, tC_tXw hfS13, cSl_tC hfS13, fWal_g ⟨⟨by omega, by omega⟩, ⟨by omega, by omega⟩, by omega, ⟨by omega, by omega⟩, by omega⟩ (hfj.resolve_right (fun z => by omega)).2⟩ | exact ⟨_, rfl, hRS13, tC_tXw hfS13, cSl_tC hfS13, fWal_b (by omega)⟩ | exact ⟨_, rfl, hRS13, tC_tXw hfS13, cSl_tC hfS13, fWal_b (fun z => by have h9 := (hqJ.resolve_right (fun z => by omega)).2; omega)⟩)
                  · refine kw_ldc2 (z := -10000000000004) hC dX7_wall_144 rfl l206 ?_
                    exact hR9.2.2.1 rfl _ _ _ _ dX7_wall_147 (by first | (exfalso; omega) | exact ⟨_, rfl, hRS13, tC_tXw hfS13, cSl_tC hfS13, (fWal_s ⟨⟨by omega, by omega⟩, ⟨by omega, by omega⟩, by omega, ⟨by omega, by omega⟩, by omega⟩ hF9 (by omega)).trans ((wab_at (by omega) hvo (fun j j0 j1 => hz6 j (by omega) j1) hYr (by omega) (by omega)).1 c155)⟩ | exact ⟨_, rfl, hRS13, tC_tXw hfS13, cSl_tC hfS13, (fWal_s ⟨⟨by omega, by omega⟩, ⟨by omega, by omega⟩, by omega, ⟨by omega, by omega⟩, by omega⟩ hF9 (by omega)).trans ((wab_at (by omega) hvo (fun j j0 j1 => hz6 j (by omega) j1) hYr (by omega) (by omega)).2 c155)⟩ | exact ⟨_, rfl, hRS13, tC_tXw hfS13, cSl_tC hfS13, fWal_k ⟨⟨by omega, by omega⟩, ⟨by omega, by omega⟩, by omega, ⟨by omega, by omega⟩, by omega⟩ hF9 (by omega)⟩ | exact ⟨_, rfl, hRS13, tC_tXw hfS13, cSl_tC hfS13, fWal_g ⟨⟨by omega, by omega⟩, ⟨by omega, by omega⟩, by omega, ⟨by omega, by omega⟩, by omega⟩ (hfj.resolve_right (fun z => by omega)).2⟩ | exact ⟨_, rfl, hRS13, tC_tXw hfS13, cSl_tC hfS13, fWal_b (by omega)⟩ | exact ⟨_, rfl, hRS13, tC_tXw hfS13, cSl_tC hfS13, fWal_b (fun z => by have h9 := (hqJ.resolve_right (fun z => by omega)).2; omega)⟩)
              · refine kw_ldc2 (z := -10000000000001) hC dX7_wall_76 rfl l196 ?_
                exact hR9.2.2.1 rfl _ _ _ _ dX7_wall_79 (by first | (exfalso; omega) | exact ⟨_, rfl, hRS7, tC_tXw hfS7, cSl_tC hfS7, (fWal_s ⟨⟨by omega, by omega⟩, ⟨by omega, by omega⟩, by omega, ⟨by omega, by omega⟩, by omega⟩ hF9 (by omega)).trans ((wab_at (by omega) hvo (fun j j0 j1 => hz6 j (by omega) j1) hYr (by omega) (by omega)).1 c155)⟩ | exact ⟨_, rfl, hRS7, tC_tXw hfS7, cSl_tC hfS7, (fWal_s ⟨⟨by omega, by omega⟩, ⟨by omega, by omega⟩, by omega, ⟨by omega, by omega⟩, by omega⟩ hF9 (by omega)).trans ((wab_at (by omega) hvo (fun j j0 j1 => hz6 j (by omega) j1) hYr (by omega) (by omega)).2 c155)⟩ | exact ⟨_, rfl, hRS7, tC_tXw hfS7, cSl_tC hfS7, fWal_k ⟨⟨by omega, by omega⟩, ⟨by omega, by omega⟩, by omega, ⟨by omega, by omega⟩, by omega⟩ hF9 (by omega)⟩ | exact ⟨_, rfl, hRS7, tC_tXw hfS7, cSl_tC hfS7, fWal_g ⟨⟨by omega, by omega⟩, ⟨by omega, by omega⟩, by omega, ⟨by omega, by omega⟩, by omega⟩ (hfj.resolve_right (fun z => by omega)).2⟩ | exact ⟨_, rfl, hRS7, tC_tXw hfS7, cSl_tC hfS7, fWal_b (by omega)⟩ | exact ⟨_, rfl, hRS7, tC_tXw hfS7, cSl_tC hfS7, fWal_b (fun z => by have h9 := (hqJ.resolve_right (fun z => by omega)).2; omega)⟩)
            · refine kw_ldc2 (z := -10000000000004) hC dX7_wall_61 rfl l206 ?_
              exact hR9.2.2.1 rfl _ _ _ _ dX7_wall_64 (by first | (exfalso; omega) | exact ⟨_, rfl, hRS7, tC_tXw hfS7, cSl_tC hfS7, (fWal_s ⟨⟨by omega, by omega⟩, ⟨by omega, by omega⟩, by omega, ⟨by omega, by omega⟩, by omega⟩ hF9 (by omega)).trans ((wab_at (by omega) hvo (fun j j0 j1 => hz6 j (by omega) j1) hYr (by omega) (by omega)).1 c155)⟩ | exact ⟨_, rfl, hRS7, tC_tXw hfS7, cSl_tC hfS7, (fWal_s ⟨⟨by omega, by omega⟩, ⟨by omega, by omega⟩, by omega, ⟨by omega, by omega⟩, by omega⟩ hF9 (by omega)).trans ((wab_at (by omega) hvo (fun j j0 j1 => hz6 j (by omega) j1) hYr (by omega) (by omega)).2 c155)⟩ | exact ⟨_, rfl, hRS7, tC_tXw hfS7, cSl_tC hfS7, fWal_k ⟨⟨by omega, by omega⟩, ⟨by omega, by omega⟩, by omega, ⟨by omega, by omega⟩, by omega⟩ hF9 (by omega)⟩ | exact ⟨_, rfl, hRS7, tC_tXw hfS7, cSl_tC hfS7, fWal_g ⟨⟨by omega, by omega⟩, ⟨by omega, by omega⟩, by omega, ⟨by omega, by omega⟩, by omega⟩ (hfj.resolve_right (fun z => by omega)).2⟩ | exact ⟨_, rfl, hRS7, tC_tXw hfS7, cSl_tC hfS7, fWal_b (by omega)⟩ | exact ⟨_, rfl, hRS7, tC_tXw hfS7, cSl_tC hfS7, fWal_b (fun z => by have h9 := (hqJ.resolve_right (fun z => by omega)).2; omega)⟩)
          · refine kw_ldc2 (z := -10000000000001) hC dX7_wall_39 rfl l196 ?_
            exact hR9.2.2.1 rfl _ _ _ _ dX7_wall_42 (by first | (exfalso; omega) | exact ⟨_, rfl, hRS5, tC_tXw hfS5, cSl_tC hfS5, (fWal_s ⟨⟨by omega, by omega⟩, ⟨by omega, by omega⟩, by omega, ⟨by omega, by omega⟩, by omega⟩ hF9 (by omega)).trans ((wab_at (by omega) hvo (fun j j0 j1 => hz6 j (by omega) j1) hYr (by omega) (by omega)).1 c155)⟩ | exact ⟨_, rfl, hRS5, tC_tXw hfS5, cSl_tC hfS5, (fWal_s ⟨⟨by omega, by omega⟩, ⟨by omega, by omega⟩, by omega, ⟨by omega, by omega⟩, by omega⟩ hF9 (by omega)).trans ((wab_at (by omega) hvo (fun j j0 j1 => hz6 j (by omega) j1) hYr (by omega) (by omega)).2 c155)⟩ | exact ⟨_, rfl, hRS5, tC_tXw hfS5, cSl_tC hfS5, fWal_k ⟨⟨by omega, by omega⟩, ⟨by omega, by omega⟩, by omega, ⟨by omega, by omega⟩, by omega⟩ hF9 (by omega)⟩ | exact ⟨_, rfl, hRS5, tC_tXw hfS5, cSl_tC hfS5, fWal_g ⟨⟨by omega, by omega⟩, ⟨by omega, by omega⟩, by omega, ⟨by omega, by omega⟩, by omega⟩ (hfj.resolve_right (fun z => by omega)).2⟩ | exact ⟨_, rfl, hRS5, tC_tXw hfS5, cSl_tC hfS5, fWal_b (by omega)⟩ | exact ⟨_, rfl, hRS5, tC_tXw hfS5, cSl_tC hfS5, fWal_b (fun z => by have h9 := (hqJ.resolve_right (fun z => by omega)).2; omega)⟩)
end
