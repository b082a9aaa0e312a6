section
set_option maxHeartbeats 4000000 in
set_option maxRecDepth 100000 in
theorem f_X8_behind {g : wG} (hD : wD g) {S : wSt} {a : Int} (a0 : 0 ≤ a) (a1 : a < S 30 0 0) (hRS : RI S) (hw : WV (S 47 0) (S 30 0 8) (S 30 0 0)) (m0 : 0 ≤ S 30 0 8) (m1 : S 30 0 8 ≤ 200) (hg0 : S 30 0 16 = 0) (l : Launch) : Kt l yX8_behind wsX8_behind ({ frames := 2, cells := 0, slots := 0, locals := 49 } : Room) g S [vr g 30 0, vi a] (pI (fun r S' => Fr fT S S' ∧ ((bh (rM S) (rn S) (rR S) a.toNat = -4 ∧ r = -1 ∧ S' 30 0 16 = 1) ∨ (bh (rM S) (rn S) (rR S) a.toNat ≠ -4 ∧ r = bh (rM S) (rn S) (rR S) a.toNat ∧ S' 30 0 16 = 0)))) := by
  refine Kt.of (cc := cX8_behind) (nL := 3) (ret := (some .int)) (own := RX8) rfl hD (by decide) rfl (Nat.le_of_ble_eq_true rfl) ⟨rfl, rfl⟩ ?_
  intro E hC hR9
  have f81 : Cond.fieldLink RX8 81 "MirrorBenchModel" "isGreat" "Z" ∈ wsX8_behind := by decide +kernel
  have f92 : Cond.fieldLink RX8 92 "MirrorBenchModel" "rMany" "I" ∈ wsX8_behind := by decide +kernel
  have f95 : Cond.fieldLink RX8 95 "MirrorBenchModel" "r" "[I" ∈ wsX8_behind := by decide +kernel
  have w8 : ∀ w ∈ wsX80, w ∈ wsX8_behind := by decide +kernel
  show Wk E g 3 S 0 [(0, vr g 30 0), (1, vi a)] []
  have hfS : Fr fT S S := Fr.rfl _ S
  have hRS := hRS.fr (hfS.mono (fun k i j h => by unfold fT at h; unfold tR; omega))
  have hnS := hRS.n
  have enS : S 30 0 0 = S 30 0 0 := hfS 30 0 0 (by unfold fT; omega)
  have hnS := hRS.n
  refine kw_aload_n hC dX8_behind_0 rfl 0 rfl ?_
  refine kw_iload_n hC dX8_behind_1 rfl 1 rfl ?_
  refine kw_callV hC (d_X8_own hD (by omega)) gX8_behind_X8_own ⟨_, rfl⟩ rfl (by decide) (by decide) rfl ⟨rfl, rfl⟩ 1 (by decide +kernel) ⟨by decide, by decide⟩ rfl rfl (Nat.le_of_ble_eq_true rfl) dX8_behind_2 rfl (kd_v (fun S1 hp1 => ?_))
  obtain ⟨hg1, hp1⟩ := hp1
  have hfS1 : Fr fT S S1 := hfS.trans (hg1.mono (fun k i j h => by unfold fO at h; unfold fT; omega))
  have hRS1 := hRS.fr (hfS1.mono (fun k i j h => by unfold fT at h; unfold tR; omega))
  have hnS1 := hRS1.n
  have enS1 : S1 30 0 0 = S 30 0 0 := hfS1 30 0 0 (by unfold fT; omega)
  refine kw_aload_n hC dX8_behind_5 rfl 0 rfl ?_
  refine kg_30_8 hC w8 f92 dX8_behind_6 rfl (by decide) (by decide) ?_
  refine kw_chi (z' := S 30 0 8) (hg1 30 0 8 (by unfold fO; omega)) ?_
  refine kw_iconst hC dX8_behind_9 rfl ?_
  refine kw_isub hC dX8_behind_10 rfl ?_
  refine kw_istore_n (lv' := [(2, _), (0, _), (1, _)]) hC dX8_behind_11 rfl (by decide) rfl ?_
  have hL12 : ∀ (n12 : Nat) (x : Int) (W12 : wSt), Fr fT S W12 → (-1 ≤ x) → (x < S 30 0 8) → (W12 30 0 16 = 0) → (BhT (S 42 0) (S 47 0) (S 30 0 8) (S 30 0 0) (W12 55 0) (bh (rM S) (rn S) (rR S) a.toNat) x) → x + 1 < (n12 : Int) → Wk E g 3 W12 12 [(0, vr g 30 0), (1, vi a), (2, vi x)] [] := by
    intro n12
    induction n12 with
    | zero => intro x W12 hfW12 hx0 hx1 hgw hB hm12; exact absurd hm12 (by omega)
    | succ n12 ih12 =>
      intro x W12 hfW12 hx0 hx1 hgw hB hm12
      have hRW12 := hRS.fr (hfW12.mono (fun k i j h => by unfold fT at h; unfold tR; omega))
      have hnW12 := hRW12.n
      have enW12 : W12 30 0 0 = S 30 0 0 := hfW12 30 0 0 (by unfold fT; omega)
      have e47 : ∀ j, W12 47 0 j = S 47 0 j := fun j => hfW12 47 0 j (by unfold fT; omega)
      refine kw_iload_n hC dX8_behind_12 rfl 2 rfl ?_
      refine kw_if_lt (tgt := 56) hC dX8_behind_13 rfl (by decide) (by omega) ⟨fun c13 => ?_, fun c13 => ?_⟩
      · refine kw_iconst hC dX8_behind_56 rfl ?_
        have hBx := hB.end' (by omega)
        exact hR9.1 rfl _ _ _ _ dX8_behind_57 ⟨_, rfl, hfW12, Or.inr ⟨by omega, by omega, hgw⟩⟩
      · refine kw_aload_n hC dX8_behind_16 rfl 0 rfl ?_
        refine kw_aload_n hC dX8_behind_17 rfl 0 rfl ?_
        refine kg_30_7 hC w8 f95 dX8_behind_18 rfl (by decide) (by decide) ?_
        refine kw_iload_n hC dX8_behind_21 rfl 2 rfl ?_
        refine ka_47 hC dX8_behind_22 rfl (by decide) (by decide) (by omega) (by omega) ?_
        refine kw_chi (z' := S 47 0 x) (e47 x) ?_
        have hr := hw x (by omega) (by omega)
        refine kw_callV hC (d_X8_isOwn hD (by omega) (by omega) (by omega)) gX8_behind_X8_isOwn ⟨_, rfl⟩ rfl (by decide) (by decide) rfl ⟨rfl, rfl⟩ 1 (by decide +kernel) ⟨by decide, by decide⟩ rfl rfl (Nat.le_of_ble_eq_true rfl) dX8_behind_23 rfl (kd_ie ?_)
        refine kw_ifeq_b (tgt := 31) hC dX8_behind_26 rfl (by decide) ⟨fun c26 => ?_, fun c26 => ?_⟩
        · refine kw_aload_n hC dX8_behind_31 rfl 0 rfl ?_
          refine kw_aload_n hC dX8_behind_32 rfl 0 rfl ?_
          refine kg_30_7 hC w8 f95 dX8_behind_33 rfl (by decide) (by decide) ?_
          refine kw_iload_n hC dX8_behind_36 rfl 2 rfl ?_
          refine ka_47 hC dX8_behind_37 rfl (by decide) (by decide) (by omega) (by omega) ?_
          refine kw_chi (z' := S 47 0 x) (e47 x) ?_
          refine kw_callV hC (d_X8_turn hD (by omega) (by omega) hRW12) gX8_behind_X8_turn ⟨_, rfl⟩ rfl (by decide) (by decide) rfl ⟨rfl, rfl⟩ 1 (by decide +kernel) ⟨by decide, by decide⟩ rfl rfl (Nat.le_of_ble_eq_true rfl) dX8_behind_38 rfl (kd_v (fun S4 hp4 => ?_))
          obtain ⟨hg4, hp4⟩ := hp4
          have hfS4 : Fr fT S S4 := hfW12.trans hg4
          have hRS4 := hRS.fr (hfS4.mono (fun k i j h => by unfold fT at h; unfold tR; omega))
          have hnS4 := hRS4.n
          have enS4 : S4 30 0 0 = S 30 0 0 := hfS4 30 0 0 (by unfold fT; omega)
          obtain ⟨hv9, ho9, hgw2, hb9⟩ := hp4
          have hB2 := hB.goR hRS hw (by omega) (by omega) enW12 (fun j => hfW12 42 0 j (by unfold fT; omega)) hgw c26 hv9 ho9 hb9
          refine kw_aload_n hC dX8_behind_41 rfl 0 rfl ?_
          refine kg_30_16 hC w8 f81 dX8_behind_42 rfl (by decide) (by decide) ?_
          refine kw_if_eq (tgt := 50) hC dX8_behind_45 rfl (by decide) (by omega) ⟨fun c45 => ?_, fun c45 => ?_⟩
          · replace hB2 := hB2.resolve_left (fun q => by omega)
            refine kw_iinc (lv' := [(2, _), (0, _), (1, _)]) hC dX8_behind_50 rfl 2 rfl (by decide) rfl ?_
            refine kw_goto (tgt := 12) hC dX8_behind_53 rfl (by decide) ?_
            refine kw_lv [1, 2, 0] rfl ?_
            exact ih12 (x + -1) S4 hfS4 (by omega) (by omega) hB2.1 (by rw [show x + -1 = x - 1 by omega]; exact hB2.2) (by omega)
          · refine kw_iconst hC dX8_behind_48 rfl ?_
            exact hR9.1 rfl _ _ _ _ dX8_behind_49 ⟨_, rfl, hfS4, Or.inl (by rcases hB2 with q | q; exact ⟨q.2, by omega, q.1⟩; exact absurd q.1 (by omega))⟩
        · refine kw_iload_n hC dX8_behind_29 rfl 2 rfl ?_
          have hBx := hB.hitR hRS hw (by omega) (by omega) enW12 c26
          exact hR9.1 rfl _ _ _ _ dX8_behind_30 ⟨_, rfl, hfW12, Or.inr ⟨by omega, by omega, hgw⟩⟩
  refine kw_lv [1, 2, 0] rfl ?_
  exact hL12 201 (S 30 0 8 - 1) S1 hfS1 (by omega) (by omega) (by have e16 := hg1 30 0 16 (by unfold fO; omega); omega) (BhT.st hRS.n m0 a0 a1 (fun j j0 j1 => hp1 j j0 (by omega))) (by omega)

set_option maxHeartbeats 4000000 in
set_option maxRecDepth 100000 in
theorem f_X8_ahead {g : wG} (hD : wD g) {S : wSt} {a : Int} (a0 : 0 ≤ a) (a1 : a < S 30 0 0) (hRS : RI S) (hw : WV (S 47 0) (S 30 0 8) (S 30 0 0)) (m0 : 0 ≤ S 30 0 8) (m1 : S 30 0 8 ≤ 200) (hg0 : S 30 0 16 = 0) (l : Launch) : Kt l yX8_ahead wsX8_ahead ({ frames := 2, cells := 0, slots := 0, locals := 49 } : Room) g S [vr g 30 0, vi a] (pI (fun r S' => Fr fT S S' ∧ ((ah (rM S) (rn S) (rR S) a.toNat = -4 ∧ r = -1 ∧ S' 30 0 16 = 1) ∨ (ah (rM S) (rn S) (rR S) a.toNat ≠ -4 ∧ r = ah (rM S) (rn S) (rR S) a.toNat ∧ S' 30 0 16 = 0)))) := by
  refine Kt.of (cc := cX8_ahead) (nL := 3) (ret := (some .int)) (own := RX8) rfl hD (by decide) rfl (Nat.le_of_ble_eq_true rfl) ⟨rfl, rfl⟩ ?_
  intro E hC hR9
  have f81 : Cond.fieldLink RX8 81 "MirrorBenchModel" "isGreat" "Z" ∈ wsX8_ahead := by decide +kernel
  have f92 : Cond.fieldLink RX8 92 "MirrorBenchModel" "rMany" "I" ∈ wsX8_ahead := by decide +kernel
  have f95 : Cond.fieldLink RX8 95 "MirrorBenchModel" "r" "[I" ∈ wsX8_ahead := by decide +kernel
  have w8 : ∀ w ∈ wsX80, w ∈ wsX8_ahead := by decide +kernel
  show Wk E g 3 S 0 [(0, vr g 30 0), (1, vi a)] []
  have hfS : Fr fT S S := Fr.rfl _ S
  have hRS := hRS.fr (hfS.mono (fun k i j h => by unfold fT at h; unfold tR; omega))
  have hnS := hRS.n
  have enS : S 30 0 0 = S 30 0 0 := hfS 30 0 0 (by unfold fT; omega)
  have hnS := hRS.n
  refine kw_aload_n hC dX8_ahead_0 rfl 0 rfl ?_
  refine kw_iload_n hC dX8_ahead_1 rfl 1 rfl ?_
  refine kw_callV hC (d_X8_own hD (by omega)) gX8_ahead_X8_own ⟨_, rfl⟩ rfl (by decide) (by decide) rfl ⟨rfl, rfl⟩ 1 (by decide +kernel) ⟨by decide, by decide⟩ rfl rfl (Nat.le_of_ble_eq_true rfl) dX8_ahead_2 rfl (kd_v (fun S1 hp1 => ?_))
  obtain ⟨hg1, hp1⟩ := hp1
  have hfS1 : Fr fT S S1 := hfS.trans (hg1.mono (fun k i j h => by unfold fO at h; unfold fT; omega))
  have hRS1 := hRS.fr (hfS1.mono (fun k i j h => by unfold fT at h; unfold tR; omega))
  have hnS1 := hRS1.n
  have enS1 : S1 30 0 0 = S 30 0 0 := hfS1 30 0 0 (by unfold fT; omega)
  refine kw_iconst hC dX8_ahead_5 rfl ?_
  refine kw_istore_n (lv' := [(2, _), (0, _), (1, _)]) hC dX8_ahead_6 rfl (by decide) rfl ?_
  have hL7 : ∀ (n7 : Nat) (x : Int) (W7 : wSt), Fr fT S W7 → (0 ≤ x) → (x ≤ S 30 0 8) → (W7 30 0 16 = 0) → (AhT (S 42 0) (S 47 0) (S 30 0 8) (S 30 0 0) (W7 55 0) (ah (rM S) (rn S) (rR S) a.toNat) x) → S 30 0 8 - x < (n7 : Int) → Wk E g 3 W7 7 [(0, vr g 30 0), (1, vi a), (2, vi x)] [] := by
    intro n7
    induction n7 with
    | zero => intro x W7 hfW7 hx0 hx1 hgw hB hm7; exact absurd hm7 (by omega)
    | succ n7 ih7 =>
      intro x W7 hfW7 hx0 hx1 hgw hB hm7
      have hRW7 := hRS.fr (hfW7.mono (fun k i j h => by unfold fT at h; unfold tR; omega))
      have hnW7 := hRW7.n
      have enW7 : W7 30 0 0 = S 30 0 0 := hfW7 30 0 0 (by unfold fT; omega)
      have e47 : ∀ j, W7 47 0 j = S 47 0 j := fun j => hfW7 47 0 j (by unfold fT; omega)
      have e8 : W7 30 0 8 = S 30 0 8 := hfW7 30 0 8 (by unfold fT; omega)
      refine kw_iload_n hC dX8_ahead_7 rfl 2 rfl ?_
      refine kw_aload_n hC dX8_ahead_8 rfl 0 rfl ?_
      refine kg_30_8 hC w8 f92 dX8_ahead_9 rfl (by decide) (by decide) ?_
      refine kw_icmp_ge (tgt := 55) hC dX8_ahead_12 rfl (by decide) (by omega) (by omega) ⟨fun c12 => ?_, fun c12 => ?_⟩
      · refine kw_iconst hC dX8_ahead_55 rfl ?_
        have hBx := hB.end' (by omega)
        exact hR9.1 rfl _ _ _ _ dX8_ahead_56 ⟨_, rfl, hfW7, Or.inr ⟨by omega, by omega, hgw⟩⟩
      · refine kw_aload_n hC dX8_ahead_15 rfl 0 rfl ?_
        refine kw_aload_n hC dX8_ahead_16 rfl 0 rfl ?_
        refine kg_30_7 hC w8 f95 dX8_ahead_17 rfl (by decide) (by decide) ?_
        refine kw_iload_n hC dX8_ahead_20 rfl 2 rfl ?_
        refine ka_47 hC dX8_ahead_21 rfl (by decide) (by decide) (by omega) (by omega) ?_
        refine kw_chi (z' := S 47 0 x) (e47 x) ?_
        have hr := hw x (by omega) (by omega)
        refine kw_callV hC (d_X8_isOwn hD (by omega) (by omega) (by omega)) gX8_ahead_X8_isOwn ⟨_, rfl⟩ rfl (by decide) (by decide) rfl ⟨rfl, rfl⟩ 1 (by decide +kernel) ⟨by decide, by decide⟩ rfl rfl (Nat.le_of_ble_eq_true rfl) dX8_ahead_22 rfl (kd_ie ?_)
        refine kw_ifeq_b (tgt := 30) hC dX8_ahead_25 rfl (by decide) ⟨fun c25 => ?_, fun c25 => ?_⟩
        · refine kw_aload_n hC dX8_ahead_30 rfl 0 rfl ?_
          refine kw_aload_n hC dX8_ahead_31 rfl 0 rfl ?_
          refine kg_30_7 hC w8 f95 dX8_ahead_32 rfl (by decide) (by decide) ?_
          refine kw_iload_n hC dX8_ahead_35 rfl 2 rfl ?_
          refine ka_47 hC dX8_ahead_36 rfl (by decide) (by decide) (by omega) (by omega) ?_
          refine kw_chi (z' := S 47 0 x) (e47 x) ?_
          refine kw_callV hC (d_X8_turn hD (by omega) (by omega) hRW7) gX8_ahead_X8_turn ⟨_, rfl⟩ rfl (by decide) (by decide) rfl ⟨rfl, rfl⟩ 1 (by decide +kernel) ⟨by decide, by decide⟩ rfl rfl (Nat.le_of_ble_eq_true rfl) dX8_ahead_37 rfl (kd_v (fun S4 hp4 => ?_))
          obtain ⟨hg4, hp4⟩ := hp4
          have hfS4 : Fr fT S S4 := hfW7.trans hg4
          have hRS4 := hRS.fr (hfS4.mono (fun k i j h => by unfold fT at h; unfold tR; omega))
          have hnS4 := hRS4.n
          have enS4 : S4 30 0 0 = S 30 0 0 := hfS4 30 0 0 (by unfold fT; omega)
          obtain ⟨hv9, ho9, hgw2, hb9⟩ := hp4
          have hB2 := hB.goR hRS hw (by omega) (by omega) enW7 (fun j => hfW7 42 0 j (by unfold fT; omega)) hgw c25 hv9 ho9 hb9
          refine kw_aload_n hC dX8_ahead_40 rfl 0 rfl ?_
          refine kg_30_16 hC w8 f81 dX8_ahead_41 rfl (by decide) (by decide) ?_
          refine kw_if_eq (tgt := 49) hC dX8_ahead_44 rfl (by decide) (by omega) ⟨fun c44 => ?_, fun c44 => ?_⟩
          · replace hB2 := hB2.resolve_left (fun q => by omega)
            refine kw_iinc (lv' := [(2, _), (0, _), (1, _)]) hC dX8_ahead_49 rfl 2 rfl (by decide) rfl ?_
            refine kw_goto (tgt := 7) hC dX8_ahead_52 rfl (by decide) ?_
            refine kw_lv [1, 2, 0] rfl ?_
            exact ih7 (x + 1) S4 hfS4 (by omega) (by omega) hB2.1 hB2.2 (by omega)
          · refine kw_iconst hC dX8_ahead_47 rfl ?_
            exact hR9.1 rfl _ _ _ _ dX8_ahead_48 ⟨_, rfl, hfS4, Or.inl (by rcases hB2 with q | q; exact ⟨q.2, by omega, q.1⟩; exact absurd q.1 (by omega))⟩
        · refine kw_iload_n hC dX8_ahead_28 rfl 2 rfl ?_
          have hBx := hB.hitR hRS hw (by omega) (by omega) enW7 c25
          exact hR9.1 rfl _ _ _ _ dX8_ahead_29 ⟨_, rfl, hfW7, Or.inr ⟨by omega, by omega, hgw⟩⟩
  refine kw_lv [1, 2, 0] rfl ?_
  exact hL7 201 0 S1 hfS1 (by omega) (by omega) (by have e16 := hg1 30 0 16 (by unfold fO; omega); omega) (AhT.st hRS.n a0 a1 (fun j j0 j1 => hp1 j j0 (by omega))) (by omega)

set_option maxHeartbeats 4000000 in
set_option maxRecDepth 100000 in
theorem f_X8_shortOf {g : wG} (hD : wD g) {S : wSt} (hRS : RI S) (hw : WV (S 53 0) (S 30 0 14) (S 30 0 0)) (m0 : 0 ≤ S 30 0 14) (m1 : S 30 0 14 ≤ 200) (l : Launch) : Kt l yX8_shortOf wsX8_shortOf ({ frames := 3, cells := 0, slots := 0, locals := 71 } : Room) g S [vr g 30 0] (pI (fun r S' => Fr fS S S' ∧ ((0 ≤ S' 30 0 8 ∧ S' 30 0 8 ≤ S 30 0 14) ∧ WV (S' 47 0) (S' 30 0 8) (S 30 0 0) ∧ ((r = 0 ∧ S' 30 0 16 = 1 ∧ shoP (rM S) (rn S) [] (rW S) = none) ∨ (r = 1 ∧ S' 30 0 16 = 0 ∧ shoP (rM S) (rn S) [] (rW S) = some (rR S')))))) := by
  refine Kt.of (cc := cX8_shortOf) (nL := 3) (ret := (some .boolean)) (own := RX8) rfl hD (by decide) rfl (Nat.le_of_ble_eq_true rfl) ⟨rfl, rfl⟩ ?_
  intro E hC hR9
  have f57 : Cond.fieldLink RX8 57 "MirrorBenchModel" "wMany" "I" ∈ wsX8_shortOf := by decide +kernel
  have f60 : Cond.fieldLink RX8 60 "MirrorBenchModel" "w" "[I" ∈ wsX8_shortOf := by decide +kernel
  have f81 : Cond.fieldLink RX8 81 "MirrorBenchModel" "isGreat" "Z" ∈ wsX8_shortOf := by decide +kernel
  have f92 : Cond.fieldLink RX8 92 "MirrorBenchModel" "rMany" "I" ∈ wsX8_shortOf := by decide +kernel
  have f95 : Cond.fieldLink RX8 95 "MirrorBenchModel" "r" "[I" ∈ wsX8_shortOf := by decide +kernel
  have w8 : ∀ w ∈ wsX80, w ∈ wsX8_shortOf := by decide +kernel
  show Wk E g 3 S 0 [(0, vr g 30 0)] []
  have hfS : Fr fS S S := Fr.rfl _ S
  have hRS := hRS.fr (hfS.mono (fun k i j h => by unfold fS at h; unfold tR; omega))
  have hnS := hRS.n
  have enS : S 30 0 0 = S 30 0 0 := hfS 30 0 0 (by unfold fS; omega)
  have eNS : rn S = rn S := rn_eq enS
  have eMS : rM S = rM S := rM_eq enS (fun j => hfS 42 0 j (by unfold fS; omega))
  refine kw_aload_n hC dX8_shortOf_0 rfl 0 rfl ?_
  refine kw_iconst hC dX8_shortOf_1 rfl ?_
  refine kp_30_16 hC w8 f81 dX8_shortOf_2 rfl (by decide) (by decide) (by omega) ?_
  refine kw_hv hfS (by unfold fS; omega) (fun S1 hfS1 hv1 ho1 => ?_)
  have hRS1 := hRS.fr (hfS1.mono (fun k i j h => by unfold fS at h; unfold tR; omega))
  have hnS1 := hRS1.n
  have enS1 : S1 30 0 0 = S 30 0 0 := hfS1 30 0 0 (by unfold fS; omega)
  have eNS1 : rn S1 = rn S := rn_eq enS1
  have eMS1 : rM S1 = rM S := rM_eq enS1 (fun j => hfS1 42 0 j (by unfold fS; omega))
  refine kw_aload_n hC dX8_shortOf_5 rfl 0 rfl ?_
  refine kw_iconst hC dX8_shortOf_6 rfl ?_
  refine kp_30_8 hC w8 f92 dX8_shortOf_7 rfl (by decide) (by decide) ?_
  refine kw_hv hfS1 (by unfold fS; omega) (fun S2 hfS2 hv2 ho2 => ?_)
  have hRS2 := hRS.fr (hfS2.mono (fun k i j h => by unfold fS at h; unfold tR; omega))
  have hnS2 := hRS2.n
  have enS2 : S2 30 0 0 = S 30 0 0 := hfS2 30 0 0 (by unfold fS; omega)
  have eNS2 : rn S2 = rn S := rn_eq enS2
  have eMS2 : rM S2 = rM S := rM_eq enS2 (fun j => hfS2 42 0 j (by unfold fS; omega))
  refine kw_iconst hC dX8_shortOf_10 rfl ?_
  refine kw_istore_n (lv' := [(1, _), (0, _)]) hC dX8_shortOf_11 rfl (by decide) rfl ?_
  have hL12 : ∀ (n12 : Nat) (x : Int) (W12 : wSt), Fr fS S W12 → (0 ≤ x) → (x ≤ S 30 0 14) → (0 ≤ W12 30 0 8) → (W12 30 0 8 ≤ x) → (WV (W12 47 0) (W12 30 0 8) (S 30 0 0)) → (W12 30 0 16 = 0) → (shoP (rM S) (rn S) (rR W12) ((wl (S 53 0) (S 30 0 14).toNat).drop x.toNat) = shoP (rM S) (rn S) [] (rW S)) → S 30 0 14 - x < (n12 : Int) → Wk E g 3 W12 12 [(0, vr g 30 0), (1, vi x)] [] := by
    intro n12
    induction n12 with
    | zero => intro x W12 hfW12 hx0 hx1 r0 r1 hr hgw hs hm12; exact absurd hm12 (by omega)
    | succ n12 ih12 =>
      intro x W12 hfW12 hx0 hx1 r0 r1 hr hgw hs hm12
      have hRW12 := hRS.fr (hfW12.mono (fun k i j h => by unfold fS at h; unfold tR; omega))
      have hnW12 := hRW12.n
      have enW12 : W12 30 0 0 = S 30 0 0 := hfW12 30 0 0 (by unfold fS; omega)
      have eNW12 : rn W12 = rn S := rn_eq enW12
      have eMW12 : rM W12 = rM S := rM_eq enW12 (fun j => hfW12 42 0 j (by unfold fS; omega))
      have e53 : ∀ j, W12 53 0 j = S 53 0 j := fun j => hfW12 53 0 j (by unfold fS; omega)
      have e14 : W12 30 0 14 = S 30 0 14 := hfW12 30 0 14 (by unfold fS; omega)
      refine kw_iload_n hC dX8_shortOf_12 rfl 1 rfl ?_
      refine kw_aload_n hC dX8_shortOf_13 rfl 0 rfl ?_
      refine kg_30_14 hC w8 f57 dX8_shortOf_14 rfl (by decide) (by decide) ?_
      refine kw_icmp_ge (tgt := 83) hC dX8_shortOf_17 rfl (by decide) (by omega) (by omega) ⟨fun c17 => ?_, fun c17 => ?_⟩
      · refine kw_iconst hC dX8_shortOf_83 rfl ?_
        exact hR9.2.1 rfl _ _ _ _ dX8_shortOf_84 (by omega) ⟨_, rfl, hfW12, ⟨by omega, by omega⟩, hr, Or.inr ⟨rfl, hgw, shoP_end hs (by omega)⟩⟩
      · refine kw_aload_n hC dX8_shortOf_20 rfl 0 rfl ?_
        refine kw_aload_n hC dX8_shortOf_21 rfl 0 rfl ?_
        refine kg_30_13 hC w8 f60 dX8_shortOf_22 rfl (by decide) (by decide) ?_
        refine kw_iload_n hC dX8_shortOf_25 rfl 1 rfl ?_
        refine ka_53 hC dX8_shortOf_26 rfl (by decide) (by decide) (by omega) (by omega) ?_
        refine kw_chi (z' := S 53 0 x) (e53 x) ?_
        have hl := hw x (by omega) (by omega)
        have hgo := shoP_go hs (by omega) (by omega)
        refine kw_callV hC (f_X8_behind hD (by omega) (by omega) hRW12 (hr.eq (fun _ _ _ => rfl) rfl enW12) (by omega) (by omega) hgw) gX8_shortOf_X8_behind ⟨_, rfl⟩ rfl (by decide) (by decide) rfl ⟨rfl, rfl⟩ 1 (by decide +kernel) ⟨by decide, by decide⟩ rfl rfl (Nat.le_of_ble_eq_true rfl) dX8_shortOf_27 rfl (kd_i (fun r4 S4 hp4 => ?_))
        obtain ⟨hg4, hp4⟩ := hp4
        have hfS4 : Fr fS S S4 := hfW12.trans (hg4.mono (fun k i j h => by unfold fT at h; unfold fS; omega))
        have hRS4 := hRS.fr (hfS4.mono (fun k i j h => by unfold fS at h; unfold tR; omega))
        have hnS4 := hRS4.n
        have enS4 : S4 30 0 0 = S 30 0 0 := hfS4 30 0 0 (by unfold fS; omega)
        have eNS4 : rn S4 = rn S := rn_eq enS4
        have eMS4 : rM S4 = rM S := rM_eq enS4 (fun j => hfS4 42 0 j (by unfold fS; omega))
        rw [eMW12, eNW12] at hp4
        have hbr := bh_r (rM S) (rn S) (rR W12) (S 53 0 x).toNat
        have hlr : ((rR W12).length : Int) = W12 30 0 8 := by unfold rR; rw [wl_len]; omega
        have e8 : S4 30 0 8 = W12 30 0 8 := hg4 30 0 8 (by unfold fT; omega)
        have e47 : ∀ j, S4 47 0 j = W12 47 0 j := fun j => hg4 47 0 j (by unfold fT; omega)
        have hr8 : WV (S4 47 0) (S4 30 0 8) (S 30 0 0) := hr.eq (fun j _ _ => e47 j) e8 rfl
        have eR8 : rR S4 = rR W12 := wl_eq e8 (fun j _ _ => e47 j)
        have hrb : r4 = -1 ∨ r4 = bh (rM S) (rn S) (rR W12) (S 53 0 x).toNat := by omega
        refine kw_istore_n (lv' := [(2, _), (0, _), (1, _)]) hC dX8_shortOf_30 rfl (by decide) rfl ?_
        refine kw_aload_n hC dX8_shortOf_31 rfl 1 rfl ?_
        refine kg_30_16 hC w8 f81 dX8_shortOf_32 rfl (by decide) (by decide) ?_
        refine kw_if_eq (tgt := 40) hC dX8_shortOf_35 rfl (by decide) (by omega) ⟨fun c35 => ?_, fun c35 => ?_⟩
        · refine kw_iload_n hC dX8_shortOf_40 rfl 0 rfl ?_
          refine kw_if_lt (tgt := 52) hC dX8_shortOf_41 rfl (by decide) (by omega) ⟨fun c41 => ?_, fun c41 => ?_⟩
          · refine kw_aload_n hC dX8_shortOf_52 rfl 1 rfl ?_
            refine kg_30_7 hC w8 f95 dX8_shortOf_53 rfl (by decide) (by decide) ?_
            refine kw_aload_n hC dX8_shortOf_56 rfl 1 rfl ?_
            refine kg_30_8 hC w8 f92 dX8_shortOf_57 rfl (by decide) (by decide) ?_
            refine kw_aload_n hC dX8_shortOf_60 rfl 1 rfl ?_
            refine kg_30_13 hC w8 f60 dX8_shortOf_61 rfl (by decide) (by decide) ?_
            refine kw_iload_n hC dX8_shortOf_64 rfl 2 rfl ?_
            refine ka_53 hC dX8_shortOf_65 rfl (by decide) (by decide) (by omega) (by omega) ?_
            refine kw_chi (z' := S 53 0 x) (hfS4 53 0 x (by unfold fS; omega)) ?_
            refine ks_47 hC dX8_shortOf_66 rfl (by decide) (by decide) (by omega) (by omega) ?_
            refine kw_hv hfS4 (by unfold fS; omega) (fun S7 hfS7 hv7 ho7 => ?_)
            have hRS7 := hRS.fr (hfS7.mono (fun k i j h => by unfold fS at h; unfold tR; omega))
            have hnS7 := hRS7.n
            have enS7 : S7 30 0 0 = S 30 0 0 := hfS7 30 0 0 (by unfold fS; omega)
            have eNS7 : rn S7 = rn S := rn_eq enS7
            have eMS7 : rM S7 = rM S := rM_eq enS7 (fun j => hfS7 42 0 j (by unfold fS; omega))
            have q8 : S7 30 0 8 = S4 30 0 8 := ho7 30 0 8 (by omega)
            have q16 : S7 30 0 16 = S4 30 0 16 := ho7 30 0 16 (by omega)
            have hr7 : WV (S7 47 0) (S4 30 0 8 + 1) (S 30 0 0) := hr8.add (fun j hj => ho7 47 0 j (by omega)) (by rw [hv7]; omega)
            have eR7 : wl (S7 47 0) (S4 30 0 8 + 1).toNat = rR S4 ++ [(S 53 0 x).toNat] := wl_add (by omega) (fun j _ _ => ho7 47 0 j (by omega)) hv7
            refine kw_aload_n hC dX8_shortOf_67 rfl 1 rfl ?_
            refine kw_dup hC dX8_shortOf_68 rfl rfl ?_
            refine kg_30_8 hC w8 f92 dX8_shortOf_69 rfl (by decide) (by decide) ?_
            refine kw_iconst hC dX8_shortOf_72 rfl ?_
            refine kw_iadd hC dX8_shortOf_73 rfl ?_
            refine kp_30_8 hC w8 f92 dX8_shortOf_74 rfl (by decide) (by decide) ?_
            refine kw_hv hfS7 (by unfold fS; omega) (fun S8 hfS8 hv8 ho8 => ?_)
            have hRS8 := hRS.fr (hfS8.mono (fun k i j h => by unfold fS at h; unfold tR; omega))
            have hnS8 := hRS8.n
            have enS8 : S8 30 0 0 = S 30 0 0 := hfS8 30 0 0 (by unfold fS; omega)
            have eNS8 : rn S8 = rn S := rn_eq enS8
            have eMS8 : rM S8 = rM S := rM_eq enS8 (fun j => hfS8 42 0 j (by unfold fS; omega))
            have hr9 : WV (S8 47 0) (S8 30 0 8) (S 30 0 0) := hr7.eq (fun j _ _ => ho8 47 0 j (by omega)) (by rw [hv8, q8]) rfl
            have hgx : S8 30 0 16 = S7 30 0 16 := ho8 30 0 16 (by omega)
            have hz := hv8
            have eR9 : rR S8 = wl (S7 47 0) (S7 30 0 8 + 1).toNat := wl_eq (by omega) (fun j _ _ => ho8 47 0 j (by omega))
            rw [q8, eR7, eR8] at eR9
            have hs9 : shoP (rM S) (rn S) (rR S8) ((wl (S 53 0) (S 30 0 14).toNat).drop (x + 1).toNat) = shoP (rM S) (rn S) [] (rW S) := by rw [eR9]; exact hgo.2.1 (by omega)
            refine kw_iinc (lv' := [(1, _), (2, _), (0, _)]) hC dX8_shortOf_77 rfl 2 rfl (by decide) rfl ?_
            refine kw_goto (tgt := 12) hC dX8_shortOf_80 rfl (by decide) ?_
            refine kw_lv [2, 0] rfl ?_
            exact ih12 (x + 1) S8 hfS8 (by omega) (by omega) (by omega) (by omega) hr9 (by omega) hs9 (by omega)
          · refine kw_aload_n hC dX8_shortOf_44 rfl 1 rfl ?_
            refine kw_iload_n hC dX8_shortOf_45 rfl 0 rfl ?_
            refine kw_callV hC (d_X8_goesFromR hD (by omega) (by omega) (by omega)) gX8_shortOf_X8_goesFromR ⟨_, rfl⟩ rfl (by decide) (by decide) rfl ⟨rfl, rfl⟩ 1 (by decide +kernel) ⟨by decide, by decide⟩ rfl rfl (Nat.le_of_ble_eq_true rfl) dX8_shortOf_46 rfl (kd_v (fun S9 hp9 => ?_))
            obtain ⟨hg9, hp9⟩ := hp9
            have hfS9 : Fr fS S S9 := hfS4.trans (hg9.mono (fun k i j h => by unfold fG at h; unfold fS; omega))
            have hRS9 := hRS.fr (hfS9.mono (fun k i j h => by unfold fS at h; unfold tR; omega))
            have hnS9 := hRS9.n
            have enS9 : S9 30 0 0 = S 30 0 0 := hfS9 30 0 0 (by unfold fS; omega)
            have eNS9 : rn S9 = rn S := rn_eq enS9
            have eMS9 : rM S9 = rM S := rM_eq enS9 (fun j => hfS9 42 0 j (by unfold fS; omega))
            obtain ⟨q8, q1, q2⟩ := hp9
            have hr9 : WV (S9 47 0) (S9 30 0 8) (S 30 0 0) := q8 ▸ WV.del hr8 q1 q2 (by omega)
            have hgx : S9 30 0 16 = S4 30 0 16 := hg9 30 0 16 (by unfold fG; omega)
            have hs9 : shoP (rM S) (rn S) (rR S9) ((wl (S 53 0) (S 30 0 14).toNat).drop (x + 1).toNat) = shoP (rM S) (rn S) [] (rW S) := by rw [show rR S9 = (rR S4).eraseIdx _ from (wl_eq q8 (fun _ _ _ => rfl)).trans (wl_del (by omega) (by omega) q1 q2), eR8]; rw [hrb.resolve_left (by omega)]; exact hgo.2.2 (by omega)
            refine kw_goto (tgt := 77) hC dX8_shortOf_49 rfl (by decide) ?_
            refine kw_iinc (lv' := [(1, _), (2, _), (0, _)]) hC dX8_shortOf_77 rfl 2 rfl (by decide) rfl ?_
            refine kw_goto (tgt := 12) hC dX8_shortOf_80 rfl (by decide) ?_
            refine kw_lv [2, 0] rfl ?_
            exact ih12 (x + 1) S9 hfS9 (by omega) (by omega) (by omega) (by omega) hr9 (by omega) hs9 (by omega)
        · refine kw_iconst hC dX8_shortOf_38 rfl ?_
          exact hR9.2.1 rfl _ _ _ _ dX8_shortOf_39 (by omega) ⟨_, rfl, hfS4, ⟨by omega, by omega⟩, hr8, Or.inl ⟨rfl, by omega, hgo.1 (by omega)⟩⟩
  refine kw_lv [1, 0] rfl ?_
  exact hL12 201 0 S2 hfS2 (by omega) (by omega) (by omega) (by omega) (fun j _ _ => by omega) (by have := ho2 30 0 16 (by omega); omega) (by rw [show rR S2 = [] from by unfold rR; rw [hv2]; rfl]; rfl) (by omega)

set_option maxHeartbeats 4000000 in
set_option maxRecDepth 100000 in
theorem f_X8_formOfR {g : wG} (hD : wD g) {S : wSt} (hRS : RI S) (hw : WV (S 47 0) (S 30 0 8) (S 30 0 0)) (m0 : 0 ≤ S 30 0 8) (m1 : S 30 0 8 ≤ 200) (l : Launch) : Kt l yX8_formOfR wsX8_formOfR ({ frames := 3, cells := 0, slots := 0, locals := 71 } : Room) g S [vr g 30 0] (pI (fun r S' => Fr fF S S' ∧ ((0 ≤ S' 30 0 10 ∧ S' 30 0 10 ≤ S 30 0 8) ∧ WV (S' 49 0) (S' 30 0 10) (S 30 0 0) ∧ ((r = 0 ∧ S' 30 0 16 = 1 ∧ foP (rM S) (rn S) (rR S) = none) ∨ (r = 1 ∧ S' 30 0 16 = 0 ∧ foP (rM S) (rn S) (rR S) = some (rF S')))))) := by
  refine Kt.of (cc := cX8_formOfR) (nL := 3) (ret := (some .boolean)) (own := RX8) rfl hD (by decide) rfl (Nat.le_of_ble_eq_true rfl) ⟨rfl, rfl⟩ ?_
  intro E hC hR9
  have f11 : Cond.fieldLink RX8 11 "MirrorBenchModel" "mirrors" "I" ∈ wsX8_formOfR := by decide +kernel
  have f81 : Cond.fieldLink RX8 81 "MirrorBenchModel" "isGreat" "Z" ∈ wsX8_formOfR := by decide +kernel
  have f92 : Cond.fieldLink RX8 92 "MirrorBenchModel" "rMany" "I" ∈ wsX8_formOfR := by decide +kernel
  have f110 : Cond.fieldLink RX8 110 "MirrorBenchModel" "fMany" "I" ∈ wsX8_formOfR := by decide +kernel
  have f116 : Cond.fieldLink RX8 116 "MirrorBenchModel" "f" "[I" ∈ wsX8_formOfR := by decide +kernel
  have w8 : ∀ w ∈ wsX80, w ∈ wsX8_formOfR := by decide +kernel
  show Wk E g 3 S 0 [(0, vr g 30 0)] []
  have hfS : Fr fF S S := Fr.rfl _ S
  have hRS := hRS.fr (hfS.mono (fun k i j h => by unfold fF at h; unfold tR; omega))
  have hnS := hRS.n
  have enS : S 30 0 0 = S 30 0 0 := hfS 30 0 0 (by unfold fF; omega)
  have eNS : rn S = rn S := rn_eq enS
  have eMS : rM S = rM S := rM_eq enS (fun j => hfS 42 0 j (by unfold fF; omega))
  refine kw_aload_n hC dX8_formOfR_0 rfl 0 rfl ?_
  refine kw_iconst hC dX8_formOfR_1 rfl ?_
  refine kp_30_16 hC w8 f81 dX8_formOfR_2 rfl (by decide) (by decide) (by omega) ?_
  refine kw_hv hfS (by unfold fF; omega) (fun S1 hfS1 hv1 ho1 => ?_)
  have hRS1 := hRS.fr (hfS1.mono (fun k i j h => by unfold fF at h; unfold tR; omega))
  have hnS1 := hRS1.n
  have enS1 : S1 30 0 0 = S 30 0 0 := hfS1 30 0 0 (by unfold fF; omega)
  have eNS1 : rn S1 = rn S := rn_eq enS1
  have eMS1 : rM S1 = rM S := rM_eq enS1 (fun j => hfS1 42 0 j (by unfold fF; omega))
  have e8 : S1 30 0 8 = S 30 0 8 := ho1 30 0 8 (by omega)
  have e47 : ∀ j, S1 47 0 j = S 47 0 j := fun j => ho1 47 0 j (by omega)
  refine kw_aload_n hC dX8_formOfR_5 rfl 0 rfl ?_
  refine kw_iconst hC dX8_formOfR_6 rfl ?_
  refine kp_30_10 hC w8 f110 dX8_formOfR_7 rfl (by decide) (by decide) ?_
  refine kw_hv hfS1 (by unfold fF; omega) (fun S2 hfS2 hv2 ho2 => ?_)
  have hRS2 := hRS.fr (hfS2.mono (fun k i j h => by unfold fF at h; unfold tR; omega))
  have hnS2 := hRS2.n
  have enS2 : S2 30 0 0 = S 30 0 0 := hfS2 30 0 0 (by unfold fF; omega)
  have eNS2 : rn S2 = rn S := rn_eq enS2
  have eMS2 : rM S2 = rM S := rM_eq enS2 (fun j => hfS2 42 0 j (by unfold fF; omega))
  have hL10 : ∀ (n10 : Nat)  (W10 : wSt), Fr fF S W10 → (0 ≤ W10 30 0 8) → (W10 30 0 8 + W10 30 0 10 ≤ S 30 0 8) → (0 ≤ W10 30 0 10) → (WV (W10 47 0) (W10 30 0 8) (S 30 0 0)) → (WV (W10 49 0) (W10 30 0 10) (S 30 0 0)) → (W10 30 0 16 = 0) → (fmS (rM S) (rn S) (rR W10) (rF W10) = foP (rM S) (rn S) (rR S)) → W10 30 0 8 < (n10 : Int) → Wk E g 3 W10 10 [(0, vr g 30 0)] [] := by
    intro n10
    induction n10 with
    | zero => intro W10 hfW10 r0 r1 t0 hrw hfw hgw hs hm10; exact absurd hm10 (by omega)
    | succ n10 ih10 =>
      intro W10 hfW10 r0 r1 t0 hrw hfw hgw hs hm10
      have hRW10 := hRS.fr (hfW10.mono (fun k i j h => by unfold fF at h; unfold tR; omega))
      have hnW10 := hRW10.n
      have enW10 : W10 30 0 0 = S 30 0 0 := hfW10 30 0 0 (by unfold fF; omega)
      have eNW10 : rn W10 = rn S := rn_eq enW10
      have eMW10 : rM W10 = rM S := rM_eq enW10 (fun j => hfW10 42 0 j (by unfold fF; omega))
      have hrc : WV (W10 47 0) (W10 30 0 8) (W10 30 0 0) := hrw.eq (fun _ _ _ => rfl) rfl enW10
      have hlr : ((rR W10).length : Int) = W10 30 0 8 := by unfold rR; rw [wl_len]; omega
      have hnn : rn S = (S 30 0 0).toNat := rfl
      have hRl : ∀ i, i ∈ rR W10 → i < rn S := wl_WV hrw
      refine kw_aload_n hC dX8_formOfR_10 rfl 0 rfl ?_
      refine kg_30_8 hC w8 f92 dX8_formOfR_11 rfl (by decide) (by decide) ?_
      refine kw_if_le (tgt := 99) hC dX8_formOfR_14 rfl (by decide) (by omega) ⟨fun c14 => ?_, fun c14 => ?_⟩
      · refine kw_iconst hC dX8_formOfR_99 rfl ?_
        exact hR9.2.1 rfl _ _ _ _ dX8_formOfR_100 (by omega) ⟨_, rfl, hfW10, ⟨by omega, by omega⟩, hfw, Or.inr ⟨rfl, hgw, by rw [← hs]; exact fmS_nil _ _ (by omega)⟩⟩
      · refine kw_iconst hC dX8_formOfR_17 rfl ?_
        refine kw_istore_n (lv' := [(1, _), (0, _)]) hC dX8_formOfR_18 rfl (by decide) rfl ?_
        refine kw_aload_n hC dX8_formOfR_19 rfl 1 rfl ?_
        have hne0 := hrw 0 (by omega) (by omega)
        refine kw_iconst hC dX8_formOfR_20 rfl ?_
        refine kw_callV hC (f_X8_ahead hD (by omega) (by omega) hRW10 (by exact hrc) (by omega) (by omega) (by omega)) gX8_formOfR_X8_ahead ⟨_, rfl⟩ rfl (by decide) (by decide) rfl ⟨rfl, rfl⟩ 1 (by decide +kernel) ⟨by decide, by decide⟩ rfl rfl (Nat.le_of_ble_eq_true rfl) dX8_formOfR_21 rfl (kd_i (fun r4 S4 hp4 => ?_))
        obtain ⟨hg4, hp4⟩ := hp4
        have hfS4 : Fr fF S S4 := hfW10.trans (hg4.mono (fun k i j h => by unfold fT at h; unfold fF; omega))
        have hRS4 := hRS.fr (hfS4.mono (fun k i j h => by unfold fF at h; unfold tR; omega))
        have hnS4 := hRS4.n
        have enS4 : S4 30 0 0 = S 30 0 0 := hfS4 30 0 0 (by unfold fF; omega)
        have eNS4 : rn S4 = rn S := rn_eq enS4
        have eMS4 : rM S4 = rM S := rM_eq enS4 (fun j => hfS4 42 0 j (by unfold fF; omega))
        rw [eMW10, eNW10] at hp4
        have e8 : S4 30 0 8 = W10 30 0 8 := hg4 30 0 8 (by unfold fT; omega)
        have e10 : S4 30 0 10 = W10 30 0 10 := hg4 30 0 10 (by unfold fT; omega)
        have hrd : WV (S4 47 0) (S4 30 0 8) (S 30 0 0) := hrw.eq (fun j _ _ => hg4 47 0 j (by unfold fT; omega)) e8 rfl
        have hfd : WV (S4 49 0) (S4 30 0 10) (S 30 0 0) := hfw.eq (fun j _ _ => hg4 49 0 j (by unfold fT; omega)) e10 rfl
        have eRd : rR S4 = rR W10 := wl_eq e8 (fun j _ _ => hg4 47 0 j (by unfold fT; omega))
        have eFd : rF S4 = rF W10 := wl_eq e10 (fun j _ _ => hg4 49 0 j (by unfold fT; omega))
        have har := ah_r (rM S) (rn S) (rR W10) (0 : Int).toNat
        have hd0 : LdR (rM S) (rn S) aJ (rR W10) (ldn (rM S) (rn S) aJ (rR W10) (rn S)) (0 : Int).toNat r4 (S4 30 0 16) := LdR.mk2 rfl (by omega) rfl hp4
        have hp8 := hp4
        refine kw_istore_n (lv' := [(2, _), (1, _), (0, _)]) hC dX8_formOfR_24 rfl (by decide) rfl ?_
        have hL25 : ∀ (n25 : Nat) (s : Int) (k : Int) (W25 : wSt), Fr fF S W25 → (0 ≤ s) → (s < S 30 0 0) → (-1 ≤ k) → (k < W25 30 0 8) → (W25 30 0 8 = W10 30 0 8) → (W25 30 0 10 = W10 30 0 10) → (WV (W25 47 0) (W25 30 0 8) (S 30 0 0)) → (WV (W25 49 0) (W25 30 0 10) (S 30 0 0)) → (rR W25 = rR W10) → (rF W25 = rF W10) → (LdR (rM S) (rn S) aJ (rR W10) (ldn (rM S) (rn S) aJ (rR W10) (rn S)) s.toNat k (W25 30 0 16)) → S 30 0 0 - s < (n25 : Int) → Wk E g 3 W25 25 [(0, vr g 30 0), (1, vi s), (2, vi k)] [] := by
          intro n25
          induction n25 with
          | zero => intro s k W25 hfW25 s0 s1 k0 k1 q8 q10 hrw hfw qR qF hd hm25; exact absurd hm25 (by omega)
          | succ n25 ih25 =>
            intro s k W25 hfW25 s0 s1 k0 k1 q8 q10 hrw hfw qR qF hd hm25
            have hRW25 := hRS.fr (hfW25.mono (fun k i j h => by unfold fF at h; unfold tR; omega))
            have hnW25 := hRW25.n
            have enW25 : W25 30 0 0 = S 30 0 0 := hfW25 30 0 0 (by unfold fF; omega)
            have eNW25 : rn W25 = rn S := rn_eq enW25
            have eMW25 : rM W25 = rM S := rM_eq enW25 (fun j => hfW25 42 0 j (by unfold fF; omega))
            have hrc : WV (W25 47 0) (W25 30 0 8) (W25 30 0 0) := hrw.eq (fun _ _ _ => rfl) rfl enW25
            have hdd := hd
            unfold LdR at hdd
            have hg01 : W25 30 0 16 = 0 ∨ W25 30 0 16 = 1 := by omega
            refine kw_iload_n hC dX8_formOfR_25 rfl 2 rfl ?_
            refine kw_if_ge (tgt := 58) hC dX8_formOfR_26 rfl (by decide) (by omega) ⟨fun c26 => ?_, fun c26 => ?_⟩
            · refine kw_aload_n hC dX8_formOfR_58 rfl 0 rfl ?_
              refine kg_30_16 hC w8 f81 dX8_formOfR_59 rfl (by decide) (by decide) ?_
              refine kw_if_ne (tgt := 69) hC dX8_formOfR_62 rfl (by decide) (by omega) ⟨fun c62 => ?_, fun c62 => ?_⟩
              · refine kw_iconst hC dX8_formOfR_69 rfl ?_
                have hno : W25 30 0 16 = 1 := by rcases hdd with z | z | z; omega; omega; exact absurd (LdR.no hd (by omega) (by omega) hRl) (by omega)
                exact hR9.2.1 rfl _ _ _ _ dX8_formOfR_70 (by omega) ⟨_, rfl, hfW25, ⟨by omega, by omega⟩, hfw, Or.inl ⟨rfl, hno, by rw [← hs]; exact fmS_great (by omega) (by rcases hdd with z | z | z; omega; exact z.2.2; omega)⟩⟩
              · refine kw_iload_n hC dX8_formOfR_65 rfl 2 rfl ?_
                refine kw_if_ge (tgt := 71) hC dX8_formOfR_66 rfl (by decide) (by omega) ⟨fun c66 => ?_, fun c66 => ?_⟩
                · refine kw_aload_n hC dX8_formOfR_71 rfl 0 rfl ?_
                  refine kw_iload_n hC dX8_formOfR_72 rfl 2 rfl ?_
                  refine kw_callV hC (d_X8_goesFromR hD (by omega) (by omega) (by omega)) gX8_formOfR_X8_goesFromR ⟨_, rfl⟩ rfl (by decide) (by decide) rfl ⟨rfl, rfl⟩ 1 (by decide +kernel) ⟨by decide, by decide⟩ rfl rfl (Nat.le_of_ble_eq_true rfl) dX8_formOfR_73 rfl (kd_v (fun S8 hp8 => ?_))
                  obtain ⟨hg8, hp8⟩ := hp8
                  have hfS8 : Fr fF S S8 := hfW25.trans (hg8.mono (fun k i j h => by unfold fG at h; unfold fF; omega))
                  have hRS8 := hRS.fr (hfS8.mono (fun k i j h => by unfold fF at h; unfold tR; omega))
                  have hnS8 := hRS8.n
                  have enS8 : S8 30 0 0 = S 30 0 0 := hfS8 30 0 0 (by unfold fF; omega)
                  have eNS8 : rn S8 = rn S := rn_eq enS8
                  have eMS8 : rM S8 = rM S := rM_eq enS8 (fun j => hfS8 42 0 j (by unfold fF; omega))
                  obtain ⟨z8, z1, z2⟩ := hp8
                  have z10 : S8 30 0 10 = W25 30 0 10 := hg8 30 0 10 (by unfold fG; omega)
                  have z16 : S8 30 0 16 = W25 30 0 16 := hg8 30 0 16 (by unfold fG; omega)
                  have hr1 : WV (S8 47 0) (S8 30 0 8) (S 30 0 0) := z8 ▸ WV.del hrw z1 z2 (by omega)
                  have hf1 : WV (S8 49 0) (S8 30 0 10) (S 30 0 0) := hfw.eq (fun j _ _ => hg8 49 0 j (by unfold fG; omega)) z10 rfl
                  have eR1 : rR S8 = (rR W10).eraseIdx k.toNat := ((wl_eq z8 (fun _ _ _ => rfl)).trans (wl_del (by omega) (by omega) z1 z2)).trans (by show (rR W25).eraseIdx _ = _; rw [qR])
                  have eF1 : rF S8 = rF W10 := (wl_eq z10 (fun j _ _ => hg8 49 0 j (by unfold fG; omega))).trans qF
                  refine kw_aload_n hC dX8_formOfR_76 rfl 0 rfl ?_
                  refine kg_30_9 hC w8 f116 dX8_formOfR_77 rfl (by decide) (by decide) ?_
                  refine kw_aload_n hC dX8_formOfR_80 rfl 0 rfl ?_
                  refine kg_30_10 hC w8 f110 dX8_formOfR_81 rfl (by decide) (by decide) ?_
                  refine kw_iload_n hC dX8_formOfR_84 rfl 1 rfl ?_
                  refine ks_49 hC dX8_formOfR_85 rfl (by decide) (by decide) (by omega) (by omega) ?_
                  refine kw_hv hfS8 (by unfold fF; omega) (fun S9 hfS9 hv9 ho9 => ?_)
                  have hRS9 := hRS.fr (hfS9.mono (fun k i j h => by unfold fF at h; unfold tR; omega))
                  have hnS9 := hRS9.n
                  have enS9 : S9 30 0 0 = S 30 0 0 := hfS9 30 0 0 (by unfold fF; omega)
                  have eNS9 : rn S9 = rn S := rn_eq enS9
                  have eMS9 : rM S9 = rM S := rM_eq enS9 (fun j => hfS9 42 0 j (by unfold fF; omega))
                  have y8 : S9 30 0 8 = S8 30 0 8 := ho9 30 0 8 (by omega)
                  have y10 : S9 30 0 10 = S8 30 0 10 := ho9 30 0 10 (by omega)
                  have y16 : S9 30 0 16 = S8 30 0 16 := ho9 30 0 16 (by omega)
                  have hr2 : WV (S9 47 0) (S9 30 0 8) (S 30 0 0) := hr1.eq (fun j _ _ => ho9 47 0 j (by omega)) y8 rfl
                  have hf2 : WV (S9 49 0) (S8 30 0 10 + 1) (S 30 0 0) := hf1.add (fun j hj => ho9 49 0 j (by omega)) (by rw [hv9]; omega)
                  have eR2 : rR S9 = rR S8 := wl_eq y8 (fun j _ _ => ho9 47 0 j (by omega))
                  have eF2 : wl (S9 49 0) (S8 30 0 10 + 1).toNat = rF S8 ++ [s.toNat] := wl_add (by omega) (fun j _ _ => ho9 49 0 j (by omega)) hv9
                  refine kw_aload_n hC dX8_formOfR_86 rfl 0 rfl ?_
                  refine kw_dup hC dX8_formOfR_87 rfl rfl ?_
                  refine kg_30_10 hC w8 f110 dX8_formOfR_88 rfl (by decide) (by decide) ?_
                  refine kw_iconst hC dX8_formOfR_91 rfl ?_
                  refine kw_iadd hC dX8_formOfR_92 rfl ?_
                  refine kp_30_10 hC w8 f110 dX8_formOfR_93 rfl (by decide) (by decide) ?_
                  refine kw_hv hfS9 (by unfold fF; omega) (fun S10 hfS10 hv10 ho10 => ?_)
                  have hRS10 := hRS.fr (hfS10.mono (fun k i j h => by unfold fF at h; unfold tR; omega))
                  have hnS10 := hRS10.n
                  have enS10 : S10 30 0 0 = S 30 0 0 := hfS10 30 0 0 (by unfold fF; omega)
                  have eNS10 : rn S10 = rn S := rn_eq enS10
                  have eMS10 : rM S10 = rM S := rM_eq enS10 (fun j => hfS10 42 0 j (by unfold fF; omega))
                  have x8 : S10 30 0 8 = S9 30 0 8 := ho10 30 0 8 (by omega)
                  have x10 := hv10
                  have x16 : S10 30 0 16 = S9 30 0 16 := ho10 30 0 16 (by omega)
                  have hr3 : WV (S10 47 0) (S10 30 0 8) (S 30 0 0) := hr2.eq (fun j _ _ => ho10 47 0 j (by omega)) x8 rfl
                  have hf3 : WV (S10 49 0) (S10 30 0 10) (S 30 0 0) := hf2.eq (fun j _ _ => ho10 49 0 j (by omega)) (by omega) rfl
                  have eR3 : rR S10 = (rR W10).eraseIdx k.toNat := ((wl_eq x8 (fun j _ _ => ho10 47 0 j (by omega))).trans eR2).trans eR1
                  have eF3 : rF S10 = rF W10 ++ [s.toNat] := (wl_eq (by omega) (fun j _ _ => ho10 49 0 j (by omega))).trans (eF2.trans (by rw [eF1]))
                  have hD9 : ldn (rM S) (rn S) aJ (rR W10) (rn S) = (s.toNat, k) := by rcases hdd with z | z | z; exact z.2.2; omega; omega
                  have hs9 : fmS (rM S) (rn S) (rR S10) (rF S10) = foP (rM S) (rn S) (rR S) := by rw [eR3, eF3, ← hs]; have h9 := fmS_go (M := rM S) (n := rn S) (R := rR W10) (F := rF W10) (by rw [hD9]; show 0 ≤ k; omega); rw [hD9] at h9; exact h9
                  refine kw_goto (tgt := 10) hC dX8_formOfR_96 rfl (by decide) ?_
                  refine kw_lv [0] rfl ?_
                  exact ih10 S10 hfS10 (by omega) (by omega) (by omega) (by omega) (by omega) (by omega) hs9 (by omega)
                · refine kw_iconst hC dX8_formOfR_69 rfl ?_
                  have hno : W25 30 0 16 = 1 := by rcases hdd with z | z | z; omega; omega; exact absurd (LdR.no hd (by omega) (by omega) hRl) (by omega)
                  exact hR9.2.1 rfl _ _ _ _ dX8_formOfR_70 (by omega) ⟨_, rfl, hfW25, ⟨by omega, by omega⟩, hfw, Or.inl ⟨rfl, hno, by rw [← hs]; exact fmS_great (by omega) (by rcases hdd with z | z | z; omega; exact z.2.2; omega)⟩⟩
            · refine kw_aload_n hC dX8_formOfR_29 rfl 0 rfl ?_
              refine kg_30_16 hC w8 f81 dX8_formOfR_30 rfl (by decide) (by decide) ?_
              refine kw_if_ne (tgt := 58) hC dX8_formOfR_33 rfl (by decide) (by omega) ⟨fun c33 => ?_, fun c33 => ?_⟩
              · refine kw_aload_n hC dX8_formOfR_58 rfl 0 rfl ?_
                refine kg_30_16 hC w8 f81 dX8_formOfR_59 rfl (by decide) (by decide) ?_
                refine kw_if_ne (tgt := 69) hC dX8_formOfR_62 rfl (by decide) (by omega) ⟨fun c62 => ?_, fun c62 => ?_⟩
                · refine kw_iconst hC dX8_formOfR_69 rfl ?_
                  have hno : W25 30 0 16 = 1 := by rcases hdd with z | z | z; omega; omega; exact absurd (LdR.no hd (by omega) (by omega) hRl) (by omega)
                  exact hR9.2.1 rfl _ _ _ _ dX8_formOfR_70 (by omega) ⟨_, rfl, hfW25, ⟨by omega, by omega⟩, hfw, Or.inl ⟨rfl, hno, by rw [← hs]; exact fmS_great (by omega) (by rcases hdd with z | z | z; omega; exact z.2.2; omega)⟩⟩
                · refine kw_iload_n hC dX8_formOfR_65 rfl 2 rfl ?_
                  refine kw_if_ge (tgt := 71) hC dX8_formOfR_66 rfl (by decide) (by omega) ⟨fun c66 => ?_, fun c66 => ?_⟩
                  · refine kw_aload_n hC dX8_formOfR_71 rfl 0 rfl ?_
                    refine kw_iload_n hC dX8_formOfR_72 rfl 2 rfl ?_
                    refine kw_callV hC (d_X8_goesFromR hD (by omega) (by omega) (by omega)) gX8_formOfR_X8_goesFromR ⟨_, rfl⟩ rfl (by decide) (by decide) rfl ⟨rfl, rfl⟩ 1 (by decide +kernel) ⟨by decide, by decide⟩ rfl rfl (Nat.le_of_ble_eq_true rfl) dX8_formOfR_73 rfl (kd_v (fun S14 hp14 => ?_))
                    obtain ⟨hg14, hp14⟩ := hp14
                    have hfS14 : Fr fF S S14 := hfW25.trans (hg14.mono (fun k i j h => by unfold fG at h; unfold fF; omega))
                    have hRS14 := hRS.fr (hfS14.mono (fun k i j h => by unfold fF at h; unfold tR; omega))
                    have hnS14 := hRS14.n
                    have enS14 : S14 30 0 0 = S 30 0 0 := hfS14 30 0 0 (by unfold fF; omega)
                    have eNS14 : rn S14 = rn S := rn_eq enS14
                    have eMS14 : rM S14 = rM S := rM_eq enS14 (fun j => hfS14 42 0 j (by unfold fF; omega))
                    obtain ⟨z8, z1, z2⟩ := hp14
                    have z10 : S14 30 0 10 = W25 30 0 10 := hg14 30 0 10 (by unfold fG; omega)
                    have z16 : S14 30 0 16 = W25 30 0 16 := hg14 30 0 16 (by unfold fG; omega)
                    have hr1 : WV (S14 47 0) (S14 30 0 8) (S 30 0 0) := z8 ▸ WV.del hrw z1 z2 (by omega)
                    have hf1 : WV (S14 49 0) (S14 30 0 10) (S 30 0 0) := hfw.eq (fun j _ _ => hg14 49 0 j (by unfold fG; omega)) z10 rfl
                    have eR1 : rR S14 = (rR W10).eraseIdx k.toNat := ((wl_eq z8 (fun _ _ _ => rfl)).trans (wl_del (by omega) (by omega) z1 z2)).trans (by show (rR W25).eraseIdx _ = _; rw [qR])
                    have eF1 : rF S14 = rF W10 := (wl_eq z10 (fun j _ _ => hg14 49 0 j (by unfold fG; omega))).trans qF
                    refine kw_aload_n hC dX8_formOfR_76 rfl 0 rfl ?_
                    refine kg_30_9 hC w8 f116 dX8_formOfR_77 rfl (by decide) (by decide) ?_
                    refine kw_aload_n hC dX8_formOfR_80 rfl 0 rfl ?_
                    refine kg_30_10 hC w8 f110 dX8_formOfR_81 rfl (by decide) (by decide) ?_
                    refine kw_iload_n hC dX8_formOfR_84 rfl 1 rfl ?_
                    refine ks_49 hC dX8_formOfR_85 rfl (by decide) (by decide) (by omega) (by omega) ?_
                    refine kw_hv hfS14 (by unfold fF; omega) (fun S15 hfS15 hv15 ho15 => ?_)
                    have hRS15 := hRS.fr (hfS15.mono (fun k i j h => by unfold fF at h; unfold tR; omega))
                    have hnS15 := hRS15.n
                    have enS15 : S15 30 0 0 = S 30 0 0 := hfS15 30 0 0 (by unfold fF; omega)
                    have eNS15 : rn S15 = rn S := rn_eq enS15
                    have eMS15 : rM S15 = rM S := rM_eq enS15 (fun j => hfS15 42 0 j (by unfold fF; omega))
                    have y8 : S15 30 0 8 = S14 30 0 8 := ho15 30 0 8 (by omega)
                    have y10 : S15 30 0 10 = S14 30 0 10 := ho15 30 0 10 (by omega)
                    have y16 : S15 30 0 16 = S14 30 0 16 := ho15 30 0 16 (by omega)
                    have hr2 : WV (S15 47 0) (S15 30 0 8) (S 30 0 0) := hr1.eq (fun j _ _ => ho15 47 0 j (by omega)) y8 rfl
                    have hf2 : WV (S15 49 0) (S14 30 0 10 + 1) (S 30 0 0) := hf1.add (fun j hj => ho15 49 0 j (by omega)) (by rw [hv15]; omega)
                    have eR2 : rR S15 = rR S14 := wl_eq y8 (fun j _ _ => ho15 47 0 j (by omega))
                    have eF2 : wl (S15 49 0) (S14 30 0 10 + 1).toNat = rF S14 ++ [s.toNat] := wl_add (by omega) (fun j _ _ => ho15 49 0 j (by omega)) hv15
                    refine kw_aload_n hC dX8_formOfR_86 rfl 0 rfl ?_
                    refine kw_dup hC dX8_formOfR_87 rfl rfl ?_
                    refine kg_30_10 hC w8 f110 dX8_formOfR_88 rfl (by decide) (by decide) ?_
                    refine kw_iconst hC dX8_formOfR_91 rfl ?_
                    refine kw_iadd hC dX8_formOfR_92 rfl ?_
                    refine kp_30_10 hC w8 f110 dX8_formOfR_93 rfl (by decide) (by decide) ?_
                    refine kw_hv hfS15 (by unfold fF; omega) (fun S16 hfS16 hv16 ho16 => ?_)
                    have hRS16 := hRS.fr (hfS16.mono (fun k i j h => by unfold fF at h; unfold tR; omega))
                    have hnS16 := hRS16.n
                    have enS16 : S16 30 0 0 = S 30 0 0 := hfS16 30 0 0 (by unfold fF; omega)
                    have eNS16 : rn S16 = rn S := rn_eq enS16
                    have eMS16 : rM S16 = rM S := rM_eq enS16 (fun j => hfS16 42 0 j (by unfold fF; omega))
                    have x8 : S16 30 0 8 = S15 30 0 8 := ho16 30 0 8 (by omega)
                    have x10 := hv16
                    have x16 : S16 30 0 16 = S15 30 0 16 := ho16 30 0 16 (by omega)
                    have hr3 : WV (S16 47 0) (S16 30 0 8) (S 30 0 0) := hr2.eq (fun j _ _ => ho16 47 0 j (by omega)) x8 rfl
                    have hf3 : WV (S16 49 0) (S16 30 0 10) (S 30 0 0) := hf2.eq (fun j _ _ => ho16 49 0 j (by omega)) (by omega) rfl
                    have eR3 : rR S16 = (rR W10).eraseIdx k.toNat := ((wl_eq x8 (fun j _ _ => ho16 47 0 j (by omega))).trans eR2).trans eR1
                    have eF3 : rF S16 = rF W10 ++ [s.toNat] := (wl_eq (by omega) (fun j _ _ => ho16 49 0 j (by omega))).trans (eF2.trans (by rw [eF1]))
                    have hD9 : ldn (rM S) (rn S) aJ (rR W10) (rn S) = (s.toNat, k) := by rcases hdd with z | z | z; exact z.2.2; omega; omega
                    have hs9 : fmS (rM S) (rn S) (rR S16) (rF S16) = foP (rM S) (rn S) (rR S) := by rw [eR3, eF3, ← hs]; have h9 := fmS_go (M := rM S) (n := rn S) (R := rR W10) (F := rF W10) (by rw [hD9]; show 0 ≤ k; omega); rw [hD9] at h9; exact h9
                    refine kw_goto (tgt := 10) hC dX8_formOfR_96 rfl (by decide) ?_
                    refine kw_lv [0] rfl ?_
                    exact ih10 S16 hfS16 (by omega) (by omega) (by omega) (by omega) (by omega) (by omega) hs9 (by omega)
                  · refine kw_iconst hC dX8_formOfR_69 rfl ?_
                    have hno : W25 30 0 16 = 1 := by rcases hdd with z | z | z; omega; omega; exact absurd (LdR.no hd (by omega) (by omega) hRl) (by omega)
                    exact hR9.2.1 rfl _ _ _ _ dX8_formOfR_70 (by omega) ⟨_, rfl, hfW25, ⟨by omega, by omega⟩, hfw, Or.inl ⟨rfl, hno, by rw [← hs]; exact fmS_great (by omega) (by rcases hdd with z | z | z; omega; exact z.2.2; omega)⟩⟩
              · refine kw_iload_n hC dX8_formOfR_36 rfl 1 rfl ?_
                refine kw_iconst hC dX8_formOfR_37 rfl ?_
                refine kw_iadd hC dX8_formOfR_38 rfl ?_
                refine kw_aload_n hC dX8_formOfR_39 rfl 0 rfl ?_
                refine kg_30_0 hC w8 f11 dX8_formOfR_40 rfl (by decide) (by decide) ?_
                refine kw_icmp_ge (tgt := 58) hC dX8_formOfR_43 rfl (by decide) (by omega) (by omega) ⟨fun c43 => ?_, fun c43 => ?_⟩
                · refine kw_aload_n hC dX8_formOfR_58 rfl 0 rfl ?_
                  refine kg_30_16 hC w8 f81 dX8_formOfR_59 rfl (by decide) (by decide) ?_
                  refine kw_if_ne (tgt := 69) hC dX8_formOfR_62 rfl (by decide) (by omega) ⟨fun c62 => ?_, fun c62 => ?_⟩
                  · refine kw_iconst hC dX8_formOfR_69 rfl ?_
                    have hno : W25 30 0 16 = 1 := by rcases hdd with z | z | z; omega; omega; exact absurd (LdR.no hd (by omega) (by omega) hRl) (by omega)
                    exact hR9.2.1 rfl _ _ _ _ dX8_formOfR_70 (by omega) ⟨_, rfl, hfW25, ⟨by omega, by omega⟩, hfw, Or.inl ⟨rfl, hno, by rw [← hs]; exact fmS_great (by omega) (by rcases hdd with z | z | z; omega; exact z.2.2; omega)⟩⟩
                  · refine kw_iload_n hC dX8_formOfR_65 rfl 2 rfl ?_
                    refine kw_if_ge (tgt := 71) hC dX8_formOfR_66 rfl (by decide) (by omega) ⟨fun c66 => ?_, fun c66 => ?_⟩
                    · refine kw_aload_n hC dX8_formOfR_71 rfl 0 rfl ?_
                      refine kw_iload_n hC dX8_formOfR_72 rfl 2 rfl ?_
                      refine kw_callV hC (d_X8_goesFromR hD (by omega) (by omega) (by omega)) gX8_formOfR_X8_goesFromR ⟨_, rfl⟩ rfl (by decide) (by decide) rfl ⟨rfl, rfl⟩ 1 (by decide +kernel) ⟨by decide, by decide⟩ rfl rfl (Nat.le_of_ble_eq_true rfl) dX8_formOfR_73 rfl (kd_v (fun S20 hp20 => ?_))
                      obtain ⟨hg20, hp20⟩ := hp20
                      have hfS20 : Fr fF S S20 := hfW25.trans (hg20.mono (fun k i j h => by unfold fG at h; unfold fF; omega))
                      have hRS20 := hRS.fr (hfS20.mono (fun k i j h => by unfold fF at h; unfold tR; omega))
                      have hnS20 := hRS20.n
                      have enS20 : S20 30 0 0 = S 30 0 0 := hfS20 30 0 0 (by unfold fF; omega)
                      have eNS20 : rn S20 = rn S := rn_eq enS20
                      have eMS20 : rM S20 = rM S := rM_eq enS20 (fun j => hfS20 42 0 j (by unfold fF; omega))
                      obtain ⟨z8, z1, z2⟩ := hp20
                      have z10 : S20 30 0 10 = W25 30 0 10 := hg20 30 0 10 (by unfold fG; omega)
                      have z16 : S20 30 0 16 = W25 30 0 16 := hg20 30 0 16 (by unfold fG; omega)
                      have hr1 : WV (S20 47 0) (S20 30 0 8) (S 30 0 0) := z8 ▸ WV.del hrw z1 z2 (by omega)
                      have hf1 : WV (S20 49 0) (S20 30 0 10) (S 30 0 0) := hfw.eq (fun j _ _ => hg20 49 0 j (by unfold fG; omega)) z10 rfl
                      have eR1 : rR S20 = (rR W10).eraseIdx k.toNat := ((wl_eq z8 (fun _ _ _ => rfl)).trans (wl_del (by omega) (by omega) z1 z2)).trans (by show (rR W25).eraseIdx _ = _; rw [qR])
                      have eF1 : rF S20 = rF W10 := (wl_eq z10 (fun j _ _ => hg20 49 0 j (by unfold fG; omega))).trans qF
                      refine kw_aload_n hC dX8_formOfR_76 rfl 0 rfl ?_
                      refine kg_30_9 hC w8 f116 dX8_formOfR_77 rfl (by decide) (by decide) ?_
                      refine kw_aload_n hC dX8_formOfR_80 rfl 0 rfl ?_
                      refine kg_30_10 hC w8 f110 dX8_formOfR_81 rfl (by decide) (by decide) ?_
                      refine kw_iload_n hC dX8_formOfR_84 rfl 1 rfl ?_
                      refine ks_49 hC dX8_formOfR_85 rfl (by decide) (by decide) (by omega) (by omega) ?_
                      refine kw_hv hfS20 (by unfold fF; omega) (fun S21 hfS21 hv21 ho21 => ?_)
                      have hRS21 := hRS.fr (hfS21.mono (fun k i j h => by unfold fF at h; unfold tR; omega))
                      have hnS21 := hRS21.n
                      have enS21 : S21 30 0 0 = S 30 0 0 := hfS21 30 0 0 (by unfold fF; omega)
                      have eNS21 : rn S21 = rn S := rn_eq enS21
                      have eMS21 : rM S21 = rM S := rM_eq enS21 (fun j => hfS21 42 0 j (by unfold fF; omega))
                      have y8 : S21 30 0 8 = S20 30 0 8 := ho21 30 0 8 (by omega)
                      have y10 : S21 30 0 10 = S20 30 0 10 := ho21 30 0 10 (by omega)
                      have y16 : S21 30 0 16 = S20 30 0 16 := ho21 30 0 16 (by omega)
                      have hr2 : WV (S21 47 0) (S21 30 0 8) (S 30 0 0) := hr1.eq (fun j _ _ => ho21 47 0 j (by omega)) y8 rfl
                      have hf2 : WV (S21 49 0) (S20 30 0 10 + 1) (S 30 0 0) := hf1.add (fun j hj => ho21 49 0 j (by omega)) (by rw [hv21]; omega)
                      have eR2 : rR S21 = rR S20 := wl_eq y8 (fun j _ _ => ho21 47 0 j (by omega))
                      have eF2 : wl (S21 49 0) (S20 30 0 10 + 1).toNat = rF S20 ++ [s.toNat] := wl_add (by omega) (fun j _ _ => ho21 49 0 j (by omega)) hv21
                      refine kw_aload_n hC dX8_formOfR_86 rfl 0 rfl ?_
                      refine kw_dup hC dX8_formOfR_87 rfl rfl ?_
                      refine kg_30_10 hC w8 f110 dX8_formOfR_88 rfl (by decide) (by decide) ?_
                      refine kw_iconst hC dX8_formOfR_91 rfl ?_
                      refine kw_iadd hC dX8_formOfR_92 rfl ?_
                      refine kp_30_10 hC w8 f110 dX8_formOfR_93 rfl (by decide) (by decide) ?_
                      refine kw_hv hfS21 (by unfold fF; omega) (fun S22 hfS22 hv22 ho22 => ?_)
                      have hRS22 := hRS.fr (hfS22.mono (fun k i j h => by unfold fF at h; unfold tR; omega))
                      have hnS22 := hRS22.n
                      have enS22 : S22 30 0 0 = S 30 0 0 := hfS22 30 0 0 (by unfold fF; omega)
                      have eNS22 : rn S22 = rn S := rn_eq enS22
                      have eMS22 : rM S22 = rM S := rM_eq enS22 (fun j => hfS22 42 0 j (by unfold fF; omega))
                      have x8 : S22 30 0 8 = S21 30 0 8 := ho22 30 0 8 (by omega)
                      have x10 := hv22
                      have x16 : S22 30 0 16 = S21 30 0 16 := ho22 30 0 16 (by omega)
                      have hr3 : WV (S22 47 0) (S22 30 0 8) (S 30 0 0) := hr2.eq (fun j _ _ => ho22 47 0 j (by omega)) x8 rfl
                      have hf3 : WV (S22 49 0) (S22 30 0 10) (S 30 0 0) := hf2.eq (fun j _ _ => ho22 49 0 j (by omega)) (by omega) rfl
                      have eR3 : rR S22 = (rR W10).eraseIdx k.toNat := ((wl_eq x8 (fun j _ _ => ho22 47 0 j (by omega))).trans eR2).trans eR1
                      have eF3 : rF S22 = rF W10 ++ [s.toNat] := (wl_eq (by omega) (fun j _ _ => ho22 49 0 j (by omega))).trans (eF2.trans (by rw [eF1]))
                      have hD9 : ldn (rM S) (rn S) aJ (rR W10) (rn S) = (s.toNat, k) := by rcases hdd with z | z | z; exact z.2.2; omega; omega
                      have hs9 : fmS (rM S) (rn S) (rR S22) (rF S22) = foP (rM S) (rn S) (rR S) := by rw [eR3, eF3, ← hs]; have h9 := fmS_go (M := rM S) (n := rn S) (R := rR W10) (F := rF W10) (by rw [hD9]; show 0 ≤ k; omega); rw [hD9] at h9; exact h9
                      refine kw_goto (tgt := 10) hC dX8_formOfR_96 rfl (by decide) ?_
                      refine kw_lv [0] rfl ?_
                      exact ih10 S22 hfS22 (by omega) (by omega) (by omega) (by omega) (by omega) (by omega) hs9 (by omega)
                    · refine kw_iconst hC dX8_formOfR_69 rfl ?_
                      have hno : W25 30 0 16 = 1 := by rcases hdd with z | z | z; omega; omega; exact absurd (LdR.no hd (by omega) (by omega) hRl) (by omega)
                      exact hR9.2.1 rfl _ _ _ _ dX8_formOfR_70 (by omega) ⟨_, rfl, hfW25, ⟨by omega, by omega⟩, hfw, Or.inl ⟨rfl, hno, by rw [← hs]; exact fmS_great (by omega) (by rcases hdd with z | z | z; omega; exact z.2.2; omega)⟩⟩
                · refine kw_iinc (lv' := [(1, _), (0, _), (2, _)]) hC dX8_formOfR_46 rfl 1 rfl (by decide) rfl ?_
                  refine kw_aload_n hC dX8_formOfR_49 rfl 1 rfl ?_
                  refine kw_iload_n hC dX8_formOfR_50 rfl 0 rfl ?_
                  refine kw_callV hC (f_X8_ahead hD (by omega) (by omega) hRW25 (by exact hrc) (by omega) (by omega) (by omega)) gX8_formOfR_X8_ahead ⟨_, rfl⟩ rfl (by decide) (by decide) rfl ⟨rfl, rfl⟩ 1 (by decide +kernel) ⟨by decide, by decide⟩ rfl rfl (Nat.le_of_ble_eq_true rfl) dX8_formOfR_51 rfl (kd_i (fun r23 S23 hp23 => ?_))
                  obtain ⟨hg23, hp23⟩ := hp23
                  have hfS23 : Fr fF S S23 := hfW25.trans (hg23.mono (fun k i j h => by unfold fT at h; unfold fF; omega))
                  have hRS23 := hRS.fr (hfS23.mono (fun k i j h => by unfold fF at h; unfold tR; omega))
                  have hnS23 := hRS23.n
                  have enS23 : S23 30 0 0 = S 30 0 0 := hfS23 30 0 0 (by unfold fF; omega)
                  have eNS23 : rn S23 = rn S := rn_eq enS23
                  have eMS23 : rM S23 = rM S := rM_eq enS23 (fun j => hfS23 42 0 j (by unfold fF; omega))
                  rw [eMW25, eNW25] at hp23
                  have e8 : S23 30 0 8 = W25 30 0 8 := hg23 30 0 8 (by unfold fT; omega)
                  have e10 : S23 30 0 10 = W25 30 0 10 := hg23 30 0 10 (by unfold fT; omega)
                  have hrd : WV (S23 47 0) (S23 30 0 8) (S 30 0 0) := hrw.eq (fun j _ _ => hg23 47 0 j (by unfold fT; omega)) e8 rfl
                  have hfd : WV (S23 49 0) (S23 30 0 10) (S 30 0 0) := hfw.eq (fun j _ _ => hg23 49 0 j (by unfold fT; omega)) e10 rfl
                  have eRd : rR S23 = rR W25 := wl_eq e8 (fun j _ _ => hg23 47 0 j (by unfold fT; omega))
                  have eFd : rF S23 = rF W25 := wl_eq e10 (fun j _ _ => hg23 49 0 j (by unfold fT; omega))
                  rw [qR] at hp23
                  have har := ah_r (rM S) (rn S) (rR W10) (s + 1).toNat
                  have hd1 : LdR (rM S) (rn S) aJ (rR W10) (ldn (rM S) (rn S) aJ (rR W10) (rn S)) (s + 1).toNat r23 (S23 30 0 16) := LdR.mk2 (by rw [show rn S - (s + 1).toNat = rn S - (s.toNat + 1) by omega]; rcases hdd with z | z | z; omega; omega; exact z.2.2) (by omega) rfl hp23
                  refine kw_istore_n (lv' := [(2, _), (1, _), (0, _)]) hC dX8_formOfR_54 rfl (by decide) rfl ?_
                  refine kw_goto (tgt := 25) hC dX8_formOfR_55 rfl (by decide) ?_
                  refine kw_lv [2, 1, 0] rfl ?_
                  exact ih25 (s + 1) r23 S23 hfS23 (by omega) (by omega) (by omega) (by omega) (by omega) (by omega) hrd hfd (eRd.trans qR) (eFd.trans qF) hd1 (by omega)
        refine kw_lv [2, 1, 0] rfl ?_
        exact hL25 7 0 r4 S4 hfS4 (by omega) (by have := hrw 0 (by omega) (by omega); omega) (by omega) (by omega) (by omega) (by omega) hrd hfd eRd eFd hd0 (by omega)
  exact hL10 201 S2 hfS2 (by have := ho2 30 0 8 (by omega); have := e8; omega) (by have := ho2 30 0 8 (by omega); have := e8; have := hv2; omega) (by rw [hv2]; omega) (hw.eq (fun j _ _ => (ho2 47 0 j (by omega)).trans (e47 j)) ((ho2 30 0 8 (by omega)).trans e8) rfl) (fun j _ _ => by omega) (by have := ho2 30 0 16 (by omega); omega) (by rw [show rF S2 = [] from by unfold rF; rw [hv2]; rfl, show rR S2 = rR S from wl_eq ((ho2 30 0 8 (by omega)).trans e8) (fun j _ _ => (ho2 47 0 j (by omega)).trans (e47 j))]; rfl) (by have := ho2 30 0 8 (by omega); have := e8; omega)
end
