section
/-! the slots of the class -/
def cSl (S : wSt) : wS := fun s => if 0 ≤ s ∧ s < 8 then kP S s else []
def kK (S : wSt) : Nat → Int := clK (kn S) (S 4 16)
/-- the words, and what does not last -/
def tXw (k : Nat) (_i _j : Int) : Prop := k = 1 ∨ k = 2 ∨ k = 11 ∨ k = 19 ∨ k = 22 ∨ k = 24
theorem tXw_tX {S S' : wSt} (h : Fr tXw S S') : Fr tX S S' := h.mono (fun k i j q => by unfold tXw at q; unfold tX; omega)
theorem tC_tXw {S S' : wSt} (h : Fr tC S S') : Fr tXw S S' := h.mono (fun k i j q => by unfold tC at q; unfold tXw; omega)
theorem fWd_tXw {a : Int} {S S' : wSt} (h : Fr (fWd a) S S') : Fr tXw S S' := h.mono (fun k i j q => by unfold fWd at q; unfold tXw; omega)
theorem fZ_tXw {S S' : wSt} (h : Fr fZ S S') : Fr tXw S S' := h.mono (fun k i j q => by unfold fZ at q; unfold tXw; omega)
theorem FLF.w {S W : wSt} (h : FLF S) (f : Fr tXw S W) : FLF W := h.fr (f 3 16 2 (by unfold tXw; omega)) (fun j => f 5 16 j (by unfold tXw; omega)) (fun j => f 16 0 j (by unfold tXw; omega)) (fun j => f 17 0 j (by unfold tXw; omega)) (fun j => f 18 0 j (by unfold tXw; omega))
theorem cSl_at {S : wSt} {a : Int} (a0 : 0 ≤ a) (a1 : a < 8) : cSl S a = kP S a := if_pos ⟨a0, a1⟩
theorem cSl_no {S : wSt} {s : Int} (h : ¬ (0 ≤ s ∧ s < 8)) : cSl S s = [] := if_neg h
theorem cSl_len {S : wSt} (hR : CI S) {a : Int} (a0 : 0 ≤ a) (a1 : a < 8) : ((cSl S a).length : Int) = S 1 a 1 := by
  rw [cSl_at a0 a1]
  exact kP_len (hR.ln a a0 a1).1
theorem cSl_get {S : wSt} {a k : Int} (a0 : 0 ≤ a) (a1 : a < 8) (k0 : 0 ≤ k) (k1 : k < S 1 a 1) : (cSl S a).getD k.toNat 0 = (S 2 a k).toNat := by
  rw [cSl_at a0 a1]
  unfold kP
  rw [wl_get _ (by omega), Int.toNat_of_nonneg k0]
theorem cSl_fr {S W : wSt} (h : ∀ s, 0 ≤ s → s < 8 → W 1 s 1 = S 1 s 1 ∧ ∀ j, W 2 s j = S 2 s j) : cSl W = cSl S := by
  funext s
  by_cases hs : 0 ≤ s ∧ s < 8
  · rw [cSl_at hs.1 hs.2, cSl_at hs.1 hs.2]
    exact kP_eq (h s hs.1 hs.2).1 (h s hs.1 hs.2).2
  · rw [cSl_no hs, cSl_no hs]
theorem cSl_tC {S W : wSt} (f : Fr tC S W) : cSl W = cSl S := cSl_fr (fun s s0 s1 => ⟨f 1 s 1 (by unfold tC; omega), fun j => f 2 s j (by unfold tC; omega)⟩)
theorem cSl_st {S W : wSt} {a : Int} (a0 : 0 ≤ a) (a1 : a < 8) (f : Fr (fWd a) S W) : cSl W = upw (cSl S) a (kP W a) := by
  funext s
  show cSl W s = if s = a then kP W a else cSl S s
  by_cases e : s = a
  · subst e
    rw [if_pos rfl, cSl_at a0 a1]
  · rw [if_neg e]
    by_cases hs : 0 ≤ s ∧ s < 8
    · rw [cSl_at hs.1 hs.2, cSl_at hs.1 hs.2]
      exact kP_eq (f 1 s 1 (by unfold fWd; omega)) (fun j => f 2 s j (by unfold fWd; omega))
    · rw [cSl_no hs, cSl_no hs]
theorem st_k {S W : wSt} {a b r : Int} {w : wS} {l : List Nat} (a0 : 0 ≤ a) (a1 : a < 8) (m0 : 0 ≤ S 1 b 1) (h : r = S 1 b 1 ∧ CI W ∧ Fr (fWd a) S W ∧ W 1 a 1 = S 1 b 1 ∧ ∀ j, 0 ≤ j → j < S 1 b 1 → W 2 a j = S 2 b j) (e : cSl S = w) (hl : kP S b = l) : fStore a w (some l) = (r, cSl W) := by
  obtain ⟨h1, -, h3, h4, h5⟩ := h
  have e2 : kP W a = l := by rw [← hl]; exact wl_eq h4 h5
  rw [cSl_st a0 a1 h3, e, e2]
  show (((l.length : Nat) : Int), upw w a l) = _
  rw [← hl, kP_len m0, h1]
theorem kK_c {S : wSt} {i : Int} (i0 : 0 ≤ i) (i1 : i < S 3 16 2) : kK S i.toNat = S 4 16 i := by
  unfold kK clK kn
  rw [if_pos (by omega), Int.toNat_of_nonneg i0]
theorem kM_c {S : wSt} {i j : Int} (i0 : 0 ≤ i) (i1 : i < S 3 16 2) (j0 : 0 ≤ j) (j1 : j < S 3 16 2) : kM S i.toNat j.toNat = S 5 16 (6 * i + j) := by
  unfold kM mG clM kn
  rw [if_pos ⟨by omega, by omega⟩]
  unfold mxz
  rw [Int.toNat_of_nonneg i0, Int.toNat_of_nonneg j0]
theorem mAt_k {S : wSt} {p q : Int} (p0 : 0 ≤ p) (p1 : p < S 3 16 2) (q0 : 0 ≤ q) (q1 : q < S 3 16 2) : mtA (kM S) p.toNat q.toNat = mAt p q (S 5 16 (6 * p + q)) (S 5 16 (6 * q + p)) := by
  unfold mtA
  rw [kM_c p0 p1 q0 q1, kM_c q0 q1 p0 p1, Int.toNat_of_nonneg p0, Int.toNat_of_nonneg q0]
end
section
set_option maxHeartbeats 4000000 in
set_option maxRecDepth 100000 in
theorem f_X7_clear {g : wG} (hD : wD g) {S : wSt} {a : Int} (ha : -2147483648 ≤ a ∧ a ≤ 2147483647) (hRS : CI S) (l : Launch) : Kt l yX7_clear wsX7_clear ({ frames := 1, cells := 0, slots := 0, locals := 20 } : Room) g S [vr g 0 0, vi a] (pI (fun r S' => CI S' ∧ Fr tXw S S' ∧ fClear a (cSl S) = (r, cSl S'))) := by
  refine Kt.of (cc := cX7_clear) (nL := 3) (ret := (some .int)) (own := RX7) rfl hD (by decide) rfl (Nat.le_of_ble_eq_true rfl) ⟨rfl, rfl⟩ ?_
  intro E hC hR9
  have f25 : Cond.fieldLink RX7 25 "MirrorBench" "slots" "[LMirrorBench$Word;" ∈ wsX7_clear := by decide +kernel
  have f131 : Cond.fieldLink RX7 131 "MirrorBench$Word" "length" "I" ∈ wsX7_clear := by decide +kernel
  have w6 : ∀ w ∈ wsX60, w ∈ wsX7_clear := by decide +kernel
  have w7 : ∀ w ∈ wsX70, w ∈ wsX7_clear := by decide +kernel
  show Wk E g 3 S 0 [(0, vr g 0 0), (1, vi a)] []
  have hfS : Fr (fWd a) S S := Fr.rfl _ S
  have hnS := hRS.n
  have hkn : (kn S : Int) = S 3 16 2 := by unfold kn; omega
  refine kw_iload_n hC dX7_clear_0 rfl 1 rfl ?_
  refine kw_callS hC (d_X7_isSlot hD (by omega)) gX7_clear_X7_isSlot rfl ⟨rfl, rfl⟩ 1 (by decide +kernel) ⟨by decide, by decide⟩ rfl rfl (Nat.le_of_ble_eq_true rfl) dX7_clear_1 rfl (kd_ie ?_)
  refine kw_ifne_b (tgt := 9) hC dX7_clear_4 rfl (by decide) ⟨fun c4 => ?_, fun c4 => ?_⟩
  · have hla := hRS.ln a (by omega) (by omega)
    have hwa := hRS.wv a (by omega) (by omega)
    have hLa := cSl_len hRS (a := a) (by omega) (by omega)
    refine kw_aload_n hC dX7_clear_9 rfl 0 rfl ?_
    refine kg_0_2 hC w7 f25 dX7_clear_10 rfl (by decide) (by decide) ?_
    refine kw_iload_n hC dX7_clear_13 rfl 1 rfl ?_
    refine ka_20 hC dX7_clear_14 rfl (by decide) (by decide) (by omega) (by omega) ?_
    refine kg_1_1 hC w6 f131 dX7_clear_15 rfl (by omega) (by omega) ?_
    refine kw_istore_n (lv' := [(2, _), (0, _), (1, _)]) hC dX7_clear_18 rfl (by decide) rfl ?_
    refine kw_aload_n hC dX7_clear_19 rfl 1 rfl ?_
    refine kg_0_2 hC w7 f25 dX7_clear_20 rfl (by decide) (by decide) ?_
    refine kw_iload_n hC dX7_clear_23 rfl 2 rfl ?_
    refine ka_20 hC dX7_clear_24 rfl (by decide) (by decide) (by omega) (by omega) ?_
    refine kw_iconst hC dX7_clear_25 rfl ?_
    refine kp_1_1 hC w6 f131 dX7_clear_26 rfl (by omega) (by omega) ?_
    refine kw_hv hfS (by unfold fWd; omega) (fun S2 hfS2 hv2 ho2 => ?_)
    have hw9 := hRS.wd (hfS2.mono (fun k i j h => by unfold fWd at h; unfold fZ; omega)) (fun s s0 s1 => by rcases Decidable.em (s = a) with e | e; exact (by rw [e, hv2]; exact ⟨by omega, fun j _ _ => by omega⟩); exact (by rw [ho2 1 s 1 (by omega), show S2 2 s = S 2 s from funext fun j => ho2 2 s j (by omega)]; exact ⟨hRS.ln s s0 s1, hRS.wv s s0 s1⟩))
    have hst : cSl S2 = upw (cSl S) a [] := by rw [cSl_st (by omega) (by omega) hfS2, show kP S2 a = [] from by unfold kP; rw [hv2]; rfl]
    refine kw_iload_n hC dX7_clear_29 rfl 0 rfl ?_
    exact hR9.1 rfl _ _ _ _ dX7_clear_30 (by first | (exfalso; omega) | exact ⟨_, rfl, hRS, Fr.rfl _ S, by unfold fClear; rw [if_neg (by omega)]⟩ | exact ⟨_, rfl, hw9, fWd_tXw hfS2, by unfold fClear; rw [if_pos (by omega), hLa, hst]⟩)
  · refine kw_iconst hC dX7_clear_7 rfl ?_
    exact hR9.1 rfl _ _ _ _ dX7_clear_8 (by first | (exfalso; omega) | exact ⟨_, rfl, hRS, Fr.rfl _ S, by unfold fClear; rw [if_neg (by omega)]⟩ | exact ⟨_, rfl, hw9, fWd_tXw hfS, by unfold fClear; rw [if_pos (by omega), hLa, hst]⟩)

set_option maxHeartbeats 4000000 in
set_option maxRecDepth 100000 in
theorem f_X7_put {g : wG} (hD : wD g) {S : wSt} {a b : Int} (ha : -2147483648 ≤ a ∧ a ≤ 2147483647) (hb : -2147483648 ≤ b ∧ b ≤ 2147483647) (hRS : CI S) (l : Launch) : Kt l yX7_put wsX7_put ({ frames := 1, cells := 0, slots := 0, locals := 21 } : Room) g S [vr g 0 0, vi a, vi b] (pI (fun r S' => CI S' ∧ Fr tXw S S' ∧ fPut (kn S) a b (cSl S) = (r, cSl S'))) := by
  refine Kt.of (cc := cX7_put) (nL := 3) (ret := (some .int)) (own := RX7) rfl hD (by decide) rfl (Nat.le_of_ble_eq_true rfl) ⟨rfl, rfl⟩ ?_
  intro E hC hR9
  have f12 : Cond.fieldLink RX7 12 "MirrorBench" "set" "LMirrorBench$Mirrors;" ∈ wsX7_put := by decide +kernel
  have f25 : Cond.fieldLink RX7 25 "MirrorBench" "slots" "[LMirrorBench$Word;" ∈ wsX7_put := by decide +kernel
  have f131 : Cond.fieldLink RX7 131 "MirrorBench$Word" "length" "I" ∈ wsX7_put := by decide +kernel
  have w6 : ∀ w ∈ wsX60, w ∈ wsX7_put := by decide +kernel
  have w7 : ∀ w ∈ wsX70, w ∈ wsX7_put := by decide +kernel
  show Wk E g 3 S 0 [(0, vr g 0 0), (1, vi a), (2, vi b)] []
  have hfS : Fr (fWd a) S S := Fr.rfl _ S
  have hnS := hRS.n
  have hkn : (kn S : Int) = S 3 16 2 := by unfold kn; omega
  refine kw_iload_n hC dX7_put_0 rfl 1 rfl ?_
  refine kw_callS hC (d_X7_isSlot hD (by omega)) gX7_put_X7_isSlot rfl ⟨rfl, rfl⟩ 1 (by decide +kernel) ⟨by decide, by decide⟩ rfl rfl (Nat.le_of_ble_eq_true rfl) dX7_put_1 rfl (kd_ie ?_)
  refine kw_ifeq_b (tgt := 18) hC dX7_put_4 rfl (by decide) ⟨fun c4 => ?_, fun c4 => ?_⟩
  · refine kw_iconst hC dX7_put_18 rfl ?_
    exact hR9.1 rfl _ _ _ _ dX7_put_19 (by first | (exfalso; omega) | exact ⟨_, rfl, hRS, Fr.rfl _ S, by unfold fPut; rw [if_neg (by omega)]⟩ | exact ⟨_, rfl, hRS, Fr.rfl _ S, by unfold fPut; rw [if_pos (by omega), if_pos (by omega)]⟩ | exact ⟨_, rfl, hw9, fWd_tXw hfS, by unfold fPut; rw [if_pos (by omega), if_neg (by omega), hst]; exact Prod.ext (by show _ = _; omega) rfl⟩)
  · refine kw_aload_n hC dX7_put_7 rfl 0 rfl ?_
    refine kg_0_0 hC w7 f12 dX7_put_8 rfl (by decide) (by decide) ?_
    refine kw_iload_n hC dX7_put_11 rfl 2 rfl ?_
    refine kw_callV hC (d_X3_has hD (by omega) (by omega) (by omega) (by omega) (by omega)) gX7_put_X3_has ⟨_, rfl⟩ rfl (by omega) (show (16 : Int) < 17 by omega) rfl ⟨rfl, rfl⟩ 1 (by decide +kernel) ⟨by decide, by decide⟩ rfl rfl (Nat.le_of_ble_eq_true rfl) dX7_put_12 rfl (kd_ie ?_)
    refine kw_ifne_b (tgt := 20) hC dX7_put_15 rfl (by decide) ⟨fun c15 => ?_, fun c15 => ?_⟩
    · have hla := hRS.ln a (by omega) (by omega)
      have hwa := hRS.wv a (by omega) (by omega)
      have hLa := cSl_len hRS (a := a) (by omega) (by omega)
      refine kw_aload_n hC dX7_put_20 rfl 0 rfl ?_
      refine kg_0_2 hC w7 f25 dX7_put_21 rfl (by decide) (by decide) ?_
      refine kw_iload_n hC dX7_put_24 rfl 1 rfl ?_
      refine ka_20 hC dX7_put_25 rfl (by decide) (by decide) (by omega) (by omega) ?_
      refine kg_1_1 hC w6 f131 dX7_put_26 rfl (by omega) (by omega) ?_
      refine kw_bipush hC dX7_put_29 rfl (by decide) ?_
      refine kw_icmp_ne (tgt := 37) hC dX7_put_31 rfl (by decide) (by omega) (by omega) ⟨fun c31 => ?_, fun c31 => ?_⟩
      · refine kw_aload_n hC dX7_put_37 rfl 0 rfl ?_
        refine kg_0_2 hC w7 f25 dX7_put_38 rfl (by decide) (by decide) ?_
        refine kw_iload_n hC dX7_put_41 rfl 1 rfl ?_
        refine ka_20 hC dX7_put_42 rfl (by decide) (by decide) (by omega) (by omega) ?_
        refine kw_iload_n hC dX7_put_43 rfl 2 rfl ?_
        refine kw_callV hC (d_X6_add hD (by omega) (by omega) (by omega) (by omega)) gX7_put_X6_add ⟨_, rfl⟩ rfl (by omega) (show (_ : Int) < 12 by omega) rfl ⟨rfl, rfl⟩ 1 (by decide +kernel) ⟨by decide, by decide⟩ rfl rfl (Nat.le_of_ble_eq_true rfl) dX7_put_44 rfl (kd_v (fun S4 hp4 => ?_))
        obtain ⟨hg4, hp4⟩ := hp4
        have hfS4 : Fr (fWd a) S S4 := hfS.trans (hg4.mono (fun k i j h => by unfold fWd at h; unfold fWd; omega))
        obtain ⟨y1, y2, y3⟩ := hp4
        have hw9 := hRS.wd (hfS4.mono (fun k i j h => by unfold fWd at h; unfold fZ; omega)) (fun s s0 s1 => by rcases Decidable.em (s = a) with e | e; exact (by rw [e, y1]; exact ⟨by omega, hwa.add (fun j hj => y3 j hj) (by rw [y2]; omega)⟩); exact (by rw [hg4 1 s 1 (by unfold fWd; omega), show S4 2 s = S 2 s from funext fun j => hg4 2 s j (by unfold fWd; omega)]; exact ⟨hRS.ln s s0 s1, hRS.wv s s0 s1⟩))
        have hst : cSl S4 = upw (cSl S) a (cSl S a ++ [b.toNat]) := by rw [cSl_st (by omega) (by omega) hfS4, cSl_at (by omega) (by omega)]; congr 1; exact (wl_eq y1 (fun _ _ _ => rfl)).trans (wl_add (by omega) (fun j _ hj => y3 j (by omega)) y2)
        refine kw_aload_n hC dX7_put_47 rfl 0 rfl ?_
        refine kg_0_2 hC w7 f25 dX7_put_48 rfl (by decide) (by decide) ?_
        refine kw_iload_n hC dX7_put_51 rfl 1 rfl ?_
        refine ka_20 hC dX7_put_52 rfl (by decide) (by decide) (by omega) (by omega) ?_
        refine kg_1_1 hC w6 f131 dX7_put_53 rfl (by omega) (by omega) ?_
        exact hR9.1 rfl _ _ _ _ dX7_put_56 (by first | (exfalso; omega) | exact ⟨_, rfl, hRS, Fr.rfl _ S, by unfold fPut; rw [if_neg (by omega)]⟩ | exact ⟨_, rfl, hRS, Fr.rfl _ S, by unfold fPut; rw [if_pos (by omega), if_pos (by omega)]⟩ | exact ⟨_, rfl, hw9, fWd_tXw hfS4, by unfold fPut; rw [if_pos (by omega), if_neg (by omega), hst]; exact Prod.ext (by show _ = _; omega) rfl⟩)
      · refine kw_bipush hC dX7_put_34 rfl (by decide) ?_
        exact hR9.1 rfl _ _ _ _ dX7_put_36 (by first | (exfalso; omega) | exact ⟨_, rfl, hRS, Fr.rfl _ S, by unfold fPut; rw [if_neg (by omega)]⟩ | exact ⟨_, rfl, hRS, Fr.rfl _ S, by unfold fPut; rw [if_pos (by omega), if_pos (by omega)]⟩ | exact ⟨_, rfl, hw9, fWd_tXw hfS, by unfold fPut; rw [if_pos (by omega), if_neg (by omega), hst]; exact Prod.ext (by show _ = _; omega) rfl⟩)
    · refine kw_iconst hC dX7_put_18 rfl ?_
      exact hR9.1 rfl _ _ _ _ dX7_put_19 (by first | (exfalso; omega) | exact ⟨_, rfl, hRS, Fr.rfl _ S, by unfold fPut; rw [if_neg (by omega)]⟩ | exact ⟨_, rfl, hRS, Fr.rfl _ S, by unfold fPut; rw [if_pos (by omega), if_pos (by omega)]⟩ | exact ⟨_, rfl, hw9, fWd_tXw hfS, by unfold fPut; rw [if_pos (by omega), if_neg (by omega), hst]; exact Prod.ext (by show _ = _; omega) rfl⟩)

set_option maxHeartbeats 4000000 in
set_option maxRecDepth 100000 in
theorem f_X7_at {g : wG} (hD : wD g) {S : wSt} {a b : Int} (ha : -2147483648 ≤ a ∧ a ≤ 2147483647) (hb : -2147483648 ≤ b ∧ b ≤ 2147483647) (hRS : CI S) (l : Launch) : Kt l yX7_at wsX7_at ({ frames := 1, cells := 0, slots := 0, locals := 20 } : Room) g S [vr g 0 0, vi a, vi b] (pI (fun r S' => CI S' ∧ Fr tXw S S' ∧ (fAt a b (cSl S), cSl S) = (r, cSl S'))) := by
  refine Kt.of (cc := cX7_at) (nL := 4) (ret := (some .int)) (own := RX7) rfl hD (by decide) rfl (Nat.le_of_ble_eq_true rfl) ⟨rfl, rfl⟩ ?_
  intro E hC hR9
  have f25 : Cond.fieldLink RX7 25 "MirrorBench" "slots" "[LMirrorBench$Word;" ∈ wsX7_at := by decide +kernel
  have f131 : Cond.fieldLink RX7 131 "MirrorBench$Word" "length" "I" ∈ wsX7_at := by decide +kernel
  have f157 : Cond.fieldLink RX7 157 "MirrorBench$Word" "mirrors" "[I" ∈ wsX7_at := by decide +kernel
  have w6 : ∀ w ∈ wsX60, w ∈ wsX7_at := by decide +kernel
  have w7 : ∀ w ∈ wsX70, w ∈ wsX7_at := by decide +kernel
  show Wk E g 4 S 0 [(0, vr g 0 0), (1, vi a), (2, vi b)] []
  have hnS := hRS.n
  have hkn : (kn S : Int) = S 3 16 2 := by unfold kn; omega
  refine kw_iload_n hC dX7_at_0 rfl 1 rfl ?_
  refine kw_callS hC (d_X7_isSlot hD (by omega)) gX7_at_X7_isSlot rfl ⟨rfl, rfl⟩ 1 (by decide +kernel) ⟨by decide, by decide⟩ rfl rfl (Nat.le_of_ble_eq_true rfl) dX7_at_1 rfl (kd_ie ?_)
  refine kw_ifne_b (tgt := 9) hC dX7_at_4 rfl (by decide) ⟨fun c4 => ?_, fun c4 => ?_⟩
  · have hla := hRS.ln a (by omega) (by omega)
    have hwa := hRS.wv a (by omega) (by omega)
    have hLa := cSl_len hRS (a := a) (by omega) (by omega)
    refine kw_aload_n hC dX7_at_9 rfl 0 rfl ?_
    refine kg_0_2 hC w7 f25 dX7_at_10 rfl (by decide) (by decide) ?_
    refine kw_iload_n hC dX7_at_13 rfl 1 rfl ?_
    refine ka_20 hC dX7_at_14 rfl (by decide) (by decide) (by omega) (by omega) ?_
    refine kw_astore_n (lv' := [(3, _), (0, _), (1, _), (2, _)]) hC dX7_at_15 rfl (by decide) rfl ?_
    refine kw_iload_n hC dX7_at_16 rfl 3 rfl ?_
    refine kw_iconst hC dX7_at_17 rfl ?_
    refine kw_icmp_ne (tgt := 26) hC dX7_at_18 rfl (by decide) (by omega) (by omega) ⟨fun c18 => ?_, fun c18 => ?_⟩
    · refine kw_iload_n hC dX7_at_26 rfl 3 rfl ?_
      refine kw_if_lt (tgt := 47) hC dX7_at_27 rfl (by decide) (by omega) ⟨fun c27 => ?_, fun c27 => ?_⟩
      · refine kw_iconst hC dX7_at_47 rfl ?_
        exact hR9.1 rfl _ _ _ _ dX7_at_48 (by first | (exfalso; omega) | exact ⟨_, rfl, hRS, Fr.rfl _ S, by unfold fAt; rw [if_neg (by omega)]⟩ | exact ⟨_, rfl, hRS, Fr.rfl _ S, by unfold fAt; rw [if_pos (by omega), if_pos (by omega), hLa]⟩ | exact ⟨_, rfl, hRS, Fr.rfl _ S, by unfold fAt; rw [if_pos (by omega), if_neg (by omega), cSl_get (by omega) (by omega) (by omega) (by omega), Int.toNat_of_nonneg (hwa b (by omega) (by omega)).1]⟩)
      · refine kw_iload_n hC dX7_at_30 rfl 3 rfl ?_
        refine kw_aload_n hC dX7_at_31 rfl 0 rfl ?_
        refine kg_1_1 hC w6 f131 dX7_at_32 rfl (by omega) (by omega) ?_
        refine kw_icmp_ge (tgt := 47) hC dX7_at_35 rfl (by decide) (by omega) (by omega) ⟨fun c35 => ?_, fun c35 => ?_⟩
        · refine kw_iconst hC dX7_at_47 rfl ?_
          exact hR9.1 rfl _ _ _ _ dX7_at_48 (by first | (exfalso; omega) | exact ⟨_, rfl, hRS, Fr.rfl _ S, by unfold fAt; rw [if_neg (by omega)]⟩ | exact ⟨_, rfl, hRS, Fr.rfl _ S, by unfold fAt; rw [if_pos (by omega), if_pos (by omega), hLa]⟩ | exact ⟨_, rfl, hRS, Fr.rfl _ S, by unfold fAt; rw [if_pos (by omega), if_neg (by omega), cSl_get (by omega) (by omega) (by omega) (by omega), Int.toNat_of_nonneg (hwa b (by omega) (by omega)).1]⟩)
        · refine kw_aload_n hC dX7_at_38 rfl 0 rfl ?_
          refine kg_1_0 hC w6 f157 dX7_at_39 rfl (by omega) (by omega) ?_
          refine kw_iload_n hC dX7_at_42 rfl 3 rfl ?_
          refine ka_2 hC dX7_at_43 rfl (by omega) (by omega) (by omega) (by omega) ?_
          refine kw_goto (tgt := 48) hC dX7_at_44 rfl (by decide) ?_
          exact hR9.1 rfl _ _ _ _ dX7_at_48 (by first | (exfalso; omega) | exact ⟨_, rfl, hRS, Fr.rfl _ S, by unfold fAt; rw [if_neg (by omega)]⟩ | exact ⟨_, rfl, hRS, Fr.rfl _ S, by unfold fAt; rw [if_pos (by omega), if_pos (by omega), hLa]⟩ | exact ⟨_, rfl, hRS, Fr.rfl _ S, by unfold fAt; rw [if_pos (by omega), if_neg (by omega), cSl_get (by omega) (by omega) (by omega) (by omega), Int.toNat_of_nonneg (hwa b (by omega) (by omega)).1]⟩)
    · refine kw_aload_n hC dX7_at_21 rfl 0 rfl ?_
      refine kg_1_1 hC w6 f131 dX7_at_22 rfl (by omega) (by omega) ?_
      exact hR9.1 rfl _ _ _ _ dX7_at_25 (by first | (exfalso; omega) | exact ⟨_, rfl, hRS, Fr.rfl _ S, by unfold fAt; rw [if_neg (by omega)]⟩ | exact ⟨_, rfl, hRS, Fr.rfl _ S, by unfold fAt; rw [if_pos (by omega), if_pos (by omega), hLa]⟩ | exact ⟨_, rfl, hRS, Fr.rfl _ S, by unfold fAt; rw [if_pos (by omega), if_neg (by omega), cSl_get (by omega) (by omega) (by omega) (by omega), Int.toNat_of_nonneg (hwa b (by omega) (by omega)).1]⟩)
  · refine kw_iconst hC dX7_at_7 rfl ?_
    exact hR9.1 rfl _ _ _ _ dX7_at_8 (by first | (exfalso; omega) | exact ⟨_, rfl, hRS, Fr.rfl _ S, by unfold fAt; rw [if_neg (by omega)]⟩ | exact ⟨_, rfl, hRS, Fr.rfl _ S, by unfold fAt; rw [if_pos (by omega), if_pos (by omega), hLa]⟩ | exact ⟨_, rfl, hRS, Fr.rfl _ S, by unfold fAt; rw [if_pos (by omega), if_neg (by omega), cSl_get (by omega) (by omega) (by omega) (by omega), Int.toNat_of_nonneg (hwa b (by omega) (by omega)).1]⟩)

set_option maxHeartbeats 4000000 in
set_option maxRecDepth 100000 in
theorem f_X7_times {g : wG} (hD : wD g) {S : wSt} {a b c : Int} (ha : -2147483648 ≤ a ∧ a ≤ 2147483647) (hb : -2147483648 ≤ b ∧ b ≤ 2147483647) (hc : -2147483648 ≤ c ∧ c ≤ 2147483647) (hRS : CI S) (l : Launch) : Kt l yX7_times wsX7_times ({ frames := 3, cells := 0, slots := 0, locals := 69 } : Room) g S [vr g 0 0, vi a, vi b, vi c] (pI (fun r S' => CI S' ∧ Fr tXw S S' ∧ fTimes a b c (cSl S) = (r, cSl S'))) := by
  refine Kt.of (cc := cX7_times) (nL := 4) (ret := (some .int)) (own := RX7) rfl hD (by decide) rfl (Nat.le_of_ble_eq_true rfl) ⟨rfl, rfl⟩ ?_
  intro E hC hR9
  have f25 : Cond.fieldLink RX7 25 "MirrorBench" "slots" "[LMirrorBench$Word;" ∈ wsX7_times := by decide +kernel
  have f59 : Cond.fieldLink RX7 59 "MirrorBench" "made" "LMirrorBench$Word;" ∈ wsX7_times := by decide +kernel
  have f131 : Cond.fieldLink RX7 131 "MirrorBench$Word" "length" "I" ∈ wsX7_times := by decide +kernel
  have w6 : ∀ w ∈ wsX60, w ∈ wsX7_times := by decide +kernel
  have w7 : ∀ w ∈ wsX70, w ∈ wsX7_times := by decide +kernel
  show Wk E g 4 S 0 [(0, vr g 0 0), (1, vi a), (2, vi b), (3, vi c)] []
  have hfS : Fr tC S S := Fr.rfl _ S
  have hRS := hRS.fr hfS
  have hnS := hRS.n
  have enS : S 3 16 2 = S 3 16 2 := hfS 3 16 2 (by unfold tC; omega)
  have hnS := hRS.n
  have hkn : (kn S : Int) = S 3 16 2 := by unfold kn; omega
  refine kw_iload_n hC dX7_times_0 rfl 1 rfl ?_
  refine kw_callS hC (d_X7_isSlot hD (by omega)) gX7_times_X7_isSlot rfl ⟨rfl, rfl⟩ 1 (by decide +kernel) ⟨by decide, by decide⟩ rfl rfl (Nat.le_of_ble_eq_true rfl) dX7_times_1 rfl (kd_ie ?_)
  refine kw_ifeq_b (tgt := 21) hC dX7_times_4 rfl (by decide) ⟨fun c4 => ?_, fun c4 => ?_⟩
  · refine kw_iconst hC dX7_times_21 rfl ?_
    exact hR9.1 rfl _ _ _ _ dX7_times_22 (by first | (exfalso; omega) | exact ⟨_, rfl, hRS, tC_tXw hfS, by unfold fTimes; rw [if_neg (by omega), cSl_tC hfS]⟩ | exact ⟨_, rfl, hRS, tC_tXw hfS, by unfold fTimes; rw [if_pos (by omega), if_pos (by omega), cSl_tC hfS]⟩ | exact ⟨_, rfl, hp9.2.1, (tC_tXw hfS).trans (fWd_tXw hp9.2.2.1), by unfold fTimes; rw [if_pos (by omega), if_neg (by omega)]; exact st_k (by omega) (by omega) (by omega) hp9 (cSl_tC hfS) eW9⟩)
  · refine kw_iload_n hC dX7_times_7 rfl 2 rfl ?_
    refine kw_callS hC (d_X7_isSlot hD (by omega)) gX7_times_X7_isSlot rfl ⟨rfl, rfl⟩ 1 (by decide +kernel) ⟨by decide, by decide⟩ rfl rfl (Nat.le_of_ble_eq_true rfl) dX7_times_8 rfl (kd_ie ?_)
    refine kw_ifeq_b (tgt := 21) hC dX7_times_11 rfl (by decide) ⟨fun c11 => ?_, fun c11 => ?_⟩
    · refine kw_iconst hC dX7_times_21 rfl ?_
      exact hR9.1 rfl _ _ _ _ dX7_times_22 (by first | (exfalso; omega) | exact ⟨_, rfl, hRS, tC_tXw hfS, by unfold fTimes; rw [if_neg (by omega), cSl_tC hfS]⟩ | exact ⟨_, rfl, hRS, tC_tXw hfS, by unfold fTimes; rw [if_pos (by omega), if_pos (by omega), cSl_tC hfS]⟩ | exact ⟨_, rfl, hp9.2.1, (tC_tXw hfS).trans (fWd_tXw hp9.2.2.1), by unfold fTimes; rw [if_pos (by omega), if_neg (by omega)]; exact st_k (by omega) (by omega) (by omega) hp9 (cSl_tC hfS) eW9⟩)
    · refine kw_iload_n hC dX7_times_14 rfl 3 rfl ?_
      refine kw_callS hC (d_X7_isSlot hD (by omega)) gX7_times_X7_isSlot rfl ⟨rfl, rfl⟩ 1 (by decide +kernel) ⟨by decide, by decide⟩ rfl rfl (Nat.le_of_ble_eq_true rfl) dX7_times_15 rfl (kd_ie ?_)
      refine kw_ifne_b (tgt := 23) hC dX7_times_18 rfl (by decide) ⟨fun c18 => ?_, fun c18 => ?_⟩
      · have hla := hRS.ln a (by omega) (by omega)
        have hlb := hRS.ln b (by omega) (by omega)
        have hwa := hRS.wv a (by omega) (by omega)
        have hwb := hRS.wv b (by omega) (by omega)
        have hLa := cSl_len hRS (a := a) (by omega) (by omega)
        have hLb := cSl_len hRS (a := b) (by omega) (by omega)
        refine kw_aload_n hC dX7_times_23 rfl 0 rfl ?_
        refine kg_0_2 hC w7 f25 dX7_times_24 rfl (by decide) (by decide) ?_
        refine kw_iload_n hC dX7_times_27 rfl 1 rfl ?_
        refine ka_20 hC dX7_times_28 rfl (by decide) (by decide) (by omega) (by omega) ?_
        refine kg_1_1 hC w6 f131 dX7_times_29 rfl (by omega) (by omega) ?_
        refine kw_aload_n hC dX7_times_32 rfl 0 rfl ?_
        refine kg_0_2 hC w7 f25 dX7_times_33 rfl (by decide) (by decide) ?_
        refine kw_iload_n hC dX7_times_36 rfl 2 rfl ?_
        refine ka_20 hC dX7_times_37 rfl (by decide) (by decide) (by omega) (by omega) ?_
        refine kg_1_1 hC w6 f131 dX7_times_38 rfl (by omega) (by omega) ?_
        refine kw_iadd hC dX7_times_41 rfl ?_
        refine kw_bipush hC dX7_times_42 rfl (by decide) ?_
        refine kw_icmp_le (tgt := 50) hC dX7_times_44 rfl (by decide) (by omega) (by omega) ⟨fun c44 => ?_, fun c44 => ?_⟩
        · refine kw_aload_n hC dX7_times_50 rfl 0 rfl ?_
          refine kg_0_7 hC w7 f59 dX7_times_51 rfl (by decide) (by decide) ?_
          refine kw_aload_n hC dX7_times_54 rfl 0 rfl ?_
          refine kg_0_2 hC w7 f25 dX7_times_55 rfl (by decide) (by decide) ?_
          refine kw_iload_n hC dX7_times_58 rfl 1 rfl ?_
          refine ka_20 hC dX7_times_59 rfl (by decide) (by decide) (by omega) (by omega) ?_
          refine kw_callV hC (d_X6_take hD (by omega) (by omega) (by omega) (by omega) (by omega) (by omega)) gX7_times_X6_take ⟨_, rfl⟩ rfl (by omega) (show (_ : Int) < 12 by omega) rfl ⟨rfl, rfl⟩ 1 (by decide +kernel) ⟨by decide, by decide⟩ rfl rfl (Nat.le_of_ble_eq_true rfl) dX7_times_60 rfl (kd_v (fun S5 hp5 => ?_))
          obtain ⟨hg5, hp5⟩ := hp5
          have hfS5 : Fr tC S S5 := hfS.trans (hg5.mono (fun k i j h => by unfold fWd at h; unfold tC; omega))
          have hRS5 := hRS.fr hfS5
          have hnS5 := hRS5.n
          have enS5 : S5 3 16 2 = S 3 16 2 := hfS5 3 16 2 (by unfold tC; omega)
          obtain ⟨y1, y2⟩ := hp5
          have hwv : WV (S5 2 8) (S5 1 8 1) (S5 3 16 2) := hwa.eq (fun j j0 j1 => y2 j j0 j1) y1 enS5
          have eb : S5 1 b 1 = S 1 b 1 := hfS5 1 b 1 (by unfold tC; omega)
          have eb2 : ∀ j, S5 2 b j = S 2 b j := fun j => hfS5 2 b j (by unfold tC; omega)
          have eW8 : kP S5 8 = cSl S a := by rw [cSl_at (by omega) (by omega)]; exact wl_eq y1 y2
          have eB8 : kP S5 b = cSl S b := by rw [cSl_at (by omega) (by omega)]; exact kP_eq eb eb2
          refine kw_aload_n hC dX7_times_63 rfl 0 rfl ?_
          refine kg_0_7 hC w7 f59 dX7_times_64 rfl (by decide) (by decide) ?_
          refine kw_aload_n hC dX7_times_67 rfl 0 rfl ?_
          refine kg_0_2 hC w7 f25 dX7_times_68 rfl (by decide) (by decide) ?_
          refine kw_iload_n hC dX7_times_71 rfl 2 rfl ?_
          refine ka_20 hC dX7_times_72 rfl (by decide) (by decide) (by omega) (by omega) ?_
          refine kw_callV hC (d_X6_append hD (by omega) (by omega) (by omega) (by omega) (by omega) (by omega) (by omega)) gX7_times_X6_append ⟨_, rfl⟩ rfl (by omega) (show (_ : Int) < 12 by omega) rfl ⟨rfl, rfl⟩ 1 (by decide +kernel) ⟨by decide, by decide⟩ rfl rfl (Nat.le_of_ble_eq_true rfl) dX7_times_73 rfl (kd_v (fun S6 hp6 => ?_))
          obtain ⟨hg6, hp6⟩ := hp6
          have hfS6 : Fr tC S S6 := hfS5.trans (hg6.mono (fun k i j h => by unfold fWd at h; unfold tC; omega))
          have hRS6 := hRS.fr hfS6
          have hnS6 := hRS6.n
          have enS6 : S6 3 16 2 = S 3 16 2 := hfS6 3 16 2 (by unfold tC; omega)
          obtain ⟨z1, z2, z3⟩ := hp6
          have eW9 : kP S6 8 = cSl S a ++ cSl S b := by rw [← eW8, ← eB8]; unfold kP; rw [z1]; exact wl_app (by omega) (by omega) z2 z3
          replace hwv : WV (S6 2 8) (S6 1 8 1) (S6 3 16 2) := fun j j0 j1 => by rcases Decidable.em (j < S5 1 8 1) with e | e; exact (by rw [z2 j j0 e]; have := hwv j j0 e; omega); exact (by have h5 := z3 (j - S5 1 8 1) (by omega) (by omega); rw [show S5 1 8 1 + (j - S5 1 8 1) = j by omega, eb2] at h5; rw [h5]; have := hwb (j - S5 1 8 1) (by omega) (by omega); omega)
          refine kw_aload_n hC dX7_times_76 rfl 0 rfl ?_
          refine kw_aload_n hC dX7_times_77 rfl 0 rfl ?_
          refine kg_0_7 hC w7 f59 dX7_times_78 rfl (by decide) (by decide) ?_
          refine kw_iload_n hC dX7_times_81 rfl 3 rfl ?_
          refine kw_callV hC (d_X7_store hD (by omega) (by omega) (by omega) (by omega) hRS6 hwv (by omega) (by omega)) gX7_times_X7_store ⟨_, rfl⟩ rfl (by decide) (by decide) rfl ⟨rfl, rfl⟩ 2 (by decide +kernel) ⟨by decide, by decide⟩ rfl rfl (Nat.le_of_ble_eq_true rfl) dX7_times_82 rfl (kd_i (fun r9 Sz hp9 => ?_))
          exact hR9.1 rfl _ _ _ _ dX7_times_85 (by first | (exfalso; omega) | exact ⟨_, rfl, hRS6, tC_tXw hfS6, by unfold fTimes; rw [if_neg (by omega), cSl_tC hfS6]⟩ | exact ⟨_, rfl, hRS6, tC_tXw hfS6, by unfold fTimes; rw [if_pos (by omega), if_pos (by omega), cSl_tC hfS6]⟩ | exact ⟨_, rfl, hp9.2.1, (tC_tXw hfS6).trans (fWd_tXw hp9.2.2.1), by unfold fTimes; rw [if_pos (by omega), if_neg (by omega)]; exact st_k (by omega) (by omega) (by omega) hp9 (cSl_tC hfS6) eW9⟩)
        · refine kw_bipush hC dX7_times_47 rfl (by decide) ?_
          exact hR9.1 rfl _ _ _ _ dX7_times_49 (by first | (exfalso; omega) | exact ⟨_, rfl, hRS, tC_tXw hfS, by unfold fTimes; rw [if_neg (by omega), cSl_tC hfS]⟩ | exact ⟨_, rfl, hRS, tC_tXw hfS, by unfold fTimes; rw [if_pos (by omega), if_pos (by omega), cSl_tC hfS]⟩ | exact ⟨_, rfl, hp9.2.1, (tC_tXw hfS).trans (fWd_tXw hp9.2.2.1), by unfold fTimes; rw [if_pos (by omega), if_neg (by omega)]; exact st_k (by omega) (by omega) (by omega) hp9 (cSl_tC hfS) eW9⟩)
      · refine kw_iconst hC dX7_times_21 rfl ?_
        exact hR9.1 rfl _ _ _ _ dX7_times_22 (by first | (exfalso; omega) | exact ⟨_, rfl, hRS, tC_tXw hfS, by unfold fTimes; rw [if_neg (by omega), cSl_tC hfS]⟩ | exact ⟨_, rfl, hRS, tC_tXw hfS, by unfold fTimes; rw [if_pos (by omega), if_pos (by omega), cSl_tC hfS]⟩ | exact ⟨_, rfl, hp9.2.1, (tC_tXw hfS).trans (fWd_tXw hp9.2.2.1), by unfold fTimes; rw [if_pos (by omega), if_neg (by omega)]; exact st_k (by omega) (by omega) (by omega) hp9 (cSl_tC hfS) eW9⟩)

set_option maxHeartbeats 4000000 in
set_option maxRecDepth 100000 in
theorem f_X7_back {g : wG} (hD : wD g) {S : wSt} {a b : Int} (ha : -2147483648 ≤ a ∧ a ≤ 2147483647) (hb : -2147483648 ≤ b ∧ b ≤ 2147483647) (hRS : CI S) (l : Launch) : Kt l yX7_back wsX7_back ({ frames := 3, cells := 0, slots := 0, locals := 69 } : Room) g S [vr g 0 0, vi a, vi b] (pI (fun r S' => CI S' ∧ Fr tXw S S' ∧ fBack a b (cSl S) = (r, cSl S'))) := by
  refine Kt.of (cc := cX7_back) (nL := 3) (ret := (some .int)) (own := RX7) rfl hD (by decide) rfl (Nat.le_of_ble_eq_true rfl) ⟨rfl, rfl⟩ ?_
  intro E hC hR9
  have f25 : Cond.fieldLink RX7 25 "MirrorBench" "slots" "[LMirrorBench$Word;" ∈ wsX7_back := by decide +kernel
  have f59 : Cond.fieldLink RX7 59 "MirrorBench" "made" "LMirrorBench$Word;" ∈ wsX7_back := by decide +kernel
  have w7 : ∀ w ∈ wsX70, w ∈ wsX7_back := by decide +kernel
  show Wk E g 3 S 0 [(0, vr g 0 0), (1, vi a), (2, vi b)] []
  have hfS : Fr tC S S := Fr.rfl _ S
  have hRS := hRS.fr hfS
  have hnS := hRS.n
  have enS : S 3 16 2 = S 3 16 2 := hfS 3 16 2 (by unfold tC; omega)
  have hnS := hRS.n
  have hkn : (kn S : Int) = S 3 16 2 := by unfold kn; omega
  refine kw_iload_n hC dX7_back_0 rfl 1 rfl ?_
  refine kw_callS hC (d_X7_isSlot hD (by omega)) gX7_back_X7_isSlot rfl ⟨rfl, rfl⟩ 1 (by decide +kernel) ⟨by decide, by decide⟩ rfl rfl (Nat.le_of_ble_eq_true rfl) dX7_back_1 rfl (kd_ie ?_)
  refine kw_ifeq_b (tgt := 14) hC dX7_back_4 rfl (by decide) ⟨fun c4 => ?_, fun c4 => ?_⟩
  · refine kw_iconst hC dX7_back_14 rfl ?_
    exact hR9.1 rfl _ _ _ _ dX7_back_15 (by first | (exfalso; omega) | exact ⟨_, rfl, hRS, tC_tXw hfS, by unfold fBack; rw [if_neg (by omega), cSl_tC hfS]⟩ | exact ⟨_, rfl, hp9.2.1, (tC_tXw hfS).trans (fWd_tXw hp9.2.2.1), by unfold fBack; rw [if_pos (by omega)]; exact st_k (by omega) (by omega) (by omega) hp9 (cSl_tC hfS) eW9⟩)
  · refine kw_iload_n hC dX7_back_7 rfl 2 rfl ?_
    refine kw_callS hC (d_X7_isSlot hD (by omega)) gX7_back_X7_isSlot rfl ⟨rfl, rfl⟩ 1 (by decide +kernel) ⟨by decide, by decide⟩ rfl rfl (Nat.le_of_ble_eq_true rfl) dX7_back_8 rfl (kd_ie ?_)
    refine kw_ifne_b (tgt := 16) hC dX7_back_11 rfl (by decide) ⟨fun c11 => ?_, fun c11 => ?_⟩
    · have hla := hRS.ln a (by omega) (by omega)
      have hwa := hRS.wv a (by omega) (by omega)
      have hLa := cSl_len hRS (a := a) (by omega) (by omega)
      refine kw_aload_n hC dX7_back_16 rfl 0 rfl ?_
      refine kg_0_7 hC w7 f59 dX7_back_17 rfl (by decide) (by decide) ?_
      refine kw_aload_n hC dX7_back_20 rfl 0 rfl ?_
      refine kg_0_2 hC w7 f25 dX7_back_21 rfl (by decide) (by decide) ?_
      refine kw_iload_n hC dX7_back_24 rfl 1 rfl ?_
      refine ka_20 hC dX7_back_25 rfl (by decide) (by decide) (by omega) (by omega) ?_
      refine kw_callV hC (d_X6_takeInverted hD (by omega) (by omega) (by omega) (by omega) (by omega) (by omega) (by omega)) gX7_back_X6_takeInverted ⟨_, rfl⟩ rfl (by omega) (show (_ : Int) < 12 by omega) rfl ⟨rfl, rfl⟩ 1 (by decide +kernel) ⟨by decide, by decide⟩ rfl rfl (Nat.le_of_ble_eq_true rfl) dX7_back_26 rfl (kd_v (fun S3 hp3 => ?_))
      obtain ⟨hg3, hp3⟩ := hp3
      have hfS3 : Fr tC S S3 := hfS.trans (hg3.mono (fun k i j h => by unfold fWd at h; unfold tC; omega))
      have hRS3 := hRS.fr hfS3
      have hnS3 := hRS3.n
      have enS3 : S3 3 16 2 = S 3 16 2 := hfS3 3 16 2 (by unfold tC; omega)
      obtain ⟨y1, y2⟩ := hp3
      have eW9 : kP S3 8 = (cSl S a).reverse := by rw [cSl_at (by omega) (by omega)]; unfold kP; rw [y1]; exact wl_rev y2
      have hwv : WV (S3 2 8) (S3 1 8 1) (S3 3 16 2) := fun j j0 j1 => by rw [y2 j j0 (by omega)]; have := hwa (S 1 a 1 - 1 - j) (by omega) (by omega); omega
      refine kw_aload_n hC dX7_back_29 rfl 0 rfl ?_
      refine kw_aload_n hC dX7_back_30 rfl 0 rfl ?_
      refine kg_0_7 hC w7 f59 dX7_back_31 rfl (by decide) (by decide) ?_
      refine kw_iload_n hC dX7_back_34 rfl 2 rfl ?_
      refine kw_callV hC (d_X7_store hD (by omega) (by omega) (by omega) (by omega) hRS3 hwv (by omega) (by omega)) gX7_back_X7_store ⟨_, rfl⟩ rfl (by decide) (by decide) rfl ⟨rfl, rfl⟩ 2 (by decide +kernel) ⟨by decide, by decide⟩ rfl rfl (Nat.le_of_ble_eq_true rfl) dX7_back_35 rfl (kd_i (fun r9 Sz hp9 => ?_))
      exact hR9.1 rfl _ _ _ _ dX7_back_38 (by first | (exfalso; omega) | exact ⟨_, rfl, hRS3, tC_tXw hfS3, by unfold fBack; rw [if_neg (by omega), cSl_tC hfS3]⟩ | exact ⟨_, rfl, hp9.2.1, (tC_tXw hfS3).trans (fWd_tXw hp9.2.2.1), by unfold fBack; rw [if_pos (by omega)]; exact st_k (by omega) (by omega) (by omega) hp9 (cSl_tC hfS3) eW9⟩)
    · refine kw_iconst hC dX7_back_14 rfl ?_
      exact hR9.1 rfl _ _ _ _ dX7_back_15 (by first | (exfalso; omega) | exact ⟨_, rfl, hRS, tC_tXw hfS, by unfold fBack; rw [if_neg (by omega), cSl_tC hfS]⟩ | exact ⟨_, rfl, hp9.2.1, (tC_tXw hfS).trans (fWd_tXw hp9.2.2.1), by unfold fBack; rw [if_pos (by omega)]; exact st_k (by omega) (by omega) (by omega) hp9 (cSl_tC hfS) eW9⟩)

set_option maxHeartbeats 4000000 in
set_option maxRecDepth 100000 in
theorem f_X7_without {g : wG} (hD : wD g) {S : wSt} {a b : Int} (ha : -2147483648 ≤ a ∧ a ≤ 2147483647) (hb : -2147483648 ≤ b ∧ b ≤ 2147483647) (hRS : CI S) (l : Launch) : Kt l yX7_without wsX7_without ({ frames := 3, cells := 0, slots := 0, locals := 69 } : Room) g S [vr g 0 0, vi a, vi b] (pI (fun r S' => CI S' ∧ Fr tXw S S' ∧ fWithout (kK S) a b (cSl S) = (r, cSl S'))) := by
  refine Kt.of (cc := cX7_without) (nL := 5) (ret := (some .int)) (own := RX7) rfl hD (by decide) rfl (Nat.le_of_ble_eq_true rfl) ⟨rfl, rfl⟩ ?_
  intro E hC hR9
  have f12 : Cond.fieldLink RX7 12 "MirrorBench" "set" "LMirrorBench$Mirrors;" ∈ wsX7_without := by decide +kernel
  have f25 : Cond.fieldLink RX7 25 "MirrorBench" "slots" "[LMirrorBench$Word;" ∈ wsX7_without := by decide +kernel
  have f59 : Cond.fieldLink RX7 59 "MirrorBench" "made" "LMirrorBench$Word;" ∈ wsX7_without := by decide +kernel
  have f115 : Cond.fieldLink RX7 115 "MirrorBench$Mirrors" "kinds" "[I" ∈ wsX7_without := by decide +kernel
  have f131 : Cond.fieldLink RX7 131 "MirrorBench$Word" "length" "I" ∈ wsX7_without := by decide +kernel
  have f157 : Cond.fieldLink RX7 157 "MirrorBench$Word" "mirrors" "[I" ∈ wsX7_without := by decide +kernel
  have w3 : ∀ w ∈ wsX30, w ∈ wsX7_without := by decide +kernel
  have w6 : ∀ w ∈ wsX60, w ∈ wsX7_without := by decide +kernel
  have w7 : ∀ w ∈ wsX70, w ∈ wsX7_without := by decide +kernel
  show Wk E g 5 S 0 [(0, vr g 0 0), (1, vi a), (2, vi b)] []
  have hfS : Fr tC S S := Fr.rfl _ S
  have hRS := hRS.fr hfS
  have hnS := hRS.n
  have enS : S 3 16 2 = S 3 16 2 := hfS 3 16 2 (by unfold tC; omega)
  have hnS := hRS.n
  have hkn : (kn S : Int) = S 3 16 2 := by unfold kn; omega
  refine kw_iload_n hC dX7_without_0 rfl 1 rfl ?_
  refine kw_callS hC (d_X7_isSlot hD (by omega)) gX7_without_X7_isSlot rfl ⟨rfl, rfl⟩ 1 (by decide +kernel) ⟨by decide, by decide⟩ rfl rfl (Nat.le_of_ble_eq_true rfl) dX7_without_1 rfl (kd_ie ?_)
  refine kw_ifeq_b (tgt := 14) hC dX7_without_4 rfl (by decide) ⟨fun c4 => ?_, fun c4 => ?_⟩
  · refine kw_iconst hC dX7_without_14 rfl ?_
    exact hR9.1 rfl _ _ _ _ dX7_without_15 (by first | (exfalso; omega) | exact ⟨_, rfl, hRS, tC_tXw hfS, by unfold fWithout; rw [if_neg (by omega), cSl_tC hfS]⟩ | exact ⟨_, rfl, hp9.2.1, (tC_tXw hfS).trans (fWd_tXw hp9.2.2.1), by unfold fWithout; rw [if_pos (by omega)]; exact st_k (by omega) (by omega) (by omega) hp9 (cSl_tC hfS) (hF.trans (by rw [List.take_of_length_le (by omega)]))⟩)
  · refine kw_iload_n hC dX7_without_7 rfl 2 rfl ?_
    refine kw_callS hC (d_X7_isSlot hD (by omega)) gX7_without_X7_isSlot rfl ⟨rfl, rfl⟩ 1 (by decide +kernel) ⟨by decide, by decide⟩ rfl rfl (Nat.le_of_ble_eq_true rfl) dX7_without_8 rfl (kd_ie ?_)
    refine kw_ifne_b (tgt := 16) hC dX7_without_11 rfl (by decide) ⟨fun c11 => ?_, fun c11 => ?_⟩
    · have hla := hRS.ln a (by omega) (by omega)
      have hwa := hRS.wv a (by omega) (by omega)
      have hLa := cSl_len hRS (a := a) (by omega) (by omega)
      refine kw_aload_n hC dX7_without_16 rfl 0 rfl ?_
      refine kg_0_2 hC w7 f25 dX7_without_17 rfl (by decide) (by decide) ?_
      refine kw_iload_n hC dX7_without_20 rfl 1 rfl ?_
      refine ka_20 hC dX7_without_21 rfl (by decide) (by decide) (by omega) (by omega) ?_
      refine kw_astore_n (lv' := [(3, _), (0, _), (1, _), (2, _)]) hC dX7_without_22 rfl (by decide) rfl ?_
      refine kw_aload_n hC dX7_without_23 rfl 1 rfl ?_
      refine kg_0_7 hC w7 f59 dX7_without_24 rfl (by decide) (by decide) ?_
      refine kw_iconst hC dX7_without_27 rfl ?_
      refine kp_1_1 hC w6 f131 dX7_without_28 rfl (by omega) (by omega) ?_
      refine kw_hv hfS (by unfold tC; omega) (fun S3 hfS3 hv3 ho3 => ?_)
      have hRS3 := hRS.fr hfS3
      have hnS3 := hRS3.n
      have enS3 : S3 3 16 2 = S 3 16 2 := hfS3 3 16 2 (by unfold tC; omega)
      refine kw_iconst hC dX7_without_31 rfl ?_
      refine kw_istore (lv' := [(4, _), (3, _), (0, _), (1, _), (2, _)]) hC dX7_without_32 rfl (by decide) rfl ?_
      have hL34 : ∀ (n34 : Nat) (x : Int) (W34 : wSt), Fr tC S W34 → (0 ≤ x) → (x ≤ S 1 a 1) → (0 ≤ W34 1 8 1) → (W34 1 8 1 ≤ x) → (WV (W34 2 8) (W34 1 8 1) (W34 3 16 2)) → (kP W34 8 = ((cSl S a).take x.toNat).filter (fun s => decide (kK S s ≠ 2))) → S 1 a 1 - x < (n34 : Int) → Wk E g 5 W34 34 [(0, vr g 0 0), (1, vi a), (2, vi b), (3, vr g 1 a), (4, vi x)] [] := by
        intro n34
        induction n34 with
        | zero => intro x W34 hfW34 x0 x1 l0 l1 hwv hF hm34; exact absurd hm34 (by omega)
        | succ n34 ih34 =>
          intro x W34 hfW34 x0 x1 l0 l1 hwv hF hm34
          have hRW34 := hRS.fr hfW34
          have hnW34 := hRW34.n
          have enW34 : W34 3 16 2 = S 3 16 2 := hfW34 3 16 2 (by unfold tC; omega)
          refine kw_iload hC dX7_without_34 rfl 4 rfl ?_
          refine kw_aload_n hC dX7_without_36 rfl 3 rfl ?_
          refine kg_1_1 hC w6 f131 dX7_without_37 rfl (by omega) (by omega) ?_
          refine kw_chi (z' := S 1 a 1) (hfW34 1 a 1 (by unfold tC; omega)) ?_
          refine kw_icmp_ge (tgt := 82) hC dX7_without_40 rfl (by decide) (by omega) (by omega) ⟨fun c40 => ?_, fun c40 => ?_⟩
          · refine kw_aload_n hC dX7_without_82 rfl 0 rfl ?_
            refine kw_aload_n hC dX7_without_83 rfl 0 rfl ?_
            refine kg_0_7 hC w7 f59 dX7_without_84 rfl (by decide) (by decide) ?_
            refine kw_iload_n hC dX7_without_87 rfl 2 rfl ?_
            refine kw_callV hC (d_X7_store hD (by omega) (by omega) (by omega) (by omega) hRW34 hwv (by omega) (by omega)) gX7_without_X7_store ⟨_, rfl⟩ rfl (by decide) (by decide) rfl ⟨rfl, rfl⟩ 2 (by decide +kernel) ⟨by decide, by decide⟩ rfl rfl (Nat.le_of_ble_eq_true rfl) dX7_without_88 rfl (kd_i (fun r9 Sz hp9 => ?_))
            exact hR9.1 rfl _ _ _ _ dX7_without_91 (by first | (exfalso; omega) | exact ⟨_, rfl, hRW34, tC_tXw hfW34, by unfold fWithout; rw [if_neg (by omega), cSl_tC hfW34]⟩ | exact ⟨_, rfl, hp9.2.1, (tC_tXw hfW34).trans (fWd_tXw hp9.2.2.1), by unfold fWithout; rw [if_pos (by omega)]; exact st_k (by omega) (by omega) (by omega) hp9 (cSl_tC hfW34) (hF.trans (by rw [List.take_of_length_le (by omega)]))⟩)
          · refine kw_aload_n hC dX7_without_43 rfl 0 rfl ?_
            refine kg_0_0 hC w7 f12 dX7_without_44 rfl (by decide) (by decide) ?_
            refine kg_3_0 hC w3 f115 dX7_without_47 rfl (by omega) (by omega) ?_
            refine kw_aload_n hC dX7_without_50 rfl 3 rfl ?_
            refine kg_1_0 hC w6 f157 dX7_without_51 rfl (by omega) (by omega) ?_
            refine kw_iload hC dX7_without_54 rfl 4 rfl ?_
            refine ka_2 hC dX7_without_56 rfl (by omega) (by omega) (by omega) (by omega) ?_
            refine kw_chi (z' := S 2 a x) (hfW34 2 a x (by unfold tC; omega)) ?_
            have hlx : 0 ≤ S 2 a x ∧ S 2 a x < W34 3 16 2 := by have := hwa x (by omega) (by omega); omega
            have eg : (cSl S a).getD x.toNat 0 = (S 2 a x).toNat := cSl_get (by omega) (by omega) x0 (by omega)
            have ek : kK S (S 2 a x).toNat = W34 4 16 (S 2 a x) := by rw [kK_c (by omega) (by omega), hfW34 4 16 _ (by unfold tC; omega)]
            refine ka_4 hC dX7_without_57 rfl (by omega) (by omega) (by omega) (by omega) ?_
            have hkd := hRW34.kd (S 2 a x) (by omega) (by omega)
            refine kw_iconst hC dX7_without_58 rfl ?_
            refine kw_icmp_eq (tgt := 76) hC dX7_without_59 rfl (by decide) (by omega) (by omega) ⟨fun c59 => ?_, fun c59 => ?_⟩
            · refine kw_iinc (lv' := [(4, _), (0, _), (1, _), (2, _), (3, _)]) hC dX7_without_76 rfl 4 rfl (by decide) rfl ?_
              refine kw_goto (tgt := 34) hC dX7_without_79 rfl (by decide) ?_
              refine kw_lv [1, 2, 3, 4, 0] rfl ?_
              exact ih34 (x + 1) W34 hfW34 (by omega) (by omega) (by omega) (by omega) hwv (by rw [show (x + 1).toNat = x.toNat + 1 by omega, take_s (by omega), List.filter_append, eg]; first | (rw [List.filter_cons_of_pos (by rw [ek]; exact decide_eq_true (by omega))]; rw [eA9, hF]; rfl) | (rw [List.filter_cons_of_neg (by rw [ek]; exact fun q => absurd (of_decide_eq_true q) (by omega))]; rw [hF]; simp)) (by omega)
            · refine kw_aload_n hC dX7_without_62 rfl 0 rfl ?_
              refine kg_0_7 hC w7 f59 dX7_without_63 rfl (by decide) (by decide) ?_
              refine kw_aload_n hC dX7_without_66 rfl 3 rfl ?_
              refine kg_1_0 hC w6 f157 dX7_without_67 rfl (by omega) (by omega) ?_
              refine kw_iload hC dX7_without_70 rfl 4 rfl ?_
              refine ka_2 hC dX7_without_72 rfl (by omega) (by omega) (by omega) (by omega) ?_
              refine kw_chi (z' := S 2 a x) (hfW34 2 a x (by unfold tC; omega)) ?_
              refine kw_callV hC (d_X6_add hD (by omega) (by omega) (by omega) (by omega)) gX7_without_X6_add ⟨_, rfl⟩ rfl (by omega) (show (_ : Int) < 12 by omega) rfl ⟨rfl, rfl⟩ 1 (by decide +kernel) ⟨by decide, by decide⟩ rfl rfl (Nat.le_of_ble_eq_true rfl) dX7_without_73 rfl (kd_v (fun S6 hp6 => ?_))
              obtain ⟨hg6, hp6⟩ := hp6
              have hfS6 : Fr tC S S6 := hfW34.trans (hg6.mono (fun k i j h => by unfold fWd at h; unfold tC; omega))
              have hRS6 := hRS.fr hfS6
              have hnS6 := hRS6.n
              have enS6 : S6 3 16 2 = S 3 16 2 := hfS6 3 16 2 (by unfold tC; omega)
              obtain ⟨y1, y2, y3⟩ := hp6
              replace hwv : WV (S6 2 8) (S6 1 8 1) (S6 3 16 2) := (y1 ▸ hwv.add (fun j hj => y3 j hj) (by rw [y2]; exact hlx)).eq (fun _ _ _ => rfl) rfl (by omega)
              have eA9 : kP S6 8 = kP W34 8 ++ [(S 2 a x).toNat] := (wl_eq y1 (fun _ _ _ => rfl)).trans (wl_add (by omega) (fun j _ hj => y3 j (by omega)) y2)
              refine kw_iinc (lv' := [(4, _), (0, _), (1, _), (2, _), (3, _)]) hC dX7_without_76 rfl 4 rfl (by decide) rfl ?_
              refine kw_goto (tgt := 34) hC dX7_without_79 rfl (by decide) ?_
              refine kw_lv [1, 2, 3, 4, 0] rfl ?_
              exact ih34 (x + 1) S6 hfS6 (by omega) (by omega) (by omega) (by omega) hwv (by rw [show (x + 1).toNat = x.toNat + 1 by omega, take_s (by omega), List.filter_append, eg]; first | (rw [List.filter_cons_of_pos (by rw [ek]; exact decide_eq_true (by omega))]; rw [eA9, hF]; rfl) | (rw [List.filter_cons_of_neg (by rw [ek]; exact fun q => absurd (of_decide_eq_true q) (by omega))]; rw [hF]; simp)) (by omega)
      refine kw_lv [2, 3, 4, 1, 0] rfl ?_
      exact hL34 101 0 S3 hfS3 (by omega) (by omega) (by have := hv3; omega) (by have := hv3; omega) (fun j _ _ => by have := hv3; omega) (by unfold kP; rw [hv3]; rfl) (by omega)
    · refine kw_iconst hC dX7_without_14 rfl ?_
      exact hR9.1 rfl _ _ _ _ dX7_without_15 (by first | (exfalso; omega) | exact ⟨_, rfl, hRS, tC_tXw hfS, by unfold fWithout; rw [if_neg (by omega), cSl_tC hfS]⟩ | exact ⟨_, rfl, hp9.2.1, (tC_tXw hfS).trans (fWd_tXw hp9.2.2.1), by unfold fWithout; rw [if_pos (by omega)]; exact st_k (by omega) (by omega) (by omega) hp9 (cSl_tC hfS) (hF.trans (by rw [List.take_of_length_le (by omega)]))⟩)

set_option maxHeartbeats 4000000 in
set_option maxRecDepth 100000 in
theorem f_X7_cut {g : wG} (hD : wD g) {S : wSt} {a b : Int} (ha : -2147483648 ≤ a ∧ a ≤ 2147483647) (hb : -2147483648 ≤ b ∧ b ≤ 2147483647) (hRS : CI S) (l : Launch) : Kt l yX7_cut wsX7_cut ({ frames := 2, cells := 0, slots := 0, locals := 47 } : Room) g S [vr g 0 0, vi a, vi b] (pI (fun r S' => CI S' ∧ Fr tXw S S' ∧ fCut a b (cSl S) = (r, cSl S'))) := by
  refine Kt.of (cc := cX7_cut) (nL := 4) (ret := (some .int)) (own := RX7) rfl hD (by decide) rfl (Nat.le_of_ble_eq_true rfl) ⟨rfl, rfl⟩ ?_
  intro E hC hR9
  have f25 : Cond.fieldLink RX7 25 "MirrorBench" "slots" "[LMirrorBench$Word;" ∈ wsX7_cut := by decide +kernel
  have f131 : Cond.fieldLink RX7 131 "MirrorBench$Word" "length" "I" ∈ wsX7_cut := by decide +kernel
  have f157 : Cond.fieldLink RX7 157 "MirrorBench$Word" "mirrors" "[I" ∈ wsX7_cut := by decide +kernel
  have w6 : ∀ w ∈ wsX60, w ∈ wsX7_cut := by decide +kernel
  have w7 : ∀ w ∈ wsX70, w ∈ wsX7_cut := by decide +kernel
  show Wk E g 4 S 0 [(0, vr g 0 0), (1, vi a), (2, vi b)] []
  have hfS : Fr (fWd a) S S := Fr.rfl _ S
  have hnS := hRS.n
  have hkn : (kn S : Int) = S 3 16 2 := by unfold kn; omega
  have hTW : ∀ (W : wSt), Fr (fWd a) S W → (0 ≤ W 1 a 1 ∧ W 1 a 1 ≤ 100) → WV (W 2 a) (W 1 a 1) (S 3 16 2) → CI W := fun W f h1 h2 => hRS.wd (f.mono (fun k i j h => by unfold fWd at h; unfold fZ; omega)) (fun s s0 s1 => by rcases Decidable.em (s = a) with e | e; exact (by rw [e]; exact ⟨h1, h2⟩); exact (by rw [f 1 s 1 (by unfold fWd; omega), show W 2 s = S 2 s from funext fun j => f 2 s j (by unfold fWd; omega)]; exact ⟨hRS.ln s s0 s1, hRS.wv s s0 s1⟩))
  have hn := hRS.n
  refine kw_iload_n hC dX7_cut_0 rfl 1 rfl ?_
  refine kw_callS hC (d_X7_isSlot hD (by omega)) gX7_cut_X7_isSlot rfl ⟨rfl, rfl⟩ 1 (by decide +kernel) ⟨by decide, by decide⟩ rfl rfl (Nat.le_of_ble_eq_true rfl) dX7_cut_1 rfl (kd_ie ?_)
  refine kw_ifeq_b (tgt := 20) hC dX7_cut_4 rfl (by decide) ⟨fun c4 => ?_, fun c4 => ?_⟩
  · refine kw_iconst hC dX7_cut_20 rfl ?_
    exact hR9.1 rfl _ _ _ _ dX7_cut_21 (by first | (exfalso; omega) | exact ⟨_, rfl, hRS, Fr.rfl _ S, by unfold fCut; rw [if_neg (by omega)]⟩ | exact ⟨_, rfl, hRS, Fr.rfl _ S, by unfold fCut; rw [if_pos (by omega), if_pos (by rw [hg1, hg2]; omega)]⟩ | exact ⟨_, rfl, hw9, fWd_tXw hfS, by unfold fCut; rw [if_pos (by omega), if_neg (by rw [hg1, hg2]; omega), hst]; exact Prod.ext (by show _ = _; omega) rfl⟩)
  · have hla := hRS.ln a (by omega) (by omega)
    have hwa := hRS.wv a (by omega) (by omega)
    have hLa := cSl_len hRS (a := a) (by omega) (by omega)
    refine kw_aload_n hC dX7_cut_7 rfl 0 rfl ?_
    refine kg_0_2 hC w7 f25 dX7_cut_8 rfl (by decide) (by decide) ?_
    refine kw_iload_n hC dX7_cut_11 rfl 1 rfl ?_
    refine ka_20 hC dX7_cut_12 rfl (by decide) (by decide) (by omega) (by omega) ?_
    refine kw_iload_n hC dX7_cut_13 rfl 2 rfl ?_
    refine kw_callV hC (d_X6_hasTwoFrom hD (by omega) (by omega) (by omega) (by omega) (by omega)) gX7_cut_X6_hasTwoFrom ⟨_, rfl⟩ rfl (by omega) (show (_ : Int) < 12 by omega) rfl ⟨rfl, rfl⟩ 1 (by decide +kernel) ⟨by decide, by decide⟩ rfl rfl (Nat.le_of_ble_eq_true rfl) dX7_cut_14 rfl (kd_ie ?_)
    refine kw_ifne_b (tgt := 22) hC dX7_cut_17 rfl (by decide) ⟨fun c17 => ?_, fun c17 => ?_⟩
    · refine kw_aload_n hC dX7_cut_22 rfl 0 rfl ?_
      refine kg_0_2 hC w7 f25 dX7_cut_23 rfl (by decide) (by decide) ?_
      refine kw_iload_n hC dX7_cut_26 rfl 1 rfl ?_
      refine ka_20 hC dX7_cut_27 rfl (by decide) (by decide) (by omega) (by omega) ?_
      refine kw_astore_n (lv' := [(3, _), (0, _), (1, _), (2, _)]) hC dX7_cut_28 rfl (by decide) rfl ?_
      refine kw_aload_n hC dX7_cut_29 rfl 0 rfl ?_
      refine kg_1_0 hC w6 f157 dX7_cut_30 rfl (by omega) (by omega) ?_
      refine kw_iload_n hC dX7_cut_33 rfl 3 rfl ?_
      refine ka_2 hC dX7_cut_34 rfl (by omega) (by omega) (by omega) (by omega) ?_
      have q1 := hwa b (by omega) (by omega)
      have hg1 := cSl_get (S := S) (a := a) (k := b) (by omega) (by omega) (by omega) (by omega)
      refine kw_aload_n hC dX7_cut_35 rfl 0 rfl ?_
      refine kg_1_0 hC w6 f157 dX7_cut_36 rfl (by omega) (by omega) ?_
      refine kw_iload_n hC dX7_cut_39 rfl 3 rfl ?_
      refine kw_iconst hC dX7_cut_40 rfl ?_
      refine kw_iadd hC dX7_cut_41 rfl ?_
      refine ka_2 hC dX7_cut_42 rfl (by omega) (by omega) (by omega) (by omega) ?_
      have q2 := hwa (b + 1) (by omega) (by omega)
      have hg2 := cSl_get (S := S) (a := a) (k := b + 1) (by omega) (by omega) (by omega) (by omega)
      refine kw_icmp_eq (tgt := 49) hC dX7_cut_43 rfl (by decide) (by omega) (by omega) ⟨fun c43 => ?_, fun c43 => ?_⟩
      · refine kw_aload_n hC dX7_cut_49 rfl 0 rfl ?_
        refine kw_iload_n hC dX7_cut_50 rfl 3 rfl ?_
        refine kw_callV hC (d_X6_removeAt hD (by omega) (by omega) (by omega) (by omega) (by omega)) gX7_cut_X6_removeAt ⟨_, rfl⟩ rfl (by omega) (show (_ : Int) < 12 by omega) rfl ⟨rfl, rfl⟩ 1 (by decide +kernel) ⟨by decide, by decide⟩ rfl rfl (Nat.le_of_ble_eq_true rfl) dX7_cut_51 rfl (kd_v (fun S4 hp4 => ?_))
        obtain ⟨hg4, hp4⟩ := hp4
        have hfS4 : Fr (fWd a) S S4 := hfS.trans (hg4.mono (fun k i j h => by unfold fWd at h; unfold fWd; omega))
        obtain ⟨y1, y2, y3⟩ := hp4
        have hw1 : WV (S4 2 a) (S4 1 a 1) (S 3 16 2) := y1 ▸ WV.del hwa y2 y3 (by omega)
        have eK1 : kP S4 a = (cSl S a).eraseIdx b.toNat := by rw [cSl_at (by omega) (by omega)]; exact (wl_eq y1 (fun _ _ _ => rfl)).trans (wl_del (by omega) (by omega) y2 y3)
        refine kw_aload_n hC dX7_cut_54 rfl 0 rfl ?_
        refine kw_iload_n hC dX7_cut_55 rfl 3 rfl ?_
        refine kw_callV hC (d_X6_removeAt hD (by omega) (by omega) (by omega) (by omega) (by omega)) gX7_cut_X6_removeAt ⟨_, rfl⟩ rfl (by omega) (show (_ : Int) < 12 by omega) rfl ⟨rfl, rfl⟩ 1 (by decide +kernel) ⟨by decide, by decide⟩ rfl rfl (Nat.le_of_ble_eq_true rfl) dX7_cut_56 rfl (kd_v (fun S5 hp5 => ?_))
        obtain ⟨hg5, hp5⟩ := hp5
        have hfS5 : Fr (fWd a) S S5 := hfS4.trans (hg5.mono (fun k i j h => by unfold fWd at h; unfold fWd; omega))
        obtain ⟨z1, z2, z3⟩ := hp5
        have hw2 : WV (S5 2 a) (S5 1 a 1) (S 3 16 2) := z1 ▸ WV.del hw1 z2 z3 (by omega)
        have hw9 := hTW S5 hfS5 (by omega) hw2
        have hst : cSl S5 = upw (cSl S) a (((cSl S a).eraseIdx b.toNat).eraseIdx b.toNat) := by rw [cSl_st (by omega) (by omega) hfS5, ← eK1]; congr 1; exact (wl_eq z1 (fun _ _ _ => rfl)).trans (wl_del (by omega) (by omega) z2 z3)
        refine kw_aload_n hC dX7_cut_59 rfl 0 rfl ?_
        refine kg_1_1 hC w6 f131 dX7_cut_60 rfl (by omega) (by omega) ?_
        exact hR9.1 rfl _ _ _ _ dX7_cut_63 (by first | (exfalso; omega) | exact ⟨_, rfl, hRS, Fr.rfl _ S, by unfold fCut; rw [if_neg (by omega)]⟩ | exact ⟨_, rfl, hRS, Fr.rfl _ S, by unfold fCut; rw [if_pos (by omega), if_pos (by rw [hg1, hg2]; omega)]⟩ | exact ⟨_, rfl, hw9, fWd_tXw hfS5, by unfold fCut; rw [if_pos (by omega), if_neg (by rw [hg1, hg2]; omega), hst]; exact Prod.ext (by show _ = _; omega) rfl⟩)
      · refine kw_bipush hC dX7_cut_46 rfl (by decide) ?_
        exact hR9.1 rfl _ _ _ _ dX7_cut_48 (by first | (exfalso; omega) | exact ⟨_, rfl, hRS, Fr.rfl _ S, by unfold fCut; rw [if_neg (by omega)]⟩ | exact ⟨_, rfl, hRS, Fr.rfl _ S, by unfold fCut; rw [if_pos (by omega), if_pos (by rw [hg1, hg2]; omega)]⟩ | exact ⟨_, rfl, hw9, fWd_tXw hfS, by unfold fCut; rw [if_pos (by omega), if_neg (by rw [hg1, hg2]; omega), hst]; exact Prod.ext (by show _ = _; omega) rfl⟩)
    · refine kw_iconst hC dX7_cut_20 rfl ?_
      exact hR9.1 rfl _ _ _ _ dX7_cut_21 (by first | (exfalso; omega) | exact ⟨_, rfl, hRS, Fr.rfl _ S, by unfold fCut; rw [if_neg (by omega)]⟩ | exact ⟨_, rfl, hRS, Fr.rfl _ S, by unfold fCut; rw [if_pos (by omega), if_pos (by rw [hg1, hg2]; omega)]⟩ | exact ⟨_, rfl, hw9, fWd_tXw hfS, by unfold fCut; rw [if_pos (by omega), if_neg (by rw [hg1, hg2]; omega), hst]; exact Prod.ext (by show _ = _; omega) rfl⟩)
end
section
theorem likP_z {A B : List Nat} : likP (some A) (some B) = bz (A = B) := by
  by_cases h : A = B
  · rw [likP_y h, bz_t h]
  · rw [likP_n h, bz_f h]
/-- in turn -/
theorem inT {L : List Nat} {f : Int → Int} {k m len : Int} {p q : Int} (hL : L = wl f len.toNat) (k0 : 0 ≤ k) (hw : ∀ j, 0 ≤ j → j < len → 0 ≤ f j) (hp : f k = p) (hq : f (k + 1) = q) (hm : k + m ≤ len) (m2 : 2 ≤ m) : (∀ j, 2 ≤ j → j < m → f (k + j) = f (k + j - 2)) ↔ ∀ j : Nat, j < m.toNat → L.getD (k.toNat + j) 0 = if j % 2 = 0 then p.toNat else q.toNat := by
  subst hL
  have hg : ∀ j : Nat, (j : Int) < m → (wl f len.toNat).getD (k.toNat + j) 0 = (f (k + (j : Int))).toNat := fun j hj => by
    rw [wl_get _ (by omega)]
    congr 2
    omega
  constructor
  · intro h
    have key : ∀ (n j : Nat), j ≤ n → (j : Int) < m → f (k + (j : Int)) = if j % 2 = 0 then p else q := by
      intro n
      induction n with
      | zero =>
        intro j hj hm9
        have : j = 0 := by omega
        subst this
        rw [if_pos rfl, ← hp]
        congr 1
        omega
      | succ n ih =>
        intro j hj hm9
        by_cases e : j ≤ n
        · exact ih j e hm9
        · by_cases e1 : j = 1
          · subst e1
            rw [if_neg (by decide), ← hq]
            rfl
          · by_cases e0 : j = 0
            · subst e0
              rw [if_pos rfl, ← hp]
              congr 1
              omega
            · rw [h (j : Int) (by omega) hm9]
              have h9 := ih (j - 2) (by omega) (by omega)
              rw [show k + (((j - 2 : Nat)) : Int) = k + (j : Int) - 2 by omega] at h9
              rw [h9]
              by_cases ee : j % 2 = 0
              · rw [if_pos ee, if_pos (by omega)]
              · rw [if_neg ee, if_neg (by omega)]
    intro j hj
    rw [hg j (by omega), key j j (Nat.le_refl _) (by omega)]
    split <;> rfl
  · intro h j j0 j1
    have h1 := h j.toNat (by omega)
    have h2 := h (j - 2).toNat (by omega)
    rw [hg _ (by omega)] at h1 h2
    rw [show k + ((j.toNat : Nat) : Int) = k + j by omega] at h1
    rw [show k + (((j - 2).toNat : Nat) : Int) = k + j - 2 by omega] at h2
    have e : (f (k + j)).toNat = (f (k + j - 2)).toNat := by
      rw [h1, h2]
      by_cases ee : j.toNat % 2 = 0
      · rw [if_pos ee, if_pos (by omega)]
      · rw [if_neg ee, if_neg (by omega)]
    have p1 := hw (k + j) (by omega) (by omega)
    have p2 := hw (k + j - 2) (by omega) (by omega)
    omega
theorem mAt_2 (i j x y : Int) : i = j ∧ mAt i j x y = 1 ∨ i ≠ j ∧ (mAt i j x y = 0 ∨ 2 ≤ mAt i j x y) := by
  unfold mAt
  by_cases h : i = j
  · rw [if_pos h]; exact Or.inl ⟨h, rfl⟩
  · rw [if_neg h]
    refine Or.inr ⟨h, ?_⟩
    (repeat' split) <;> omega
end
section
set_option maxHeartbeats 4000000 in
set_option maxRecDepth 100000 in
theorem f_X7_shorten {g : wG} (hD : wD g) {S : wSt} {a b : Int} (ha : -2147483648 ≤ a ∧ a ≤ 2147483647) (hb : -2147483648 ≤ b ∧ b ≤ 2147483647) (hRS : CI S) (l : Launch) : Kt l yX7_shorten wsX7_shorten ({ frames := 4, cells := 0, slots := 0, locals := 96 } : Room) g S [vr g 0 0, vi a, vi b] (pI (fun r S' => CI S' ∧ Fr tXw S S' ∧ fShorten (kM S) (kn S) a b (cSl S) = (r, cSl S'))) := by
  refine Kt.of (cc := cX7_shorten) (nL := 3) (ret := (some .int)) (own := RX7) rfl hD (by decide) rfl (Nat.le_of_ble_eq_true rfl) ⟨rfl, rfl⟩ ?_
  intro E hC hR9
  have f25 : Cond.fieldLink RX7 25 "MirrorBench" "slots" "[LMirrorBench$Word;" ∈ wsX7_shorten := by decide +kernel
  have f40 : Cond.fieldLink RX7 40 "MirrorBench" "shortener" "LMirrorBench$Shortener;" ∈ wsX7_shorten := by decide +kernel
  have f59 : Cond.fieldLink RX7 59 "MirrorBench" "made" "LMirrorBench$Word;" ∈ wsX7_shorten := by decide +kernel
  have w7 : ∀ w ∈ wsX70, w ∈ wsX7_shorten := by decide +kernel
  show Wk E g 3 S 0 [(0, vr g 0 0), (1, vi a), (2, vi b)] []
  have hfS : Fr tC S S := Fr.rfl _ S
  have hRS := hRS.fr hfS
  have hnS := hRS.n
  have enS : S 3 16 2 = S 3 16 2 := hfS 3 16 2 (by unfold tC; omega)
  have hnS := hRS.n
  have hkn : (kn S : Int) = S 3 16 2 := by unfold kn; omega
  refine kw_iload_n hC dX7_shorten_0 rfl 1 rfl ?_
  refine kw_callS hC (d_X7_isSlot hD (by omega)) gX7_shorten_X7_isSlot rfl ⟨rfl, rfl⟩ 1 (by decide +kernel) ⟨by decide, by decide⟩ rfl rfl (Nat.le_of_ble_eq_true rfl) dX7_shorten_1 rfl (kd_ie ?_)
  refine kw_ifeq_b (tgt := 14) hC dX7_shorten_4 rfl (by decide) ⟨fun c4 => ?_, fun c4 => ?_⟩
  · refine kw_iconst hC dX7_shorten_14 rfl ?_
    exact hR9.1 rfl _ _ _ _ dX7_shorten_15 (by first | (exfalso; omega) | exact ⟨_, rfl, hRS, tC_tXw hfS, by unfold fShorten; rw [if_neg (by omega), cSl_tC hfS]⟩ | exact ⟨_, rfl, hRS, tC_tXw hfS, by have h9 := (hsh.resolve_right (fun z => by omega)).2; unfold fShorten; rw [if_pos (by omega), h9, cSl_tC hfS]; rfl⟩ | exact ⟨_, rfl, hp9.2.1, (tC_tXw hfS).trans (fWd_tXw hp9.2.2.1), by have h9 := (hsh.resolve_left (fun z => by omega)).2; unfold fShorten; rw [if_pos (by omega), h9]; exact st_k (by omega) (by omega) (by omega) hp9 (cSl_tC hfS) rfl⟩)
  · refine kw_iload_n hC dX7_shorten_7 rfl 2 rfl ?_
    refine kw_callS hC (d_X7_isSlot hD (by omega)) gX7_shorten_X7_isSlot rfl ⟨rfl, rfl⟩ 1 (by decide +kernel) ⟨by decide, by decide⟩ rfl rfl (Nat.le_of_ble_eq_true rfl) dX7_shorten_8 rfl (kd_ie ?_)
    refine kw_ifne_b (tgt := 16) hC dX7_shorten_11 rfl (by decide) ⟨fun c11 => ?_, fun c11 => ?_⟩
    · have hla := hRS.ln a (by omega) (by omega)
      have hwa := hRS.wv a (by omega) (by omega)
      have hLa := cSl_len hRS (a := a) (by omega) (by omega)
      refine kw_aload_n hC dX7_shorten_16 rfl 0 rfl ?_
      refine kg_0_4 hC w7 f40 dX7_shorten_17 rfl (by decide) (by decide) ?_
      refine kw_aload_n hC dX7_shorten_20 rfl 0 rfl ?_
      refine kg_0_2 hC w7 f25 dX7_shorten_21 rfl (by decide) (by decide) ?_
      refine kw_iload_n hC dX7_shorten_24 rfl 1 rfl ?_
      refine ka_20 hC dX7_shorten_25 rfl (by decide) (by decide) (by omega) (by omega) ?_
      refine kw_aload_n hC dX7_shorten_26 rfl 0 rfl ?_
      refine kg_0_7 hC w7 f59 dX7_shorten_27 rfl (by decide) (by decide) ?_
      refine kw_callV hC (f_X5_makeShort hD (by omega) (by omega) (by omega) (by omega) (by omega) hRS hwa (by omega) (by omega)) gX7_shorten_X5_makeShort ⟨_, rfl⟩ rfl (by decide) (by decide) rfl ⟨rfl, rfl⟩ 2 (by decide +kernel) ⟨by decide, by decide⟩ rfl rfl (Nat.le_of_ble_eq_true rfl) dX7_shorten_30 rfl (kd_i (fun r3 S3 hp3 => ?_))
      obtain ⟨hg3, hp3⟩ := hp3
      have hfS3 : Fr tC S S3 := hfS.trans (hg3.mono (fun k i j h => by unfold fMs at h; unfold tC; omega))
      have hRS3 := hRS.fr hfS3
      have hnS3 := hRS3.n
      have enS3 : S3 3 16 2 = S 3 16 2 := hfS3 3 16 2 (by unfold tC; omega)
      obtain ⟨⟨l03, l13⟩, hr3, hq3⟩ := hp3
      rw [kM_eq (W := S) (S := S) (hfS 3 16 2 (by unfold tC; omega)) (fun j => hfS 5 16 j (by unfold tC; omega)), kn_eq (W := S) (S := S) (hfS 3 16 2 (by unfold tC; omega))] at hq3
      rw [show kP S a = cSl S a from (kP_eq (hfS 1 a 1 (by unfold tC; omega)) (fun j => hfS 2 a j (by unfold tC; omega))).trans (cSl_at (by omega) (by omega)).symm] at hq3
      have hsh := hq3
      have hv8 : WV (S3 2 8) (S3 1 8 1) (S3 3 16 2) := hr3.eq (fun _ _ _ => rfl) rfl (by omega)
      refine kw_if_eq (tgt := 48) hC dX7_shorten_33 rfl (by decide) (by omega) ⟨fun c33 => ?_, fun c33 => ?_⟩
      · refine kw_bipush hC dX7_shorten_48 rfl (by decide) ?_
        exact hR9.1 rfl _ _ _ _ dX7_shorten_50 (by first | (exfalso; omega) | exact ⟨_, rfl, hRS3, tC_tXw hfS3, by unfold fShorten; rw [if_neg (by omega), cSl_tC hfS3]⟩ | exact ⟨_, rfl, hRS3, tC_tXw hfS3, by have h9 := (hsh.resolve_right (fun z => by omega)).2; unfold fShorten; rw [if_pos (by omega), h9, cSl_tC hfS3]; rfl⟩ | exact ⟨_, rfl, hp9.2.1, (tC_tXw hfS3).trans (fWd_tXw hp9.2.2.1), by have h9 := (hsh.resolve_left (fun z => by omega)).2; unfold fShorten; rw [if_pos (by omega), h9]; exact st_k (by omega) (by omega) (by omega) hp9 (cSl_tC hfS3) rfl⟩)
      · refine kw_aload_n hC dX7_shorten_36 rfl 0 rfl ?_
        refine kw_aload_n hC dX7_shorten_37 rfl 0 rfl ?_
        refine kg_0_7 hC w7 f59 dX7_shorten_38 rfl (by decide) (by decide) ?_
        refine kw_iload_n hC dX7_shorten_41 rfl 2 rfl ?_
        refine kw_callV hC (d_X7_store hD (by omega) (by omega) (by omega) (by omega) hRS3 hv8 (by omega) (by omega)) gX7_shorten_X7_store ⟨_, rfl⟩ rfl (by decide) (by decide) rfl ⟨rfl, rfl⟩ 2 (by decide +kernel) ⟨by decide, by decide⟩ rfl rfl (Nat.le_of_ble_eq_true rfl) dX7_shorten_42 rfl (kd_i (fun r9 Sz hp9 => ?_))
        refine kw_goto (tgt := 50) hC dX7_shorten_45 rfl (by decide) ?_
        exact hR9.1 rfl _ _ _ _ dX7_shorten_50 (by first | (exfalso; omega) | exact ⟨_, rfl, hRS3, tC_tXw hfS3, by unfold fShorten; rw [if_neg (by omega), cSl_tC hfS3]⟩ | exact ⟨_, rfl, hRS3, tC_tXw hfS3, by have h9 := (hsh.resolve_right (fun z => by omega)).2; unfold fShorten; rw [if_pos (by omega), h9, cSl_tC hfS3]; rfl⟩ | exact ⟨_, rfl, hp9.2.1, (tC_tXw hfS3).trans (fWd_tXw hp9.2.2.1), by have h9 := (hsh.resolve_left (fun z => by omega)).2; unfold fShorten; rw [if_pos (by omega), h9]; exact st_k (by omega) (by omega) (by omega) hp9 (cSl_tC hfS3) rfl⟩)
    · refine kw_iconst hC dX7_shorten_14 rfl ?_
      exact hR9.1 rfl _ _ _ _ dX7_shorten_15 (by first | (exfalso; omega) | exact ⟨_, rfl, hRS, tC_tXw hfS, by unfold fShorten; rw [if_neg (by omega), cSl_tC hfS]⟩ | exact ⟨_, rfl, hRS, tC_tXw hfS, by have h9 := (hsh.resolve_right (fun z => by omega)).2; unfold fShorten; rw [if_pos (by omega), h9, cSl_tC hfS]; rfl⟩ | exact ⟨_, rfl, hp9.2.1, (tC_tXw hfS).trans (fWd_tXw hp9.2.2.1), by have h9 := (hsh.resolve_left (fun z => by omega)).2; unfold fShorten; rw [if_pos (by omega), h9]; exact st_k (by omega) (by omega) (by omega) hp9 (cSl_tC hfS) rfl⟩)

set_option maxHeartbeats 4000000 in
set_option maxRecDepth 100000 in
theorem f_X7_form {g : wG} (hD : wD g) {S : wSt} {a b : Int} (ha : -2147483648 ≤ a ∧ a ≤ 2147483647) (hb : -2147483648 ≤ b ∧ b ≤ 2147483647) (hRS : CI S) (l : Launch) : Kt l yX7_form wsX7_form ({ frames := 6, cells := 0, slots := 0, locals := 143 } : Room) g S [vr g 0 0, vi a, vi b] (pI (fun r S' => CI S' ∧ Fr tXw S S' ∧ fForm (kM S) (kn S) a b (cSl S) = (r, cSl S'))) := by
  refine Kt.of (cc := cX7_form) (nL := 3) (ret := (some .int)) (own := RX7) rfl hD (by decide) rfl (Nat.le_of_ble_eq_true rfl) ⟨rfl, rfl⟩ ?_
  intro E hC hR9
  have f25 : Cond.fieldLink RX7 25 "MirrorBench" "slots" "[LMirrorBench$Word;" ∈ wsX7_form := by decide +kernel
  have f40 : Cond.fieldLink RX7 40 "MirrorBench" "shortener" "LMirrorBench$Shortener;" ∈ wsX7_form := by decide +kernel
  have f59 : Cond.fieldLink RX7 59 "MirrorBench" "made" "LMirrorBench$Word;" ∈ wsX7_form := by decide +kernel
  have w7 : ∀ w ∈ wsX70, w ∈ wsX7_form := by decide +kernel
  show Wk E g 3 S 0 [(0, vr g 0 0), (1, vi a), (2, vi b)] []
  have hfS : Fr tC S S := Fr.rfl _ S
  have hRS := hRS.fr hfS
  have hnS := hRS.n
  have enS : S 3 16 2 = S 3 16 2 := hfS 3 16 2 (by unfold tC; omega)
  have hnS := hRS.n
  have hkn : (kn S : Int) = S 3 16 2 := by unfold kn; omega
  refine kw_iload_n hC dX7_form_0 rfl 1 rfl ?_
  refine kw_callS hC (d_X7_isSlot hD (by omega)) gX7_form_X7_isSlot rfl ⟨rfl, rfl⟩ 1 (by decide +kernel) ⟨by decide, by decide⟩ rfl rfl (Nat.le_of_ble_eq_true rfl) dX7_form_1 rfl (kd_ie ?_)
  refine kw_ifeq_b (tgt := 14) hC dX7_form_4 rfl (by decide) ⟨fun c4 => ?_, fun c4 => ?_⟩
  · refine kw_iconst hC dX7_form_14 rfl ?_
    exact hR9.1 rfl _ _ _ _ dX7_form_15 (by first | (exfalso; omega) | exact ⟨_, rfl, hRS, tC_tXw hfS, by unfold fForm; rw [if_neg (by omega), cSl_tC hfS]⟩ | exact ⟨_, rfl, hRS, tC_tXw hfS, by have h9 := (hfa.resolve_right (fun z => by omega)).2; unfold fForm; rw [if_pos (by omega), h9, cSl_tC hfS]; rfl⟩ | exact ⟨_, rfl, hp9.2.1, (tC_tXw hfS).trans (fWd_tXw hp9.2.2.1), by have h9 := hfa9.2.1; unfold fForm; rw [if_pos (by omega), h9]; exact st_k (by omega) (by omega) (by omega) hp9 (cSl_tC hfS) rfl⟩)
  · refine kw_iload_n hC dX7_form_7 rfl 2 rfl ?_
    refine kw_callS hC (d_X7_isSlot hD (by omega)) gX7_form_X7_isSlot rfl ⟨rfl, rfl⟩ 1 (by decide +kernel) ⟨by decide, by decide⟩ rfl rfl (Nat.le_of_ble_eq_true rfl) dX7_form_8 rfl (kd_ie ?_)
    refine kw_ifne_b (tgt := 16) hC dX7_form_11 rfl (by decide) ⟨fun c11 => ?_, fun c11 => ?_⟩
    · have hla := hRS.ln a (by omega) (by omega)
      have hwa := hRS.wv a (by omega) (by omega)
      have hLa := cSl_len hRS (a := a) (by omega) (by omega)
      refine kw_aload_n hC dX7_form_16 rfl 0 rfl ?_
      refine kg_0_4 hC w7 f40 dX7_form_17 rfl (by decide) (by decide) ?_
      refine kw_aload_n hC dX7_form_20 rfl 0 rfl ?_
      refine kg_0_2 hC w7 f25 dX7_form_21 rfl (by decide) (by decide) ?_
      refine kw_iload_n hC dX7_form_24 rfl 1 rfl ?_
      refine ka_20 hC dX7_form_25 rfl (by decide) (by decide) (by omega) (by omega) ?_
      refine kw_aload_n hC dX7_form_26 rfl 0 rfl ?_
      refine kg_0_7 hC w7 f59 dX7_form_27 rfl (by decide) (by decide) ?_
      refine kw_callV hC (f_X5_makeForm hD (by omega) (by omega) (by omega) (by omega) hRS hwa (by omega) (by omega)) gX7_form_X5_makeForm ⟨_, rfl⟩ rfl (by decide) (by decide) rfl ⟨rfl, rfl⟩ 2 (by decide +kernel) ⟨by decide, by decide⟩ rfl rfl (Nat.le_of_ble_eq_true rfl) dX7_form_30 rfl (kd_i (fun r3 S3 hp3 => ?_))
      obtain ⟨hg3, hp3⟩ := hp3
      have hfS3 : Fr tC S S3 := hfS.trans (hg3.mono (fun k i j h => by unfold fMd at h; unfold tC; omega))
      have hRS3 := hRS.fr hfS3
      have hnS3 := hRS3.n
      have enS3 : S3 3 16 2 = S 3 16 2 := hfS3 3 16 2 (by unfold tC; omega)
      have hq3 := hp3
      rw [kM_eq (W := S) (S := S) (hfS 3 16 2 (by unfold tC; omega)) (fun j => hfS 5 16 j (by unfold tC; omega)), kn_eq (W := S) (S := S) (hfS 3 16 2 (by unfold tC; omega))] at hq3
      rw [show kP S a = cSl S a from (kP_eq (hfS 1 a 1 (by unfold tC; omega)) (fun j => hfS 2 a j (by unfold tC; omega))).trans (cSl_at (by omega) (by omega)).symm] at hq3
      have hfa := hq3
      refine kw_if_eq (tgt := 48) hC dX7_form_33 rfl (by decide) (by omega) ⟨fun c33 => ?_, fun c33 => ?_⟩
      · refine kw_bipush hC dX7_form_48 rfl (by decide) ?_
        exact hR9.1 rfl _ _ _ _ dX7_form_50 (by first | (exfalso; omega) | exact ⟨_, rfl, hRS3, tC_tXw hfS3, by unfold fForm; rw [if_neg (by omega), cSl_tC hfS3]⟩ | exact ⟨_, rfl, hRS3, tC_tXw hfS3, by have h9 := (hfa.resolve_right (fun z => by omega)).2; unfold fForm; rw [if_pos (by omega), h9, cSl_tC hfS3]; rfl⟩ | exact ⟨_, rfl, hp9.2.1, (tC_tXw hfS3).trans (fWd_tXw hp9.2.2.1), by have h9 := hfa9.2.1; unfold fForm; rw [if_pos (by omega), h9]; exact st_k (by omega) (by omega) (by omega) hp9 (cSl_tC hfS3) rfl⟩)
      · have hfa9 := hfa.resolve_left (fun z => by omega)
        obtain ⟨lX0, lX1⟩ := hfa9.2.2.1
        have hv8 : WV (S3 2 8) (S3 1 8 1) (S3 3 16 2) := hfa9.2.2.2.eq (fun _ _ _ => rfl) rfl (by omega)
        refine kw_aload_n hC dX7_form_36 rfl 0 rfl ?_
        refine kw_aload_n hC dX7_form_37 rfl 0 rfl ?_
        refine kg_0_7 hC w7 f59 dX7_form_38 rfl (by decide) (by decide) ?_
        refine kw_iload_n hC dX7_form_41 rfl 2 rfl ?_
        refine kw_callV hC (d_X7_store hD (by omega) (by omega) (by omega) (by omega) hRS3 hv8 (by omega) (by omega)) gX7_form_X7_store ⟨_, rfl⟩ rfl (by decide) (by decide) rfl ⟨rfl, rfl⟩ 2 (by decide +kernel) ⟨by decide, by decide⟩ rfl rfl (Nat.le_of_ble_eq_true rfl) dX7_form_42 rfl (kd_i (fun r9 Sz hp9 => ?_))
        refine kw_goto (tgt := 50) hC dX7_form_45 rfl (by decide) ?_
        exact hR9.1 rfl _ _ _ _ dX7_form_50 (by first | (exfalso; omega) | exact ⟨_, rfl, hRS3, tC_tXw hfS3, by unfold fForm; rw [if_neg (by omega), cSl_tC hfS3]⟩ | exact ⟨_, rfl, hRS3, tC_tXw hfS3, by have h9 := (hfa.resolve_right (fun z => by omega)).2; unfold fForm; rw [if_pos (by omega), h9, cSl_tC hfS3]; rfl⟩ | exact ⟨_, rfl, hp9.2.1, (tC_tXw hfS3).trans (fWd_tXw hp9.2.2.1), by have h9 := hfa9.2.1; unfold fForm; rw [if_pos (by omega), h9]; exact st_k (by omega) (by omega) (by omega) hp9 (cSl_tC hfS3) rfl⟩)
    · refine kw_iconst hC dX7_form_14 rfl ?_
      exact hR9.1 rfl _ _ _ _ dX7_form_15 (by first | (exfalso; omega) | exact ⟨_, rfl, hRS, tC_tXw hfS, by unfold fForm; rw [if_neg (by omega), cSl_tC hfS]⟩ | exact ⟨_, rfl, hRS, tC_tXw hfS, by have h9 := (hfa.resolve_right (fun z => by omega)).2; unfold fForm; rw [if_pos (by omega), h9, cSl_tC hfS]; rfl⟩ | exact ⟨_, rfl, hp9.2.1, (tC_tXw hfS).trans (fWd_tXw hp9.2.2.1), by have h9 := hfa9.2.1; unfold fForm; rw [if_pos (by omega), h9]; exact st_k (by omega) (by omega) (by omega) hp9 (cSl_tC hfS) rfl⟩)

set_option maxHeartbeats 4000000 in
set_option maxRecDepth 100000 in
theorem f_X7_same {g : wG} (hD : wD g) {S : wSt} {a b : Int} (ha : -2147483648 ≤ a ∧ a ≤ 2147483647) (hb : -2147483648 ≤ b ∧ b ≤ 2147483647) (hRS : CI S) (l : Launch) : Kt l yX7_same wsX7_same ({ frames := 6, cells := 0, slots := 0, locals := 143 } : Room) g S [vr g 0 0, vi a, vi b] (pI (fun r S' => CI S' ∧ Fr tXw S S' ∧ (fSame (kM S) (kn S) a b (cSl S), cSl S) = (r, cSl S'))) := by
  refine Kt.of (cc := cX7_same) (nL := 3) (ret := (some .int)) (own := RX7) rfl hD (by decide) rfl (Nat.le_of_ble_eq_true rfl) ⟨rfl, rfl⟩ ?_
  intro E hC hR9
  have f25 : Cond.fieldLink RX7 25 "MirrorBench" "slots" "[LMirrorBench$Word;" ∈ wsX7_same := by decide +kernel
  have f40 : Cond.fieldLink RX7 40 "MirrorBench" "shortener" "LMirrorBench$Shortener;" ∈ wsX7_same := by decide +kernel
  have f59 : Cond.fieldLink RX7 59 "MirrorBench" "made" "LMirrorBench$Word;" ∈ wsX7_same := by decide +kernel
  have f63 : Cond.fieldLink RX7 63 "MirrorBench" "other" "LMirrorBench$Word;" ∈ wsX7_same := by decide +kernel
  have w7 : ∀ w ∈ wsX70, w ∈ wsX7_same := by decide +kernel
  show Wk E g 3 S 0 [(0, vr g 0 0), (1, vi a), (2, vi b)] []
  have hfS : Fr tC S S := Fr.rfl _ S
  have hRS := hRS.fr hfS
  have hnS := hRS.n
  have enS : S 3 16 2 = S 3 16 2 := hfS 3 16 2 (by unfold tC; omega)
  have hnS := hRS.n
  have hkn : (kn S : Int) = S 3 16 2 := by unfold kn; omega
  refine kw_iload_n hC dX7_same_0 rfl 1 rfl ?_
  refine kw_callS hC (d_X7_isSlot hD (by omega)) gX7_same_X7_isSlot rfl ⟨rfl, rfl⟩ 1 (by decide +kernel) ⟨by decide, by decide⟩ rfl rfl (Nat.le_of_ble_eq_true rfl) dX7_same_1 rfl (kd_ie ?_)
  refine kw_ifeq_b (tgt := 14) hC dX7_same_4 rfl (by decide) ⟨fun c4 => ?_, fun c4 => ?_⟩
  · refine kw_iconst hC dX7_same_14 rfl ?_
    exact hR9.1 rfl _ _ _ _ dX7_same_15 (by first | (exfalso; omega) | exact ⟨_, rfl, hRS, tC_tXw hfS, by unfold fSame; rw [if_neg (by omega), cSl_tC hfS]⟩ | exact ⟨_, rfl, hRS, tC_tXw hfS, by have h8 := hfa9; have h9 := (hfb.resolve_right (fun z => by omega)).2; unfold fSame; rw [if_pos (by omega), h8.2.1, h9, cSl_tC hfS]; rfl⟩ | exact ⟨_, rfl, hRS, tC_tXw hfS, by have h9 := (hfa.resolve_right (fun z => by omega)).2; unfold fSame; rw [if_pos (by omega), h9, cSl_tC hfS]; rfl⟩ | exact ⟨_, rfl, hRS, tC_tXw hfS, by unfold fSame; rw [if_pos (by omega), hA9, hfb9.2.1, likP_z, cSl_tC hfS]; exact Prod.ext (by show bz _ = _; omega) rfl⟩)
  · refine kw_iload_n hC dX7_same_7 rfl 2 rfl ?_
    refine kw_callS hC (d_X7_isSlot hD (by omega)) gX7_same_X7_isSlot rfl ⟨rfl, rfl⟩ 1 (by decide +kernel) ⟨by decide, by decide⟩ rfl rfl (Nat.le_of_ble_eq_true rfl) dX7_same_8 rfl (kd_ie ?_)
    refine kw_ifne_b (tgt := 16) hC dX7_same_11 rfl (by decide) ⟨fun c11 => ?_, fun c11 => ?_⟩
    · have hla := hRS.ln a (by omega) (by omega)
      have hlb := hRS.ln b (by omega) (by omega)
      have hwa := hRS.wv a (by omega) (by omega)
      have hwb := hRS.wv b (by omega) (by omega)
      have hLa := cSl_len hRS (a := a) (by omega) (by omega)
      have hLb := cSl_len hRS (a := b) (by omega) (by omega)
      refine kw_aload_n hC dX7_same_16 rfl 0 rfl ?_
      refine kg_0_4 hC w7 f40 dX7_same_17 rfl (by decide) (by decide) ?_
      refine kw_aload_n hC dX7_same_20 rfl 0 rfl ?_
      refine kg_0_2 hC w7 f25 dX7_same_21 rfl (by decide) (by decide) ?_
      refine kw_iload_n hC dX7_same_24 rfl 1 rfl ?_
      refine ka_20 hC dX7_same_25 rfl (by decide) (by decide) (by omega) (by omega) ?_
      refine kw_aload_n hC dX7_same_26 rfl 0 rfl ?_
      refine kg_0_7 hC w7 f59 dX7_same_27 rfl (by decide) (by decide) ?_
      refine kw_callV hC (f_X5_makeForm hD (by omega) (by omega) (by omega) (by omega) hRS hwa (by omega) (by omega)) gX7_same_X5_makeForm ⟨_, rfl⟩ rfl (by decide) (by decide) rfl ⟨rfl, rfl⟩ 2 (by decide +kernel) ⟨by decide, by decide⟩ rfl rfl (Nat.le_of_ble_eq_true rfl) dX7_same_30 rfl (kd_i (fun r3 S3 hp3 => ?_))
      obtain ⟨hg3, hp3⟩ := hp3
      have hfS3 : Fr tC S S3 := hfS.trans (hg3.mono (fun k i j h => by unfold fMd at h; unfold tC; omega))
      have hRS3 := hRS.fr hfS3
      have hnS3 := hRS3.n
      have enS3 : S3 3 16 2 = S 3 16 2 := hfS3 3 16 2 (by unfold tC; omega)
      have hq3 := hp3
      rw [kM_eq (W := S) (S := S) (hfS 3 16 2 (by unfold tC; omega)) (fun j => hfS 5 16 j (by unfold tC; omega)), kn_eq (W := S) (S := S) (hfS 3 16 2 (by unfold tC; omega))] at hq3
      rw [show kP S a = cSl S a from (kP_eq (hfS 1 a 1 (by unfold tC; omega)) (fun j => hfS 2 a j (by unfold tC; omega))).trans (cSl_at (by omega) (by omega)).symm] at hq3
      have hfa := hq3
      refine kw_if_eq (tgt := 56) hC dX7_same_33 rfl (by decide) (by omega) ⟨fun c33 => ?_, fun c33 => ?_⟩
      · refine kw_bipush hC dX7_same_56 rfl (by decide) ?_
        exact hR9.1 rfl _ _ _ _ dX7_same_58 (by first | (exfalso; omega) | exact ⟨_, rfl, hRS3, tC_tXw hfS3, by unfold fSame; rw [if_neg (by omega), cSl_tC hfS3]⟩ | exact ⟨_, rfl, hRS3, tC_tXw hfS3, by have h8 := hfa9; have h9 := (hfb.resolve_right (fun z => by omega)).2; unfold fSame; rw [if_pos (by omega), h8.2.1, h9, cSl_tC hfS3]; rfl⟩ | exact ⟨_, rfl, hRS3, tC_tXw hfS3, by have h9 := (hfa.resolve_right (fun z => by omega)).2; unfold fSame; rw [if_pos (by omega), h9, cSl_tC hfS3]; rfl⟩ | exact ⟨_, rfl, hRS3, tC_tXw hfS3, by unfold fSame; rw [if_pos (by omega), hA9, hfb9.2.1, likP_z, cSl_tC hfS3]; exact Prod.ext (by show bz _ = _; omega) rfl⟩)
      · have hfa9 := hfa.resolve_left (fun z => by omega)
        obtain ⟨lX0, lX1⟩ := hfa9.2.2.1
        have hv8 : WV (S3 2 8) (S3 1 8 1) (S3 3 16 2) := hfa9.2.2.2.eq (fun _ _ _ => rfl) rfl (by omega)
        have eb3 : S3 1 b 1 = S 1 b 1 := hfS3 1 b 1 (by unfold tC; omega)
        have hwc : WV (S3 2 b) (S3 1 b 1) (S3 3 16 2) := hwb.fr (T := tC) hfS3 (by unfold tC; omega) (fun j => by unfold tC; omega) (by omega)
        refine kw_aload_n hC dX7_same_36 rfl 0 rfl ?_
        refine kg_0_4 hC w7 f40 dX7_same_37 rfl (by decide) (by decide) ?_
        refine kw_aload_n hC dX7_same_40 rfl 0 rfl ?_
        refine kg_0_2 hC w7 f25 dX7_same_41 rfl (by decide) (by decide) ?_
        refine kw_iload_n hC dX7_same_44 rfl 2 rfl ?_
        refine ka_20 hC dX7_same_45 rfl (by decide) (by decide) (by omega) (by omega) ?_
        refine kw_aload_n hC dX7_same_46 rfl 0 rfl ?_
        refine kg_0_8 hC w7 f63 dX7_same_47 rfl (by decide) (by decide) ?_
        refine kw_callV hC (f_X5_makeForm hD (by omega) (by omega) (by omega) (by omega) hRS3 hwc (by omega) (by omega)) gX7_same_X5_makeForm ⟨_, rfl⟩ rfl (by decide) (by decide) rfl ⟨rfl, rfl⟩ 2 (by decide +kernel) ⟨by decide, by decide⟩ rfl rfl (Nat.le_of_ble_eq_true rfl) dX7_same_50 rfl (kd_i (fun r5 S5 hp5 => ?_))
        obtain ⟨hg5, hp5⟩ := hp5
        have hfS5 : Fr tC S S5 := hfS3.trans (hg5.mono (fun k i j h => by unfold fMd at h; unfold tC; omega))
        have hRS5 := hRS.fr hfS5
        have hnS5 := hRS5.n
        have enS5 : S5 3 16 2 = S 3 16 2 := hfS5 3 16 2 (by unfold tC; omega)
        have hq5 := hp5
        rw [kM_eq (W := S3) (S := S) (hfS3 3 16 2 (by unfold tC; omega)) (fun j => hfS3 5 16 j (by unfold tC; omega)), kn_eq (W := S3) (S := S) (hfS3 3 16 2 (by unfold tC; omega))] at hq5
        rw [show kP S3 b = cSl S b from (kP_eq (hfS3 1 b 1 (by unfold tC; omega)) (fun j => hfS3 2 b j (by unfold tC; omega))).trans (cSl_at (by omega) (by omega)).symm] at hq5
        have hfb := hq5
        have e85 : S5 1 8 1 = S3 1 8 1 := hg5 1 8 1 (by unfold fMd; omega)
        have eK8 : kP S5 8 = kP S3 8 := kP_eq e85 (fun j => hg5 2 8 j (by unfold fMd; omega))
        have hA9 := hfa9.2.1
        rw [← eK8] at hA9
        replace hv8 : WV (S5 2 8) (S5 1 8 1) (S5 3 16 2) := hv8.fr hg5 (by unfold fMd; omega) (fun j => by unfold fMd; omega) (by omega)
        refine kw_if_ne (tgt := 59) hC dX7_same_53 rfl (by decide) (by omega) ⟨fun c53 => ?_, fun c53 => ?_⟩
        · have hfb9 := hfb.resolve_left (fun z => by omega)
          obtain ⟨lX0, lX1⟩ := hfb9.2.2.1
          have hv9 : WV (S5 2 9) (S5 1 9 1) (S5 3 16 2) := hfb9.2.2.2.eq (fun _ _ _ => rfl) rfl (by omega)
          refine kw_aload_n hC dX7_same_59 rfl 0 rfl ?_
          refine kg_0_7 hC w7 f59 dX7_same_60 rfl (by decide) (by decide) ?_
          refine kw_aload_n hC dX7_same_63 rfl 0 rfl ?_
          refine kg_0_8 hC w7 f63 dX7_same_64 rfl (by decide) (by decide) ?_
          refine kw_callV hC (f_X6_isLike hD (by omega) (by omega) (by omega) (by omega) (by omega) (by omega) (by omega) (by omega) hnS5.2 hv8 hv9) gX7_same_X6_isLike ⟨_, rfl⟩ rfl (by omega) (show (_ : Int) < 12 by omega) rfl ⟨rfl, rfl⟩ 1 (by decide +kernel) ⟨by decide, by decide⟩ rfl rfl (Nat.le_of_ble_eq_true rfl) dX7_same_67 rfl (kd_i (fun r9 S9 hp9 => ?_))
          obtain ⟨hb9, rfl⟩ := hp9
          have hbr := bz_r (kP S9 8 = kP S9 9)
          refine kw_if_eq (tgt := 77) hC dX7_same_70 rfl (by decide) (by omega) ⟨fun c70 => ?_, fun c70 => ?_⟩
          · refine kw_iconst hC dX7_same_77 rfl ?_
            exact hR9.1 rfl _ _ _ _ dX7_same_78 (by first | (exfalso; omega) | exact ⟨_, rfl, hRS5, tC_tXw hfS5, by unfold fSame; rw [if_neg (by omega), cSl_tC hfS5]⟩ | exact ⟨_, rfl, hRS5, tC_tXw hfS5, by have h8 := hfa9; have h9 := (hfb.resolve_right (fun z => by omega)).2; unfold fSame; rw [if_pos (by omega), h8.2.1, h9, cSl_tC hfS5]; rfl⟩ | exact ⟨_, rfl, hRS5, tC_tXw hfS5, by have h9 := (hfa.resolve_right (fun z => by omega)).2; unfold fSame; rw [if_pos (by omega), h9, cSl_tC hfS5]; rfl⟩ | exact ⟨_, rfl, hRS5, tC_tXw hfS5, by unfold fSame; rw [if_pos (by omega), hA9, hfb9.2.1, likP_z, cSl_tC hfS5]; exact Prod.ext (by show bz _ = _; omega) rfl⟩)
          · refine kw_iconst hC dX7_same_73 rfl ?_
            refine kw_goto (tgt := 78) hC dX7_same_74 rfl (by decide) ?_
            exact hR9.1 rfl _ _ _ _ dX7_same_78 (by first | (exfalso; omega) | exact ⟨_, rfl, hRS5, tC_tXw hfS5, by unfold fSame; rw [if_neg (by omega), cSl_tC hfS5]⟩ | exact ⟨_, rfl, hRS5, tC_tXw hfS5, by have h8 := hfa9; have h9 := (hfb.resolve_right (fun z => by omega)).2; unfold fSame; rw [if_pos (by omega), h8.2.1, h9, cSl_tC hfS5]; rfl⟩ | exact ⟨_, rfl, hRS5, tC_tXw hfS5, by have h9 := (hfa.resolve_right (fun z => by omega)).2; unfold fSame; rw [if_pos (by omega), h9, cSl_tC hfS5]; rfl⟩ | exact ⟨_, rfl, hRS5, tC_tXw hfS5, by unfold fSame; rw [if_pos (by omega), hA9, hfb9.2.1, likP_z, cSl_tC hfS5]; exact Prod.ext (by show bz _ = _; omega) rfl⟩)
        · refine kw_bipush hC dX7_same_56 rfl (by decide) ?_
          exact hR9.1 rfl _ _ _ _ dX7_same_58 (by first | (exfalso; omega) | exact ⟨_, rfl, hRS5, tC_tXw hfS5, by unfold fSame; rw [if_neg (by omega), cSl_tC hfS5]⟩ | exact ⟨_, rfl, hRS5, tC_tXw hfS5, by have h8 := hfa9; have h9 := (hfb.resolve_right (fun z => by omega)).2; unfold fSame; rw [if_pos (by omega), h8.2.1, h9, cSl_tC hfS5]; rfl⟩ | exact ⟨_, rfl, hRS5, tC_tXw hfS5, by have h9 := (hfa.resolve_right (fun z => by omega)).2; unfold fSame; rw [if_pos (by omega), h9, cSl_tC hfS5]; rfl⟩ | exact ⟨_, rfl, hRS5, tC_tXw hfS5, by unfold fSame; rw [if_pos (by omega), hA9, hfb9.2.1, likP_z, cSl_tC hfS5]; exact Prod.ext (by show bz _ = _; omega) rfl⟩)
    · refine kw_iconst hC dX7_same_14 rfl ?_
      exact hR9.1 rfl _ _ _ _ dX7_same_15 (by first | (exfalso; omega) | exact ⟨_, rfl, hRS, tC_tXw hfS, by unfold fSame; rw [if_neg (by omega), cSl_tC hfS]⟩ | exact ⟨_, rfl, hRS, tC_tXw hfS, by have h8 := hfa9; have h9 := (hfb.resolve_right (fun z => by omega)).2; unfold fSame; rw [if_pos (by omega), h8.2.1, h9, cSl_tC hfS]; rfl⟩ | exact ⟨_, rfl, hRS, tC_tXw hfS, by have h9 := (hfa.resolve_right (fun z => by omega)).2; unfold fSame; rw [if_pos (by omega), h9, cSl_tC hfS]; rfl⟩ | exact ⟨_, rfl, hRS, tC_tXw hfS, by unfold fSame; rw [if_pos (by omega), hA9, hfb9.2.1, likP_z, cSl_tC hfS]; exact Prod.ext (by show bz _ = _; omega) rfl⟩)

set_option maxHeartbeats 4000000 in
set_option maxRecDepth 100000 in
theorem f_X7_change {g : wG} (hD : wD g) {S : wSt} {a b : Int} (ha : -2147483648 ≤ a ∧ a ≤ 2147483647) (hb : -2147483648 ≤ b ∧ b ≤ 2147483647) (hRS : CI S) (l : Launch) : Kt l yX7_change wsX7_change ({ frames := 2, cells := 0, slots := 0, locals := 44 } : Room) g S [vr g 0 0, vi a, vi b] (pI (fun r S' => CI S' ∧ Fr tXw S S' ∧ fChange (kM S) a b (cSl S) = (r, cSl S'))) := by
  refine Kt.of (cc := cX7_change) (nL := 8) (ret := (some .int)) (own := RX7) rfl hD (by decide) rfl (Nat.le_of_ble_eq_true rfl) ⟨rfl, rfl⟩ ?_
  intro E hC hR9
  have f12 : Cond.fieldLink RX7 12 "MirrorBench" "set" "LMirrorBench$Mirrors;" ∈ wsX7_change := by decide +kernel
  have f25 : Cond.fieldLink RX7 25 "MirrorBench" "slots" "[LMirrorBench$Word;" ∈ wsX7_change := by decide +kernel
  have f157 : Cond.fieldLink RX7 157 "MirrorBench$Word" "mirrors" "[I" ∈ wsX7_change := by decide +kernel
  have w6 : ∀ w ∈ wsX60, w ∈ wsX7_change := by decide +kernel
  have w7 : ∀ w ∈ wsX70, w ∈ wsX7_change := by decide +kernel
  show Wk E g 8 S 0 [(0, vr g 0 0), (1, vi a), (2, vi b)] []
  have hfS : Fr (fWd a) S S := Fr.rfl _ S
  have hnS := hRS.n
  have hkn : (kn S : Int) = S 3 16 2 := by unfold kn; omega
  have hTW : ∀ (W : wSt), Fr (fWd a) S W → (0 ≤ W 1 a 1 ∧ W 1 a 1 ≤ 100) → WV (W 2 a) (W 1 a 1) (S 3 16 2) → CI W := fun W f h1 h2 => hRS.wd (f.mono (fun k i j h => by unfold fWd at h; unfold fZ; omega)) (fun s s0 s1 => by rcases Decidable.em (s = a) with e | e; exact (by rw [e]; exact ⟨h1, h2⟩); exact (by rw [f 1 s 1 (by unfold fWd; omega), show W 2 s = S 2 s from funext fun j => f 2 s j (by unfold fWd; omega)]; exact ⟨hRS.ln s s0 s1, hRS.wv s s0 s1⟩))
  have hn := hRS.n
  refine kw_iload_n hC dX7_change_0 rfl 1 rfl ?_
  refine kw_callS hC (d_X7_isSlot hD (by omega)) gX7_change_X7_isSlot rfl ⟨rfl, rfl⟩ 1 (by decide +kernel) ⟨by decide, by decide⟩ rfl rfl (Nat.le_of_ble_eq_true rfl) dX7_change_1 rfl (kd_ie ?_)
  refine kw_ifeq_b (tgt := 20) hC dX7_change_4 rfl (by decide) ⟨fun c4 => ?_, fun c4 => ?_⟩
  · refine kw_iconst hC dX7_change_20 rfl ?_
    exact hR9.1 rfl _ _ _ _ dX7_change_21 (by first | (exfalso; omega) | exact ⟨_, rfl, hRS, Fr.rfl _ S, by unfold fChange; rw [if_neg (by omega)]⟩ | exact ⟨_, rfl, hRS, Fr.rfl _ S, by unfold fChange; rw [if_pos (by omega), if_pos (Or.inl (by omega))]⟩ | exact ⟨_, rfl, hRS, Fr.rfl _ S, by unfold fChange; rw [if_pos (by omega), if_pos hno9]⟩ | exact ⟨_, rfl, hw9, fWd_tXw hfS, by unfold fChange; rw [if_pos (by omega), if_neg (fun z => by rcases z with z | z | z; omega; omega; exact z hall9), hst]; exact Prod.ext (by show _ = _; omega) rfl⟩)
  · have hla := hRS.ln a (by omega) (by omega)
    have hwa := hRS.wv a (by omega) (by omega)
    have hLa := cSl_len hRS (a := a) (by omega) (by omega)
    refine kw_aload_n hC dX7_change_7 rfl 0 rfl ?_
    refine kg_0_2 hC w7 f25 dX7_change_8 rfl (by decide) (by decide) ?_
    refine kw_iload_n hC dX7_change_11 rfl 1 rfl ?_
    refine ka_20 hC dX7_change_12 rfl (by decide) (by decide) (by omega) (by omega) ?_
    refine kw_iload_n hC dX7_change_13 rfl 2 rfl ?_
    refine kw_callV hC (d_X6_hasTwoFrom hD (by omega) (by omega) (by omega) (by omega) (by omega)) gX7_change_X6_hasTwoFrom ⟨_, rfl⟩ rfl (by omega) (show (_ : Int) < 12 by omega) rfl ⟨rfl, rfl⟩ 1 (by decide +kernel) ⟨by decide, by decide⟩ rfl rfl (Nat.le_of_ble_eq_true rfl) dX7_change_14 rfl (kd_ie ?_)
    refine kw_ifne_b (tgt := 22) hC dX7_change_17 rfl (by decide) ⟨fun c17 => ?_, fun c17 => ?_⟩
    · refine kw_aload_n hC dX7_change_22 rfl 0 rfl ?_
      refine kg_0_2 hC w7 f25 dX7_change_23 rfl (by decide) (by decide) ?_
      refine kw_iload_n hC dX7_change_26 rfl 1 rfl ?_
      refine ka_20 hC dX7_change_27 rfl (by decide) (by decide) (by omega) (by omega) ?_
      refine kw_astore_n (lv' := [(3, _), (0, _), (1, _), (2, _)]) hC dX7_change_28 rfl (by decide) rfl ?_
      refine kw_aload_n hC dX7_change_29 rfl 0 rfl ?_
      refine kg_1_0 hC w6 f157 dX7_change_30 rfl (by omega) (by omega) ?_
      refine kw_iload_n hC dX7_change_33 rfl 3 rfl ?_
      refine ka_2 hC dX7_change_34 rfl (by omega) (by omega) (by omega) (by omega) ?_
      have q1 := hwa b (by omega) (by omega)
      have hg1 := cSl_get (S := S) (a := a) (k := b) (by omega) (by omega) (by omega) (by omega)
      refine kw_istore (lv' := [(4, _), (3, _), (0, _), (1, _), (2, _)]) hC dX7_change_35 rfl (by decide) rfl ?_
      refine kw_aload_n hC dX7_change_37 rfl 1 rfl ?_
      refine kg_1_0 hC w6 f157 dX7_change_38 rfl (by omega) (by omega) ?_
      refine kw_iload_n hC dX7_change_41 rfl 4 rfl ?_
      refine kw_iconst hC dX7_change_42 rfl ?_
      refine kw_iadd hC dX7_change_43 rfl ?_
      refine ka_2 hC dX7_change_44 rfl (by omega) (by omega) (by omega) (by omega) ?_
      have q2 := hwa (b + 1) (by omega) (by omega)
      have hg2 := cSl_get (S := S) (a := a) (k := b + 1) (by omega) (by omega) (by omega) (by omega)
      refine kw_istore (lv' := [(5, _), (4, _), (3, _), (0, _), (1, _), (2, _)]) hC dX7_change_45 rfl (by decide) rfl ?_
      refine kw_aload_n hC dX7_change_47 rfl 3 rfl ?_
      refine kg_0_0 hC w7 f12 dX7_change_48 rfl (by decide) (by decide) ?_
      refine kw_iload hC dX7_change_51 rfl 1 rfl ?_
      refine kw_iload hC dX7_change_53 rfl 0 rfl ?_
      refine kw_callV hC (d_X3_meetsAt hD (by omega) (by omega) (by omega) (by omega) hRS) gX7_change_X3_meetsAt ⟨_, rfl⟩ rfl (by omega) (show (16 : Int) < 17 by omega) rfl ⟨rfl, rfl⟩ 2 (by decide +kernel) ⟨by decide, by decide⟩ rfl rfl (Nat.le_of_ble_eq_true rfl) dX7_change_55 rfl (kd_ie ?_)
      obtain ⟨m, hm⟩ : ∃ m, m = mAt (S 2 a b) (S 2 a (b + 1)) (S 5 16 (6 * S 2 a b + S 2 a (b + 1))) (S 5 16 (6 * S 2 a (b + 1) + S 2 a b)) := ⟨_, rfl⟩
      rw [← hm]
      have hmr : 0 ≤ m ∧ m ≤ 6 := hm ▸ mAt_r _ _ _ _
      have hm2 := mAt_2 (S 2 a b) (S 2 a (b + 1)) (S 5 16 (6 * S 2 a b + S 2 a (b + 1))) (S 5 16 (6 * S 2 a (b + 1) + S 2 a b))
      rw [← hm] at hm2
      have hmA : mtA (kM S) ((cSl S a).getD b.toNat 0) ((cSl S a).getD (b + 1).toNat 0) = m := by rw [hg1, hg2, mAt_k q1.1 q1.2 q2.1 q2.2, hm]
      have hit := fun h8 h9 => inT (L := cSl S a) (f := S 2 a) (k := b) (m := m) (len := S 1 a 1) (cSl_at (by omega) (by omega)) (by omega) (fun j j0 j1 => (hwa j j0 j1).1) rfl rfl h8 h9
      refine kw_istore (lv' := [(6, _), (5, _), (4, _), (3, _), (0, _), (1, _), (2, _)]) hC dX7_change_58 rfl (by decide) rfl ?_
      refine kw_iload hC dX7_change_60 rfl 2 rfl ?_
      refine kw_iload hC dX7_change_62 rfl 1 rfl ?_
      refine kw_icmp_eq (tgt := 82) hC dX7_change_64 rfl (by decide) (by omega) (by omega) ⟨fun c64 => ?_, fun c64 => ?_⟩
      · have hno9 : mtA (kM S) ((cSl S a).getD b.toNat 0) ((cSl S a).getD (b + 1).toNat 0) < 2 ∨ b + mtA (kM S) ((cSl S a).getD b.toNat 0) ((cSl S a).getD (b + 1).toNat 0) > ((cSl S a).length : Int) ∨ ¬ (∀ j : Nat, j < (mtA (kM S) ((cSl S a).getD b.toNat 0) ((cSl S a).getD (b + 1).toNat 0)).toNat → (cSl S a).getD (b.toNat + j) 0 = if j % 2 = 0 then (cSl S a).getD b.toNat 0 else (cSl S a).getD (b + 1).toNat 0) := by first | exact Or.inl (by omega) | (by_cases h8 : b + m ≤ S 1 a 1; exact Or.inr (Or.inr (fun z => c79 ⟨by omega, (hit h8 (by omega)).mpr (by rw [hmA, hg1, hg2] at z; exact z)⟩)); exact Or.inr (Or.inl (by omega)))
        refine kw_bipush hC dX7_change_82 rfl (by decide) ?_
        exact hR9.1 rfl _ _ _ _ dX7_change_84 (by first | (exfalso; omega) | exact ⟨_, rfl, hRS, Fr.rfl _ S, by unfold fChange; rw [if_neg (by omega)]⟩ | exact ⟨_, rfl, hRS, Fr.rfl _ S, by unfold fChange; rw [if_pos (by omega), if_pos (Or.inl (by omega))]⟩ | exact ⟨_, rfl, hRS, Fr.rfl _ S, by unfold fChange; rw [if_pos (by omega), if_pos hno9]⟩ | exact ⟨_, rfl, hw9, fWd_tXw hfS, by unfold fChange; rw [if_pos (by omega), if_neg (fun z => by rcases z with z | z | z; omega; omega; exact z hall9), hst]; exact Prod.ext (by show _ = _; omega) rfl⟩)
      · refine kw_iload hC dX7_change_67 rfl 0 rfl ?_
        refine kw_if_eq (tgt := 82) hC dX7_change_69 rfl (by decide) (by omega) ⟨fun c69 => ?_, fun c69 => ?_⟩
        · have hno9 : mtA (kM S) ((cSl S a).getD b.toNat 0) ((cSl S a).getD (b + 1).toNat 0) < 2 ∨ b + mtA (kM S) ((cSl S a).getD b.toNat 0) ((cSl S a).getD (b + 1).toNat 0) > ((cSl S a).length : Int) ∨ ¬ (∀ j : Nat, j < (mtA (kM S) ((cSl S a).getD b.toNat 0) ((cSl S a).getD (b + 1).toNat 0)).toNat → (cSl S a).getD (b.toNat + j) 0 = if j % 2 = 0 then (cSl S a).getD b.toNat 0 else (cSl S a).getD (b + 1).toNat 0) := by first | exact Or.inl (by omega) | (by_cases h8 : b + m ≤ S 1 a 1; exact Or.inr (Or.inr (fun z => c79 ⟨by omega, (hit h8 (by omega)).mpr (by rw [hmA, hg1, hg2] at z; exact z)⟩)); exact Or.inr (Or.inl (by omega)))
          refine kw_bipush hC dX7_change_82 rfl (by decide) ?_
          exact hR9.1 rfl _ _ _ _ dX7_change_84 (by first | (exfalso; omega) | exact ⟨_, rfl, hRS, Fr.rfl _ S, by unfold fChange; rw [if_neg (by omega)]⟩ | exact ⟨_, rfl, hRS, Fr.rfl _ S, by unfold fChange; rw [if_pos (by omega), if_pos (Or.inl (by omega))]⟩ | exact ⟨_, rfl, hRS, Fr.rfl _ S, by unfold fChange; rw [if_pos (by omega), if_pos hno9]⟩ | exact ⟨_, rfl, hw9, fWd_tXw hfS, by unfold fChange; rw [if_pos (by omega), if_neg (fun z => by rcases z with z | z | z; omega; omega; exact z hall9), hst]; exact Prod.ext (by show _ = _; omega) rfl⟩)
        · refine kw_aload_n hC dX7_change_72 rfl 3 rfl ?_
          refine kw_iload_n hC dX7_change_73 rfl 6 rfl ?_
          refine kw_iload hC dX7_change_74 rfl 0 rfl ?_
          refine kw_callV hC (d_X6_isInTurn hD (by omega) (by omega) (by omega) (by omega) (by omega) (by omega) (by omega) hwa (by omega)) gX7_change_X6_isInTurn ⟨_, rfl⟩ rfl (by omega) (show (_ : Int) < 12 by omega) rfl ⟨rfl, rfl⟩ 2 (by decide +kernel) ⟨by decide, by decide⟩ rfl rfl (Nat.le_of_ble_eq_true rfl) dX7_change_76 rfl (kd_ie ?_)
          refine kw_ifne_b (tgt := 85) hC dX7_change_79 rfl (by decide) ⟨fun c79 => ?_, fun c79 => ?_⟩
          · obtain ⟨c79, h79⟩ := c79
            have hall9 : ∀ j : Nat, j < (mtA (kM S) ((cSl S a).getD b.toNat 0) ((cSl S a).getD (b + 1).toNat 0)).toNat → (cSl S a).getD (b.toNat + j) 0 = if j % 2 = 0 then (cSl S a).getD b.toNat 0 else (cSl S a).getD (b + 1).toNat 0 := by rw [hmA, hg1, hg2]; exact (hit (by omega) (by omega)).mp h79
            refine kw_iconst hC dX7_change_85 rfl ?_
            refine kw_istore (lv' := [(7, _), (6, _), (5, _), (4, _), (3, _), (0, _), (1, _), (2, _)]) hC dX7_change_86 rfl (by decide) rfl ?_
            have hL88 : ∀ (n88 : Nat) (y : Int) (W88 : wSt), Fr (fWd a) S W88 → (0 ≤ y) → (y ≤ m) → (W88 1 a 1 = S 1 a 1) → (WV (W88 2 a) (S 1 a 1) (S 3 16 2)) → (∀ j, 0 ≤ j → j < y → W88 2 a (b + j) = if j % 2 = 0 then S 2 a (b + 1) else S 2 a b) → (∀ j, ¬ (b ≤ j ∧ j < b + y) → W88 2 a j = S 2 a j) → m - y < (n88 : Int) → Wk E g 8 W88 88 [(0, vr g 0 0), (1, vi a), (2, vi b), (3, vr g 1 a), (4, vi (S 2 a b)), (5, vi (S 2 a (b + 1))), (6, vi m), (7, vi y)] [] := by
              intro n88
              induction n88 with
              | zero => intro y W88 hfW88 y0 y1 hl hr h43 h45 hm88; exact absurd hm88 (by omega)
              | succ n88 ih88 =>
                intro y W88 hfW88 y0 y1 hl hr h43 h45 hm88
                refine kw_iload hC dX7_change_88 rfl 7 rfl ?_
                refine kw_iload hC dX7_change_90 rfl 6 rfl ?_
                refine kw_icmp_ge (tgt := 124) hC dX7_change_92 rfl (by decide) (by omega) (by omega) ⟨fun c92 => ?_, fun c92 => ?_⟩
                · have l9 : W88 1 a 1 = S 1 a 1 := hl
                  have hw9 := hTW W88 hfW88 (by omega) (hr.eq (fun _ _ _ => rfl) hl rfl)
                  have hst : cSl W88 = upw (cSl S) a (chg (cSl S a) b.toNat (mtA (kM S) ((cSl S a).getD b.toNat 0) ((cSl S a).getD (b + 1).toNat 0)).toNat ((cSl S a).getD b.toNat 0) ((cSl S a).getD (b + 1).toNat 0)) := by rw [cSl_st (by omega) (by omega) hfW88, hmA, hg1, hg2]; congr 1; unfold kP; rw [hl]; exact wl_chg (f := S 2 a) (cSl_at (by omega) (by omega)) (by omega) (by omega) (fun j j0 j1 j2 => h45 j (by omega)) (fun z z0 z1 => h43 z z0 (by omega))
                  refine kw_iload hC dX7_change_124 rfl 6 rfl ?_
                  exact hR9.1 rfl _ _ _ _ dX7_change_126 (by first | (exfalso; omega) | exact ⟨_, rfl, hRS, Fr.rfl _ S, by unfold fChange; rw [if_neg (by omega)]⟩ | exact ⟨_, rfl, hRS, Fr.rfl _ S, by unfold fChange; rw [if_pos (by omega), if_pos (Or.inl (by omega))]⟩ | exact ⟨_, rfl, hRS, Fr.rfl _ S, by unfold fChange; rw [if_pos (by omega), if_pos hno9]⟩ | exact ⟨_, rfl, hw9, fWd_tXw hfW88, by unfold fChange; rw [if_pos (by omega), if_neg (fun z => by rcases z with z | z | z; omega; omega; exact z hall9), hst]; exact Prod.ext (by show _ = _; omega) rfl⟩)
                · refine kw_aload_n hC dX7_change_95 rfl 3 rfl ?_
                  refine kg_1_0 hC w6 f157 dX7_change_96 rfl (by omega) (by omega) ?_
                  refine kw_iload_n hC dX7_change_99 rfl 2 rfl ?_
                  refine kw_iload hC dX7_change_100 rfl 7 rfl ?_
                  refine kw_iadd hC dX7_change_102 rfl ?_
                  refine kw_iload hC dX7_change_103 rfl 7 rfl ?_
                  refine kw_iconst hC dX7_change_105 rfl ?_
                  refine kw_irem hC dX7_change_106 rfl (by omega) (by omega) ?_
                  refine kw_if_ne (tgt := 115) hC dX7_change_107 rfl (by decide) (by omega) ⟨fun c107 => ?_, fun c107 => ?_⟩
                  · refine kw_iload hC dX7_change_115 rfl 4 rfl ?_
                    refine ks_2 hC dX7_change_117 rfl (by omega) (by omega) (by omega) (by omega) ?_
                    refine kw_hv hfW88 (by unfold fWd; omega) (fun S8 hfS8 hv8 ho8 => ?_)
                    have hr9 : WV (S8 2 a) (S 1 a 1) (S 3 16 2) := fun j j0 j1 => by rcases Decidable.em (j = b + y) with e | e; exact (by rw [e, hv8]; omega); exact (by rw [ho8 2 a j (by omega)]; exact hr j j0 j1)
                    refine kw_iinc (lv' := [(7, _), (0, _), (1, _), (2, _), (3, _), (4, _), (5, _), (6, _)]) hC dX7_change_118 rfl 7 rfl (by decide) rfl ?_
                    refine kw_goto (tgt := 88) hC dX7_change_121 rfl (by decide) ?_
                    refine kw_lv [1, 2, 3, 4, 5, 6, 7, 0] rfl ?_
                    exact ih88 (y + 1) S8 hfS8 (by omega) (by omega) ((ho8 1 a 1 (by omega)).trans hl) hr9 (fun j j0 j1 => by rcases Decidable.em (j = y) with e | e; exact (by rw [e, hv8]; first | rw [if_pos (by omega)] | rw [if_neg (by omega)]); exact (by rw [ho8 2 a _ (by omega)]; exact h43 j j0 (by omega))) (fun j hj => by rw [ho8 2 a j (by omega)]; exact h45 j (by omega)) (by omega)
                  · refine kw_iload hC dX7_change_110 rfl 5 rfl ?_
                    refine kw_goto (tgt := 117) hC dX7_change_112 rfl (by decide) ?_
                    refine ks_2 hC dX7_change_117 rfl (by omega) (by omega) (by omega) (by omega) ?_
                    refine kw_hv hfW88 (by unfold fWd; omega) (fun S9 hfS9 hv9 ho9 => ?_)
                    have hr9 : WV (S9 2 a) (S 1 a 1) (S 3 16 2) := fun j j0 j1 => by rcases Decidable.em (j = b + y) with e | e; exact (by rw [e, hv9]; omega); exact (by rw [ho9 2 a j (by omega)]; exact hr j j0 j1)
                    refine kw_iinc (lv' := [(7, _), (0, _), (1, _), (2, _), (3, _), (4, _), (5, _), (6, _)]) hC dX7_change_118 rfl 7 rfl (by decide) rfl ?_
                    refine kw_goto (tgt := 88) hC dX7_change_121 rfl (by decide) ?_
                    refine kw_lv [1, 2, 3, 4, 5, 6, 7, 0] rfl ?_
                    exact ih88 (y + 1) S9 hfS9 (by omega) (by omega) ((ho9 1 a 1 (by omega)).trans hl) hr9 (fun j j0 j1 => by rcases Decidable.em (j = y) with e | e; exact (by rw [e, hv9]; first | rw [if_pos (by omega)] | rw [if_neg (by omega)]); exact (by rw [ho9 2 a _ (by omega)]; exact h43 j j0 (by omega))) (fun j hj => by rw [ho9 2 a j (by omega)]; exact h45 j (by omega)) (by omega)
            refine kw_lv [5, 6, 7, 4, 3, 2, 1, 0] rfl ?_
            exact hL88 7 0 S hfS (by omega) (by omega) rfl hwa (fun j _ _ => by omega) (fun _ _ => rfl) (by omega)
          · have hno9 : mtA (kM S) ((cSl S a).getD b.toNat 0) ((cSl S a).getD (b + 1).toNat 0) < 2 ∨ b + mtA (kM S) ((cSl S a).getD b.toNat 0) ((cSl S a).getD (b + 1).toNat 0) > ((cSl S a).length : Int) ∨ ¬ (∀ j : Nat, j < (mtA (kM S) ((cSl S a).getD b.toNat 0) ((cSl S a).getD (b + 1).toNat 0)).toNat → (cSl S a).getD (b.toNat + j) 0 = if j % 2 = 0 then (cSl S a).getD b.toNat 0 else (cSl S a).getD (b + 1).toNat 0) := by first | exact Or.inl (by omega) | (by_cases h8 : b + m ≤ S 1 a 1; exact Or.inr (Or.inr (fun z => c79 ⟨by omega, (hit h8 (by omega)).mpr (by rw [hmA, hg1, hg2] at z; exact z)⟩)); exact Or.inr (Or.inl (by omega)))
            refine kw_bipush hC dX7_change_82 rfl (by decide) ?_
            exact hR9.1 rfl _ _ _ _ dX7_change_84 (by first | (exfalso; omega) | exact ⟨_, rfl, hRS, Fr.rfl _ S, by unfold fChange; rw [if_neg (by omega)]⟩ | exact ⟨_, rfl, hRS, Fr.rfl _ S, by unfold fChange; rw [if_pos (by omega), if_pos (Or.inl (by omega))]⟩ | exact ⟨_, rfl, hRS, Fr.rfl _ S, by unfold fChange; rw [if_pos (by omega), if_pos hno9]⟩ | exact ⟨_, rfl, hw9, fWd_tXw hfS, by unfold fChange; rw [if_pos (by omega), if_neg (fun z => by rcases z with z | z | z; omega; omega; exact z hall9), hst]; exact Prod.ext (by show _ = _; omega) rfl⟩)
    · refine kw_iconst hC dX7_change_20 rfl ?_
      exact hR9.1 rfl _ _ _ _ dX7_change_21 (by first | (exfalso; omega) | exact ⟨_, rfl, hRS, Fr.rfl _ S, by unfold fChange; rw [if_neg (by omega)]⟩ | exact ⟨_, rfl, hRS, Fr.rfl _ S, by unfold fChange; rw [if_pos (by omega), if_pos (Or.inl (by omega))]⟩ | exact ⟨_, rfl, hRS, Fr.rfl _ S, by unfold fChange; rw [if_pos (by omega), if_pos hno9]⟩ | exact ⟨_, rfl, hw9, fWd_tXw hfS, by unfold fChange; rw [if_pos (by omega), if_neg (fun z => by rcases z with z | z | z; omega; omega; exact z hall9), hst]; exact Prod.ext (by show _ = _; omega) rfl⟩)
end
