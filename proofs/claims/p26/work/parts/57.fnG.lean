section
set_option maxHeartbeats 4000000 in
set_option maxRecDepth 100000 in
theorem f_X3_turnBy {g : wG} (hD : wD g) {S : wSt} {c : Nat} {w : Int} (hL : ∀ r, cx g c w r = ka_l g 6 r) (h0 : 0 ≤ w) (h1 : w < cn c) {p m : Int} (hcT : c ≠ 1 ∧ c ≠ 2 ∧ c ≠ 3 ∧ c ≠ 4 ∧ c ≠ 5) (hcC : ∀ j, tC c w j) (p0 : 0 ≤ p) (p1 : p < 12) (m0 : 0 ≤ m) (m1 : m ≤ 100) (hRS : CI S) (hw : WV (S 2 p) m (S 3 16 2)) (hb : bdd (S 3 16 2) (S c w)) (l : Launch) : Kt l yX3_turnBy wsX3_turnBy ({ frames := 2, cells := 0, slots := 0, locals := 49 } : Room) g S [vr g 3 16, vr g 1 p, vi m, vr g c w] (pI (fun r S' => Fr (fCl c w) S S' ∧ ((∀ j, S 3 16 2 ≤ j → j < 6 → S' c w j = S c w j) ∧ ((r = 0 ∧ tbd (kM S) (kn S) (wl (S 2 p) m.toNat) m.toNat (vC (kn S) (S c w)) = none) ∨ (r = 1 ∧ tbd (kM S) (kn S) (wl (S 2 p) m.toNat) m.toNat (vC (kn S) (S c w)) = some (vC (kn S) (S' c w)) ∧ bdd (S 3 16 2) (S' c w)))))) := by
  refine Kt.of (cc := cX3_turnBy) (nL := 5) (ret := (some .boolean)) (own := RX3) rfl hD (by decide) rfl (Nat.le_of_ble_eq_true rfl) ⟨rfl, rfl⟩ ?_
  intro E hC hR9
  have f44 : Cond.fieldLink RX3 44 "MirrorBench$Word" "mirrors" "[I" ∈ wsX3_turnBy := by decide +kernel
  have w6 : ∀ w ∈ wsX60, w ∈ wsX3_turnBy := by decide +kernel
  show Wk E g 5 S 0 [(0, vr g 3 16), (1, vr g 1 p), (2, vi m), (3, vr g c w)] []
  have hfS : Fr (fCl c w) S S := Fr.rfl _ S
  have hRS : CI S := hRS.fr (hfS.mono (fun k i j h => by unfold fCl at h; obtain ⟨rfl, rfl⟩ := h; exact hcC j))
  have hnS := hRS.n
  refine kw_iload_n hC dX3_turnBy_0 rfl 2 rfl ?_
  refine kw_iconst hC dX3_turnBy_1 rfl ?_
  refine kw_isub hC dX3_turnBy_2 rfl ?_
  refine kw_istore (lv' := [(4, _), (0, _), (1, _), (2, _), (3, _)]) hC dX3_turnBy_3 rfl (by decide) rfl ?_
  have hL5 : ∀ (n5 : Nat) (x : Int) (W5 : wSt), Fr (fCl c w) S W5 → (-1 ≤ x) → (x < m) → (∀ j, S 3 16 2 ≤ j → j < 6 → W5 c w j = S c w j) → (TbT (S 5 16) (S 2 p) m (S 3 16 2) (W5 c w) (tbd (kM S) (kn S) (wl (S 2 p) m.toNat) m.toNat (vC (kn S) (S c w))) x) → x + 1 < (n5 : Int) → Wk E g 5 W5 5 [(0, vr g 3 16), (1, vr g 1 p), (2, vi m), (3, vr g c w), (4, vi x)] [] := by
    intro n5
    induction n5 with
    | zero => intro x W5 hfW5 x0 x1 hz hB hm5; exact absurd hm5 (by omega)
    | succ n5 ih5 =>
      intro x W5 hfW5 x0 x1 hz hB hm5
      have hRW5 : CI W5 := hRS.fr (hfW5.mono (fun k i j h => by unfold fCl at h; obtain ⟨rfl, rfl⟩ := h; exact hcC j))
      have hnW5 := hRW5.n
      refine kw_iload hC dX3_turnBy_5 rfl 4 rfl ?_
      refine kw_if_lt (tgt := 33) hC dX3_turnBy_7 rfl (by decide) (by omega) ⟨fun c7 => ?_, fun c7 => ?_⟩
      · refine kw_iconst hC dX3_turnBy_33 rfl ?_
        exact hR9.2.1 rfl _ _ _ _ dX3_turnBy_34 (by omega) ⟨_, rfl, hfW5, hz, Or.inr ⟨rfl, hB.end' (by omega)⟩⟩
      · refine kw_aload_n hC dX3_turnBy_10 rfl 0 rfl ?_
        refine kw_aload_n hC dX3_turnBy_11 rfl 3 rfl ?_
        refine kw_aload_n hC dX3_turnBy_12 rfl 1 rfl ?_
        refine kg_1_0 hC w6 f44 dX3_turnBy_13 rfl (by omega) (by omega) ?_
        refine kw_iload hC dX3_turnBy_16 rfl 4 rfl ?_
        refine ka_2 hC dX3_turnBy_18 rfl (by omega) (by omega) (by omega) (by omega) ?_
        refine kw_chi (z' := S 2 p x) (hfW5 2 p x (by unfold fCl; omega)) ?_
        have hl := hw x (by omega) (by omega)
        refine kw_callV hC (d_X3_turn hD hL h0 h1 (by omega) (by omega) hRW5) gX3_turnBy_X3_turn ⟨_, rfl⟩ rfl (by omega) (show (16 : Int) < 17 by omega) rfl ⟨rfl, rfl⟩ 2 (by decide +kernel) ⟨by decide, by decide⟩ rfl rfl (Nat.le_of_ble_eq_true rfl) dX3_turnBy_19 rfl (kd_i (fun r2 S2 hp2 => ?_))
        obtain ⟨hg2, hp2⟩ := hp2
        have hfS2 : Fr (fCl c w) S S2 := hfW5.trans (hg2.mono (fun k i j h => by unfold fCl at h; unfold fCl; omega))
        have hRS2 : CI S2 := hRS.fr (hfS2.mono (fun k i j h => by unfold fCl at h; obtain ⟨rfl, rfl⟩ := h; exact hcC j))
        have hnS2 := hRS2.n
        obtain ⟨q1, q2, q3⟩ := hp2
        have e5 : W5 5 16 = S 5 16 := funext fun j => hfW5 5 16 j (by unfold fCl; omega)
        have e3 : W5 3 16 2 = S 3 16 2 := hfW5 3 16 2 (by unfold fCl; omega)
        rw [e5, e3] at q1 q2
        have hB2 := hB.go hRS.set hw (by omega) (by omega) q2 q3
        have hbb := bz_in (-1000000000000 ≤ nl (tvc (S 5 16) (W5 c w) (S 2 p x) (S 3 16 2)) ∧ nl (tvc (S 5 16) (W5 c w) (S 2 p x) (S 3 16 2)) ≤ 1000000000000)
        refine kw_if_ne (tgt := 27) hC dX3_turnBy_22 rfl (by decide) (by omega) ⟨fun c22 => ?_, fun c22 => ?_⟩
        · refine kw_iinc (lv' := [(4, _), (0, _), (1, _), (2, _), (3, _)]) hC dX3_turnBy_27 rfl 4 rfl (by decide) rfl ?_
          refine kw_goto (tgt := 5) hC dX3_turnBy_30 rfl (by decide) ?_
          refine kw_lv [1, 2, 3, 4, 0] rfl ?_
          exact ih5 (x + -1) S2 hfS2 (by omega) (by omega) (fun j j0 j1 => by rw [q3 j (by omega)]; exact hz j j0 j1) (by rw [show x + -1 = x - 1 by omega]; exact (hB2.resolve_left (fun z => by rw [bz_f z.1] at q1; omega)).2) (by omega)
        · refine kw_iconst hC dX3_turnBy_25 rfl ?_
          exact hR9.2.1 rfl _ _ _ _ dX3_turnBy_26 (by omega) ⟨_, rfl, hfS2, (fun j j0 j1 => by rw [q3 j (by omega)]; exact hz j j0 j1), Or.inl ⟨rfl, by rcases hB2 with z | z; exact z.2; (rw [bz_t z.1] at q1; omega)⟩⟩
  refine kw_lv [1, 2, 3, 4, 0] rfl ?_
  exact hL5 101 (m - 1) S hfS (by omega) (by omega) (fun _ _ _ => rfl) (TbT.st hb m0) (by omega)

set_option maxHeartbeats 4000000 in
set_option maxRecDepth 100000 in
theorem f_X5_goesBehind {g : wG} (hD : wD g) {S : wSt} {p a : Int} (p0 : 0 ≤ p) (p1 : p < 12) (a0 : 0 ≤ a) (a1 : a < S 3 16 2) (hRS : CI S) (hw : WV (S 2 p) (S 1 p 1) (S 3 16 2)) (m0 : 0 ≤ S 1 p 1) (m1 : S 1 p 1 ≤ 100) (l : Launch) : Kt l yX5_goesBehind wsX5_goesBehind ({ frames := 2, cells := 0, slots := 0, locals := 49 } : Room) g S [vr g 10 0, vr g 1 p, vi a] (pI (fun r S' => Fr fA S S' ∧ (r = bh (kM S) (kn S) (kP S p) a.toNat))) := by
  refine Kt.of (cc := cX5_goesBehind) (nL := 4) (ret := (some .int)) (own := RX5) rfl hD (by decide) rfl (Nat.le_of_ble_eq_true rfl) ⟨rfl, rfl⟩ ?_
  intro E hC hR9
  have f9 : Cond.fieldLink RX5 9 "MirrorBench$Shortener" "root" "[J" ∈ wsX5_goesBehind := by decide +kernel
  have f22 : Cond.fieldLink RX5 22 "MirrorBench$Shortener" "set" "LMirrorBench$Mirrors;" ∈ wsX5_goesBehind := by decide +kernel
  have f30 : Cond.fieldLink RX5 30 "MirrorBench$Word" "length" "I" ∈ wsX5_goesBehind := by decide +kernel
  have f34 : Cond.fieldLink RX5 34 "MirrorBench$Word" "mirrors" "[I" ∈ wsX5_goesBehind := by decide +kernel
  have w5 : ∀ w ∈ wsX50, w ∈ wsX5_goesBehind := by decide +kernel
  have w6 : ∀ w ∈ wsX60, w ∈ wsX5_goesBehind := by decide +kernel
  show Wk E g 4 S 0 [(0, vr g 10 0), (1, vr g 1 p), (2, vi a)] []
  have hfS : Fr fA S S := Fr.rfl _ S
  have hRS := hRS.fr (hfS.mono (fun k i j h => by unfold fA at h; unfold tC; omega))
  have hnS := hRS.n
  have enS : S 3 16 2 = S 3 16 2 := hfS 3 16 2 (by unfold fA; omega)
  have hn9 := hRS.n
  refine kw_aload_n hC dX5_goesBehind_0 rfl 0 rfl ?_
  refine kg_10_1 hC w5 f9 dX5_goesBehind_1 rfl (by decide) (by decide) ?_
  refine kw_iload_n hC dX5_goesBehind_4 rfl 2 rfl ?_
  refine kw_callSN (host := RX7) hC (d_X7_setOwn hD (c := 11) (w := 0) (fun _ => rfl) (by decide) (by decide) (by omega) (by omega)) (by decide +kernel) (by decide +kernel) (by decide +kernel) ggX5_goesBehind_X7_setOwn rfl ⟨rfl, rfl⟩ 2 (by decide +kernel) ⟨by decide, by decide⟩ rfl rfl (Nat.le_of_ble_eq_true rfl) dX5_goesBehind_5 rfl (kd_v (fun S1 hp1 => ?_))
  obtain ⟨hg1, hp1⟩ := hp1
  have hfS1 : Fr fA S S1 := hfS.trans (hg1.mono (fun k i j h => by unfold fCl at h; unfold fA; omega))
  have hRS1 := hRS.fr (hfS1.mono (fun k i j h => by unfold fA at h; unfold tC; omega))
  have hnS1 := hRS1.n
  have enS1 : S1 3 16 2 = S 3 16 2 := hfS1 3 16 2 (by unfold fA; omega)
  refine kw_aload_n hC dX5_goesBehind_8 rfl 1 rfl ?_
  refine kg_1_1 hC w6 f30 dX5_goesBehind_9 rfl (by omega) (by omega) ?_
  refine kw_chi (z' := S 1 p 1) (hfS1 1 p 1 (by unfold fA; omega)) ?_
  refine kw_iconst hC dX5_goesBehind_12 rfl ?_
  refine kw_isub hC dX5_goesBehind_13 rfl ?_
  refine kw_istore_n (lv' := [(3, _), (0, _), (1, _), (2, _)]) hC dX5_goesBehind_14 rfl (by decide) rfl ?_
  have hL15 : ∀ (n15 : Nat) (x : Int) (W15 : wSt), Fr fA S W15 → (-1 ≤ x) → (x < S 1 p 1) → (∀ j, S 3 16 2 ≤ j → j < 6 → W15 11 0 j = 0) → (BhT (S 5 16) (S 2 p) (S 1 p 1) (S 3 16 2) (W15 11 0) (bh (kM S) (kn S) (kP S p) a.toNat) x) → x + 1 < (n15 : Int) → Wk E g 4 W15 15 [(0, vr g 10 0), (1, vr g 1 p), (2, vi a), (3, vi x)] [] := by
    intro n15
    induction n15 with
    | zero => intro x W15 hfW15 x0 x1 hz6 hB hm15; exact absurd hm15 (by omega)
    | succ n15 ih15 =>
      intro x W15 hfW15 x0 x1 hz6 hB hm15
      have hRW15 := hRS.fr (hfW15.mono (fun k i j h => by unfold fA at h; unfold tC; omega))
      have hnW15 := hRW15.n
      have enW15 : W15 3 16 2 = S 3 16 2 := hfW15 3 16 2 (by unfold fA; omega)
      refine kw_iload_n hC dX5_goesBehind_15 rfl 3 rfl ?_
      refine kw_if_lt (tgt := 66) hC dX5_goesBehind_16 rfl (by decide) (by omega) ⟨fun c16 => ?_, fun c16 => ?_⟩
      · refine kw_iconst hC dX5_goesBehind_66 rfl ?_
        exact hR9.1 rfl _ _ _ _ dX5_goesBehind_67 ⟨_, rfl, hfW15, (hB.end' (by omega)).symm⟩
      · refine kw_aload_n hC dX5_goesBehind_19 rfl 0 rfl ?_
        refine kg_10_1 hC w5 f9 dX5_goesBehind_20 rfl (by decide) (by decide) ?_
        refine kw_aload_n hC dX5_goesBehind_23 rfl 1 rfl ?_
        refine kg_1_0 hC w6 f34 dX5_goesBehind_24 rfl (by omega) (by omega) ?_
        refine kw_iload_n hC dX5_goesBehind_27 rfl 3 rfl ?_
        refine ka_2 hC dX5_goesBehind_28 rfl (by omega) (by omega) (by omega) (by omega) ?_
        refine kw_chi (z' := S 2 p x) (hfW15 2 p x (by unfold fA; omega)) ?_
        have hl := hw x (by omega) (by omega)
        refine kw_callSN (host := RX7) hC (d_X7_isOwn hD (c := 11) (w := 0) (fun _ => rfl) (by decide) (by decide) (by omega) (by omega)) (by decide +kernel) (by decide +kernel) (by decide +kernel) ggX5_goesBehind_X7_isOwn rfl ⟨rfl, rfl⟩ 2 (by decide +kernel) ⟨by decide, by decide⟩ rfl rfl (Nat.le_of_ble_eq_true rfl) dX5_goesBehind_29 rfl (kd_ie ?_)
        refine kw_ifeq_b (tgt := 37) hC dX5_goesBehind_32 rfl (by decide) ⟨fun c32 => ?_, fun c32 => ?_⟩
        · refine kw_aload_n hC dX5_goesBehind_37 rfl 0 rfl ?_
          refine kg_10_0 hC w5 f22 dX5_goesBehind_38 rfl (by decide) (by decide) ?_
          refine kw_aload_n hC dX5_goesBehind_41 rfl 0 rfl ?_
          refine kg_10_1 hC w5 f9 dX5_goesBehind_42 rfl (by decide) (by decide) ?_
          refine kw_aload_n hC dX5_goesBehind_45 rfl 1 rfl ?_
          refine kg_1_0 hC w6 f34 dX5_goesBehind_46 rfl (by omega) (by omega) ?_
          refine kw_iload_n hC dX5_goesBehind_49 rfl 3 rfl ?_
          refine ka_2 hC dX5_goesBehind_50 rfl (by omega) (by omega) (by omega) (by omega) ?_
          refine kw_chi (z' := S 2 p x) (hfW15 2 p x (by unfold fA; omega)) ?_
          have hl := hw x (by omega) (by omega)
          refine kw_callV hC (d_X3_turn hD (c := 11) (w := 0) (fun _ => rfl) (by decide) (by decide) (by omega) (by omega) hRW15) gX5_goesBehind_X3_turn ⟨_, rfl⟩ rfl (by omega) (show (16 : Int) < 17 by omega) rfl ⟨rfl, rfl⟩ 2 (by decide +kernel) ⟨by decide, by decide⟩ rfl rfl (Nat.le_of_ble_eq_true rfl) dX5_goesBehind_51 rfl (kd_i (fun r4 S4 hp4 => ?_))
          obtain ⟨hg4, hp4⟩ := hp4
          have hfS4 : Fr fA S S4 := hfW15.trans (hg4.mono (fun k i j h => by unfold fCl at h; unfold fA; omega))
          have hRS4 := hRS.fr (hfS4.mono (fun k i j h => by unfold fA at h; unfold tC; omega))
          have hnS4 := hRS4.n
          have enS4 : S4 3 16 2 = S 3 16 2 := hfS4 3 16 2 (by unfold fA; omega)
          obtain ⟨q1, q2, q3⟩ := hp4
          have e5 : W15 5 16 = S 5 16 := funext fun j => hfW15 5 16 j (by unfold fA; omega)
          rw [e5, enW15] at q1 q2
          have hbb := bz_in (-1000000000000 ≤ nl (tvc (S 5 16) (W15 11 0) (S 2 p x) (S 3 16 2)) ∧ nl (tvc (S 5 16) (W15 11 0) (S 2 p x) (S 3 16 2)) ≤ 1000000000000)
          have hB2 := hB.goC hRS.set hw (by omega) (by omega) hz6 c32 q2 q3
          refine kw_if_ne (tgt := 60) hC dX5_goesBehind_54 rfl (by decide) (by omega) ⟨fun c54 => ?_, fun c54 => ?_⟩
          · refine kw_iinc (lv' := [(3, _), (0, _), (1, _), (2, _)]) hC dX5_goesBehind_60 rfl 3 rfl (by decide) rfl ?_
            refine kw_goto (tgt := 15) hC dX5_goesBehind_63 rfl (by decide) ?_
            refine kw_lv [1, 2, 3, 0] rfl ?_
            exact ih15 (x + -1) S4 hfS4 (by omega) (by omega) (fun j j0 j1 => by rw [q3 j (by omega)]; exact hz6 j j0 j1) (by rw [show x + -1 = x - 1 by omega]; exact (hB2.resolve_left (fun z => by rw [bz_f z.1] at q1; omega)).2) (by omega)
          · refine kw_bipush hC dX5_goesBehind_57 rfl (by decide) ?_
            exact hR9.1 rfl _ _ _ _ dX5_goesBehind_59 ⟨_, rfl, hfS4, by rcases hB2 with z | z; exact z.2.symm; (rw [bz_t z.1] at q1; omega)⟩
        · refine kw_iload_n hC dX5_goesBehind_35 rfl 3 rfl ?_
          exact hR9.1 rfl _ _ _ _ dX5_goesBehind_36 ⟨_, rfl, hfW15, (hB.hitC hRS.set hw (by omega) (by omega) hz6 c32).symm⟩
  refine kw_lv [1, 2, 3, 0] rfl ?_
  exact hL15 101 (S 1 p 1 - 1) S1 hfS1 (by omega) (by omega) (fun j j0 j1 => by rw [hp1 j (by omega) j1, if_neg (by omega)]) (BhT.st hRS.n m0 a0 a1 (fun j j0 j1 => hp1 j j0 (by omega))) (by omega)

set_option maxHeartbeats 4000000 in
set_option maxRecDepth 100000 in
theorem f_X5_goesAhead {g : wG} (hD : wD g) {S : wSt} {p a : Int} (p0 : 0 ≤ p) (p1 : p < 12) (a0 : 0 ≤ a) (a1 : a < S 3 16 2) (hRS : CI S) (hw : WV (S 2 p) (S 1 p 1) (S 3 16 2)) (m0 : 0 ≤ S 1 p 1) (m1 : S 1 p 1 ≤ 100) (l : Launch) : Kt l yX5_goesAhead wsX5_goesAhead ({ frames := 2, cells := 0, slots := 0, locals := 49 } : Room) g S [vr g 10 0, vr g 1 p, vi a] (pI (fun r S' => Fr fA S S' ∧ (r = ah (kM S) (kn S) (kP S p) a.toNat))) := by
  refine Kt.of (cc := cX5_goesAhead) (nL := 4) (ret := (some .int)) (own := RX5) rfl hD (by decide) rfl (Nat.le_of_ble_eq_true rfl) ⟨rfl, rfl⟩ ?_
  intro E hC hR9
  have f9 : Cond.fieldLink RX5 9 "MirrorBench$Shortener" "root" "[J" ∈ wsX5_goesAhead := by decide +kernel
  have f22 : Cond.fieldLink RX5 22 "MirrorBench$Shortener" "set" "LMirrorBench$Mirrors;" ∈ wsX5_goesAhead := by decide +kernel
  have f30 : Cond.fieldLink RX5 30 "MirrorBench$Word" "length" "I" ∈ wsX5_goesAhead := by decide +kernel
  have f34 : Cond.fieldLink RX5 34 "MirrorBench$Word" "mirrors" "[I" ∈ wsX5_goesAhead := by decide +kernel
  have w5 : ∀ w ∈ wsX50, w ∈ wsX5_goesAhead := by decide +kernel
  have w6 : ∀ w ∈ wsX60, w ∈ wsX5_goesAhead := by decide +kernel
  show Wk E g 4 S 0 [(0, vr g 10 0), (1, vr g 1 p), (2, vi a)] []
  have hfS : Fr fA S S := Fr.rfl _ S
  have hRS := hRS.fr (hfS.mono (fun k i j h => by unfold fA at h; unfold tC; omega))
  have hnS := hRS.n
  have enS : S 3 16 2 = S 3 16 2 := hfS 3 16 2 (by unfold fA; omega)
  have hn9 := hRS.n
  refine kw_aload_n hC dX5_goesAhead_0 rfl 0 rfl ?_
  refine kg_10_1 hC w5 f9 dX5_goesAhead_1 rfl (by decide) (by decide) ?_
  refine kw_iload_n hC dX5_goesAhead_4 rfl 2 rfl ?_
  refine kw_callSN (host := RX7) hC (d_X7_setOwn hD (c := 11) (w := 0) (fun _ => rfl) (by decide) (by decide) (by omega) (by omega)) (by decide +kernel) (by decide +kernel) (by decide +kernel) ggX5_goesAhead_X7_setOwn rfl ⟨rfl, rfl⟩ 2 (by decide +kernel) ⟨by decide, by decide⟩ rfl rfl (Nat.le_of_ble_eq_true rfl) dX5_goesAhead_5 rfl (kd_v (fun S1 hp1 => ?_))
  obtain ⟨hg1, hp1⟩ := hp1
  have hfS1 : Fr fA S S1 := hfS.trans (hg1.mono (fun k i j h => by unfold fCl at h; unfold fA; omega))
  have hRS1 := hRS.fr (hfS1.mono (fun k i j h => by unfold fA at h; unfold tC; omega))
  have hnS1 := hRS1.n
  have enS1 : S1 3 16 2 = S 3 16 2 := hfS1 3 16 2 (by unfold fA; omega)
  refine kw_iconst hC dX5_goesAhead_8 rfl ?_
  refine kw_istore_n (lv' := [(3, _), (0, _), (1, _), (2, _)]) hC dX5_goesAhead_9 rfl (by decide) rfl ?_
  have hL10 : ∀ (n10 : Nat) (x : Int) (W10 : wSt), Fr fA S W10 → (0 ≤ x) → (x ≤ S 1 p 1) → (∀ j, S 3 16 2 ≤ j → j < 6 → W10 11 0 j = 0) → (AhT (S 5 16) (S 2 p) (S 1 p 1) (S 3 16 2) (W10 11 0) (ah (kM S) (kn S) (kP S p) a.toNat) x) → S 1 p 1 - x < (n10 : Int) → Wk E g 4 W10 10 [(0, vr g 10 0), (1, vr g 1 p), (2, vi a), (3, vi x)] [] := by
    intro n10
    induction n10 with
    | zero => intro x W10 hfW10 x0 x1 hz6 hB hm10; exact absurd hm10 (by omega)
    | succ n10 ih10 =>
      intro x W10 hfW10 x0 x1 hz6 hB hm10
      have hRW10 := hRS.fr (hfW10.mono (fun k i j h => by unfold fA at h; unfold tC; omega))
      have hnW10 := hRW10.n
      have enW10 : W10 3 16 2 = S 3 16 2 := hfW10 3 16 2 (by unfold fA; omega)
      refine kw_iload_n hC dX5_goesAhead_10 rfl 3 rfl ?_
      refine kw_aload_n hC dX5_goesAhead_11 rfl 1 rfl ?_
      refine kg_1_1 hC w6 f30 dX5_goesAhead_12 rfl (by omega) (by omega) ?_
      refine kw_chi (z' := S 1 p 1) (hfW10 1 p 1 (by unfold fA; omega)) ?_
      refine kw_icmp_ge (tgt := 65) hC dX5_goesAhead_15 rfl (by decide) (by omega) (by omega) ⟨fun c15 => ?_, fun c15 => ?_⟩
      · refine kw_iconst hC dX5_goesAhead_65 rfl ?_
        exact hR9.1 rfl _ _ _ _ dX5_goesAhead_66 ⟨_, rfl, hfW10, (hB.end' (by omega)).symm⟩
      · refine kw_aload_n hC dX5_goesAhead_18 rfl 0 rfl ?_
        refine kg_10_1 hC w5 f9 dX5_goesAhead_19 rfl (by decide) (by decide) ?_
        refine kw_aload_n hC dX5_goesAhead_22 rfl 1 rfl ?_
        refine kg_1_0 hC w6 f34 dX5_goesAhead_23 rfl (by omega) (by omega) ?_
        refine kw_iload_n hC dX5_goesAhead_26 rfl 3 rfl ?_
        refine ka_2 hC dX5_goesAhead_27 rfl (by omega) (by omega) (by omega) (by omega) ?_
        refine kw_chi (z' := S 2 p x) (hfW10 2 p x (by unfold fA; omega)) ?_
        have hl := hw x (by omega) (by omega)
        refine kw_callSN (host := RX7) hC (d_X7_isOwn hD (c := 11) (w := 0) (fun _ => rfl) (by decide) (by decide) (by omega) (by omega)) (by decide +kernel) (by decide +kernel) (by decide +kernel) ggX5_goesAhead_X7_isOwn rfl ⟨rfl, rfl⟩ 2 (by decide +kernel) ⟨by decide, by decide⟩ rfl rfl (Nat.le_of_ble_eq_true rfl) dX5_goesAhead_28 rfl (kd_ie ?_)
        refine kw_ifeq_b (tgt := 36) hC dX5_goesAhead_31 rfl (by decide) ⟨fun c31 => ?_, fun c31 => ?_⟩
        · refine kw_aload_n hC dX5_goesAhead_36 rfl 0 rfl ?_
          refine kg_10_0 hC w5 f22 dX5_goesAhead_37 rfl (by decide) (by decide) ?_
          refine kw_aload_n hC dX5_goesAhead_40 rfl 0 rfl ?_
          refine kg_10_1 hC w5 f9 dX5_goesAhead_41 rfl (by decide) (by decide) ?_
          refine kw_aload_n hC dX5_goesAhead_44 rfl 1 rfl ?_
          refine kg_1_0 hC w6 f34 dX5_goesAhead_45 rfl (by omega) (by omega) ?_
          refine kw_iload_n hC dX5_goesAhead_48 rfl 3 rfl ?_
          refine ka_2 hC dX5_goesAhead_49 rfl (by omega) (by omega) (by omega) (by omega) ?_
          refine kw_chi (z' := S 2 p x) (hfW10 2 p x (by unfold fA; omega)) ?_
          have hl := hw x (by omega) (by omega)
          refine kw_callV hC (d_X3_turn hD (c := 11) (w := 0) (fun _ => rfl) (by decide) (by decide) (by omega) (by omega) hRW10) gX5_goesAhead_X3_turn ⟨_, rfl⟩ rfl (by omega) (show (16 : Int) < 17 by omega) rfl ⟨rfl, rfl⟩ 2 (by decide +kernel) ⟨by decide, by decide⟩ rfl rfl (Nat.le_of_ble_eq_true rfl) dX5_goesAhead_50 rfl (kd_i (fun r4 S4 hp4 => ?_))
          obtain ⟨hg4, hp4⟩ := hp4
          have hfS4 : Fr fA S S4 := hfW10.trans (hg4.mono (fun k i j h => by unfold fCl at h; unfold fA; omega))
          have hRS4 := hRS.fr (hfS4.mono (fun k i j h => by unfold fA at h; unfold tC; omega))
          have hnS4 := hRS4.n
          have enS4 : S4 3 16 2 = S 3 16 2 := hfS4 3 16 2 (by unfold fA; omega)
          obtain ⟨q1, q2, q3⟩ := hp4
          have e5 : W10 5 16 = S 5 16 := funext fun j => hfW10 5 16 j (by unfold fA; omega)
          rw [e5, enW10] at q1 q2
          have hbb := bz_in (-1000000000000 ≤ nl (tvc (S 5 16) (W10 11 0) (S 2 p x) (S 3 16 2)) ∧ nl (tvc (S 5 16) (W10 11 0) (S 2 p x) (S 3 16 2)) ≤ 1000000000000)
          have hB2 := hB.goC hRS.set hw (by omega) (by omega) hz6 c31 q2 q3
          refine kw_if_ne (tgt := 59) hC dX5_goesAhead_53 rfl (by decide) (by omega) ⟨fun c53 => ?_, fun c53 => ?_⟩
          · refine kw_iinc (lv' := [(3, _), (0, _), (1, _), (2, _)]) hC dX5_goesAhead_59 rfl 3 rfl (by decide) rfl ?_
            refine kw_goto (tgt := 10) hC dX5_goesAhead_62 rfl (by decide) ?_
            refine kw_lv [1, 2, 3, 0] rfl ?_
            exact ih10 (x + 1) S4 hfS4 (by omega) (by omega) (fun j j0 j1 => by rw [q3 j (by omega)]; exact hz6 j j0 j1) (hB2.resolve_left (fun z => by rw [bz_f z.1] at q1; omega)).2 (by omega)
          · refine kw_bipush hC dX5_goesAhead_56 rfl (by decide) ?_
            exact hR9.1 rfl _ _ _ _ dX5_goesAhead_58 ⟨_, rfl, hfS4, by rcases hB2 with z | z; exact z.2.symm; (rw [bz_t z.1] at q1; omega)⟩
        · refine kw_iload_n hC dX5_goesAhead_34 rfl 3 rfl ?_
          exact hR9.1 rfl _ _ _ _ dX5_goesAhead_35 ⟨_, rfl, hfW10, (hB.hitC hRS.set hw (by omega) (by omega) hz6 c31).symm⟩
  refine kw_lv [1, 2, 3, 0] rfl ?_
  exact hL10 101 0 S1 hfS1 (by omega) (by omega) (fun j j0 j1 => by rw [hp1 j (by omega) j1, if_neg (by omega)]) (AhT.st hRS.n a0 a1 (fun j j0 j1 => hp1 j j0 (by omega))) (by omega)

set_option maxHeartbeats 4000000 in
set_option maxRecDepth 100000 in
theorem f_X5_makeShort {g : wG} (hD : wD g) {S : wSt} {p q : Int} (p0 : 0 ≤ p) (p1 : p < 12) (q0 : 8 ≤ q) (q1 : q < 12) (hpq : p ≠ q) (hRS : CI S) (hw : WV (S 2 p) (S 1 p 1) (S 3 16 2)) (m0 : 0 ≤ S 1 p 1) (m1 : S 1 p 1 ≤ 100) (l : Launch) : Kt l yX5_makeShort wsX5_makeShort ({ frames := 3, cells := 0, slots := 0, locals := 72 } : Room) g S [vr g 10 0, vr g 1 p, vr g 1 q] (pI (fun r S' => Fr (fMs q) S S' ∧ ((0 ≤ S' 1 q 1 ∧ S' 1 q 1 ≤ S 1 p 1) ∧ WV (S' 2 q) (S' 1 q 1) (S 3 16 2) ∧ ((r = 0 ∧ shoP (kM S) (kn S) [] (kP S p) = none) ∨ (r = 1 ∧ shoP (kM S) (kn S) [] (kP S p) = some (kP S' q)))))) := by
  refine Kt.of (cc := cX5_makeShort) (nL := 5) (ret := (some .boolean)) (own := RX5) rfl hD (by decide) rfl (Nat.le_of_ble_eq_true rfl) ⟨rfl, rfl⟩ ?_
  intro E hC hR9
  have f30 : Cond.fieldLink RX5 30 "MirrorBench$Word" "length" "I" ∈ wsX5_makeShort := by decide +kernel
  have f34 : Cond.fieldLink RX5 34 "MirrorBench$Word" "mirrors" "[I" ∈ wsX5_makeShort := by decide +kernel
  have w6 : ∀ w ∈ wsX60, w ∈ wsX5_makeShort := by decide +kernel
  show Wk E g 5 S 0 [(0, vr g 10 0), (1, vr g 1 p), (2, vr g 1 q)] []
  have hfS : Fr (fMs q) S S := Fr.rfl _ S
  have hRS := hRS.fr (hfS.mono (fun k i j h => by unfold fMs at h; unfold tC; omega))
  have hnS := hRS.n
  have enS : S 3 16 2 = S 3 16 2 := hfS 3 16 2 (by unfold fMs; omega)
  have eNS : kn S = kn S := kn_eq enS
  have eMS : kM S = kM S := kM_eq enS (fun j => hfS 5 16 j (by unfold fMs; omega))
  refine kw_aload_n hC dX5_makeShort_0 rfl 2 rfl ?_
  refine kw_iconst hC dX5_makeShort_1 rfl ?_
  refine kp_1_1 hC w6 f30 dX5_makeShort_2 rfl (by omega) (by omega) ?_
  refine kw_hv hfS (by unfold fMs; omega) (fun S1 hfS1 hv1 ho1 => ?_)
  have hRS1 := hRS.fr (hfS1.mono (fun k i j h => by unfold fMs at h; unfold tC; omega))
  have hnS1 := hRS1.n
  have enS1 : S1 3 16 2 = S 3 16 2 := hfS1 3 16 2 (by unfold fMs; omega)
  have eNS1 : kn S1 = kn S := kn_eq enS1
  have eMS1 : kM S1 = kM S := kM_eq enS1 (fun j => hfS1 5 16 j (by unfold fMs; omega))
  refine kw_iconst hC dX5_makeShort_5 rfl ?_
  refine kw_istore_n (lv' := [(3, _), (0, _), (1, _), (2, _)]) hC dX5_makeShort_6 rfl (by decide) rfl ?_
  have hL7 : ∀ (n7 : Nat) (x : Int) (W7 : wSt), Fr (fMs q) S W7 → (0 ≤ x) → (x ≤ S 1 p 1) → (0 ≤ W7 1 q 1) → (W7 1 q 1 ≤ x) → (WV (W7 2 q) (W7 1 q 1) (S 3 16 2)) → (shoP (kM S) (kn S) (kP W7 q) ((wl (S 2 p) (S 1 p 1).toNat).drop x.toNat) = shoP (kM S) (kn S) [] (kP S p)) → S 1 p 1 - x < (n7 : Int) → Wk E g 5 W7 7 [(0, vr g 10 0), (1, vr g 1 p), (2, vr g 1 q), (3, vi x)] [] := by
    intro n7
    induction n7 with
    | zero => intro x W7 hfW7 x0 x1 l0 l1 hr hs hm7; exact absurd hm7 (by omega)
    | succ n7 ih7 =>
      intro x W7 hfW7 x0 x1 l0 l1 hr hs hm7
      have hRW7 := hRS.fr (hfW7.mono (fun k i j h => by unfold fMs at h; unfold tC; omega))
      have hnW7 := hRW7.n
      have enW7 : W7 3 16 2 = S 3 16 2 := hfW7 3 16 2 (by unfold fMs; omega)
      have eNW7 : kn W7 = kn S := kn_eq enW7
      have eMW7 : kM W7 = kM S := kM_eq enW7 (fun j => hfW7 5 16 j (by unfold fMs; omega))
      refine kw_iload_n hC dX5_makeShort_7 rfl 3 rfl ?_
      refine kw_aload_n hC dX5_makeShort_8 rfl 1 rfl ?_
      refine kg_1_1 hC w6 f30 dX5_makeShort_9 rfl (by omega) (by omega) ?_
      refine kw_chi (z' := S 1 p 1) (hfW7 1 p 1 (by unfold fMs; omega)) ?_
      refine kw_icmp_ge (tgt := 68) hC dX5_makeShort_12 rfl (by decide) (by omega) (by omega) ⟨fun c12 => ?_, fun c12 => ?_⟩
      · refine kw_iconst hC dX5_makeShort_68 rfl ?_
        exact hR9.2.1 rfl _ _ _ _ dX5_makeShort_69 (by omega) ⟨_, rfl, hfW7, ⟨by omega, by omega⟩, hr, Or.inr ⟨rfl, shoP_end hs (by omega)⟩⟩
      · refine kw_aload_n hC dX5_makeShort_15 rfl 0 rfl ?_
        refine kw_aload_n hC dX5_makeShort_16 rfl 2 rfl ?_
        refine kw_aload_n hC dX5_makeShort_17 rfl 1 rfl ?_
        refine kg_1_0 hC w6 f34 dX5_makeShort_18 rfl (by omega) (by omega) ?_
        refine kw_iload_n hC dX5_makeShort_21 rfl 3 rfl ?_
        refine ka_2 hC dX5_makeShort_22 rfl (by omega) (by omega) (by omega) (by omega) ?_
        refine kw_chi (z' := S 2 p x) (hfW7 2 p x (by unfold fMs; omega)) ?_
        have hl := hw x (by omega) (by omega)
        have hgo := shoP_go hs (by omega) (by omega)
        refine kw_callV hC (f_X5_goesBehind hD (by omega) (by omega) (by omega) (by omega) hRW7 (hr.eq (fun _ _ _ => rfl) rfl enW7) (by omega) (by omega)) gX5_makeShort_X5_goesBehind ⟨_, rfl⟩ rfl (by decide) (by decide) rfl ⟨rfl, rfl⟩ 2 (by decide +kernel) ⟨by decide, by decide⟩ rfl rfl (Nat.le_of_ble_eq_true rfl) dX5_makeShort_23 rfl (kd_i (fun r3 S3 hp3 => ?_))
        obtain ⟨hg3, hp3⟩ := hp3
        have hfS3 : Fr (fMs q) S S3 := hfW7.trans (hg3.mono (fun k i j h => by unfold fA at h; unfold fMs; omega))
        have hRS3 := hRS.fr (hfS3.mono (fun k i j h => by unfold fMs at h; unfold tC; omega))
        have hnS3 := hRS3.n
        have enS3 : S3 3 16 2 = S 3 16 2 := hfS3 3 16 2 (by unfold fMs; omega)
        have eNS3 : kn S3 = kn S := kn_eq enS3
        have eMS3 : kM S3 = kM S := kM_eq enS3 (fun j => hfS3 5 16 j (by unfold fMs; omega))
        rw [eMW7, eNW7] at hp3
        have hbr := bh_r (kM S) (kn S) (kP W7 q) (S 2 p x).toNat
        have hlr := kP_len (S := W7) (p := q) (by omega)
        have e1_3 : S3 1 q 1 = W7 1 q 1 := hg3 1 q 1 (by unfold fA; omega)
        have eK9 : kP S3 q = kP W7 q := kP_eq e1_3 (fun j => hg3 2 q j (by unfold fA; omega))
        replace hr : WV (S3 2 q) (S3 1 q 1) (S 3 16 2) := hr.eq (fun j _ _ => hg3 2 q j (by unfold fA; omega)) e1_3 rfl
        rw [← eK9] at hp3 hgo hbr hlr
        have hk9 := hp3
        refine kw_istore (lv' := [(4, _), (0, _), (1, _), (2, _), (3, _)]) hC dX5_makeShort_26 rfl (by decide) rfl ?_
        refine kw_iload hC dX5_makeShort_28 rfl 0 rfl ?_
        refine kw_bipush hC dX5_makeShort_30 rfl (by decide) ?_
        refine kw_icmp_ne (tgt := 37) hC dX5_makeShort_32 rfl (by decide) (by omega) (by omega) ⟨fun c32 => ?_, fun c32 => ?_⟩
        · refine kw_iload hC dX5_makeShort_37 rfl 0 rfl ?_
          refine kw_iconst hC dX5_makeShort_39 rfl ?_
          refine kw_icmp_ne (tgt := 56) hC dX5_makeShort_40 rfl (by decide) (by omega) (by omega) ⟨fun c40 => ?_, fun c40 => ?_⟩
          · refine kw_aload_n hC dX5_makeShort_56 rfl 3 rfl ?_
            refine kw_iload hC dX5_makeShort_57 rfl 0 rfl ?_
            refine kw_callV hC (d_X6_removeAt hD (by omega) (by omega) (by omega) (by omega) (by omega)) gX5_makeShort_X6_removeAt ⟨_, rfl⟩ rfl (by omega) (show (_ : Int) < 12 by omega) rfl ⟨rfl, rfl⟩ 1 (by decide +kernel) ⟨by decide, by decide⟩ rfl rfl (Nat.le_of_ble_eq_true rfl) dX5_makeShort_59 rfl (kd_v (fun S6 hp6 => ?_))
            obtain ⟨hg6, hp6⟩ := hp6
            have hfS6 : Fr (fMs q) S S6 := hfS3.trans (hg6.mono (fun k i j h => by unfold fWd at h; unfold fMs; omega))
            have hRS6 := hRS.fr (hfS6.mono (fun k i j h => by unfold fMs at h; unfold tC; omega))
            have hnS6 := hRS6.n
            have enS6 : S6 3 16 2 = S 3 16 2 := hfS6 3 16 2 (by unfold fMs; omega)
            have eNS6 : kn S6 = kn S := kn_eq enS6
            have eMS6 : kM S6 = kM S := kM_eq enS6 (fun j => hfS6 5 16 j (by unfold fMs; omega))
            obtain ⟨y1, y2, y3⟩ := hp6
            replace hr : WV (S6 2 q) (S6 1 q 1) (S 3 16 2) := y1 ▸ WV.del hr y2 y3 (by omega)
            have hs9 : shoP (kM S) (kn S) (kP S6 q) ((wl (S 2 p) (S 1 p 1).toNat).drop (x + 1).toNat) = shoP (kM S) (kn S) [] (kP S p) := by rw [show kP S6 q = (kP S3 q).eraseIdx _ from (wl_eq y1 (fun _ _ _ => rfl)).trans (wl_del (by omega) (by omega) y2 y3), hk9]; exact hgo.2.2 (by omega)
            refine kw_iinc (lv' := [(3, _), (4, _), (0, _), (1, _), (2, _)]) hC dX5_makeShort_62 rfl 4 rfl (by decide) rfl ?_
            refine kw_goto (tgt := 7) hC dX5_makeShort_65 rfl (by decide) ?_
            refine kw_lv [2, 3, 4, 0] rfl ?_
            exact ih7 (x + 1) S6 hfS6 (by omega) (by omega) (by omega) (by omega) hr hs9 (by omega)
          · refine kw_aload_n hC dX5_makeShort_43 rfl 3 rfl ?_
            refine kw_aload_n hC dX5_makeShort_44 rfl 2 rfl ?_
            refine kg_1_0 hC w6 f34 dX5_makeShort_45 rfl (by omega) (by omega) ?_
            refine kw_iload_n hC dX5_makeShort_48 rfl 4 rfl ?_
            refine ka_2 hC dX5_makeShort_49 rfl (by omega) (by omega) (by omega) (by omega) ?_
            refine kw_chi (z' := S 2 p x) (hfS3 2 p x (by unfold fMs; omega)) ?_
            refine kw_callV hC (d_X6_add hD (by omega) (by omega) (by omega) (by omega)) gX5_makeShort_X6_add ⟨_, rfl⟩ rfl (by omega) (show (_ : Int) < 12 by omega) rfl ⟨rfl, rfl⟩ 1 (by decide +kernel) ⟨by decide, by decide⟩ rfl rfl (Nat.le_of_ble_eq_true rfl) dX5_makeShort_50 rfl (kd_v (fun S7 hp7 => ?_))
            obtain ⟨hg7, hp7⟩ := hp7
            have hfS7 : Fr (fMs q) S S7 := hfS3.trans (hg7.mono (fun k i j h => by unfold fWd at h; unfold fMs; omega))
            have hRS7 := hRS.fr (hfS7.mono (fun k i j h => by unfold fMs at h; unfold tC; omega))
            have hnS7 := hRS7.n
            have enS7 : S7 3 16 2 = S 3 16 2 := hfS7 3 16 2 (by unfold fMs; omega)
            have eNS7 : kn S7 = kn S := kn_eq enS7
            have eMS7 : kM S7 = kM S := kM_eq enS7 (fun j => hfS7 5 16 j (by unfold fMs; omega))
            obtain ⟨y1, y2, y3⟩ := hp7
            replace hr : WV (S7 2 q) (S7 1 q 1) (S 3 16 2) := y1 ▸ hr.add (fun j hj => y3 j hj) (by rw [y2]; exact hl)
            have hs9 : shoP (kM S) (kn S) (kP S7 q) ((wl (S 2 p) (S 1 p 1).toNat).drop (x + 1).toNat) = shoP (kM S) (kn S) [] (kP S p) := by rw [show kP S7 q = kP S3 q ++ [(S 2 p x).toNat] from (wl_eq y1 (fun _ _ _ => rfl)).trans (wl_add (by omega) (fun j _ hj => y3 j (by omega)) y2)]; exact hgo.2.1 (by omega)
            refine kw_goto (tgt := 62) hC dX5_makeShort_53 rfl (by decide) ?_
            refine kw_iinc (lv' := [(3, _), (4, _), (0, _), (1, _), (2, _)]) hC dX5_makeShort_62 rfl 4 rfl (by decide) rfl ?_
            refine kw_goto (tgt := 7) hC dX5_makeShort_65 rfl (by decide) ?_
            refine kw_lv [2, 3, 4, 0] rfl ?_
            exact ih7 (x + 1) S7 hfS7 (by omega) (by omega) (by omega) (by omega) hr hs9 (by omega)
        · refine kw_iconst hC dX5_makeShort_35 rfl ?_
          exact hR9.2.1 rfl _ _ _ _ dX5_makeShort_36 (by omega) ⟨_, rfl, hfS3, ⟨by omega, by omega⟩, hr, Or.inl ⟨rfl, hgo.1 (by omega)⟩⟩
  refine kw_lv [1, 2, 3, 0] rfl ?_
  exact hL7 101 0 S1 hfS1 (by omega) (by omega) (by have := hv1; omega) (by have := hv1; omega) (fun j _ _ => by have := hv1; omega) (by rw [show kP S1 q = [] from by unfold kP; rw [hv1]; rfl]; rfl) (by omega)

set_option maxHeartbeats 4000000 in
set_option maxRecDepth 100000 in
theorem f_X5_takeLeastDown {g : wG} (hD : wD g) {S : wSt} {p b : Int} (p0 : 8 ≤ p) (p1 : p < 12) (hRS : CI S) (hw : WV (S 2 p) (S 1 p 1) (S 3 16 2)) (m0 : 0 ≤ S 1 p 1) (m1 : S 1 p 1 ≤ 100) (l : Launch) : Kt l yX5_takeLeastDown wsX5_takeLeastDown ({ frames := 3, cells := 0, slots := 0, locals := 72 } : Room) g S [vr g 10 0, vr g 1 p, vi b] (pI (fun r S' => Fr (fMs p) S S' ∧ (r < S 3 16 2 ∧ WV (S' 2 p) (S' 1 p 1) (S 3 16 2) ∧ (((ldn (kM S) (kn S) (bJ b) (kP S p) (kn S)).2 = -4 ∧ r = -4 ∧ S' 1 p 1 = S 1 p 1 ∧ kP S' p = kP S p) ∨ ((ldn (kM S) (kn S) (bJ b) (kP S p) (kn S)).2 = -1 ∧ r = -1 ∧ S' 1 p 1 = S 1 p 1 ∧ kP S' p = kP S p) ∨ (0 ≤ (ldn (kM S) (kn S) (bJ b) (kP S p) (kn S)).2 ∧ r = ((ldn (kM S) (kn S) (bJ b) (kP S p) (kn S)).1 : Int) ∧ S' 1 p 1 = S 1 p 1 - 1 ∧ 0 ≤ S' 1 p 1 ∧ kP S' p = (kP S p).eraseIdx (ldn (kM S) (kn S) (bJ b) (kP S p) (kn S)).2.toNat))))) := by
  refine Kt.of (cc := cX5_takeLeastDown) (nL := 5) (ret := (some .int)) (own := RX5) rfl hD (by decide) rfl (Nat.le_of_ble_eq_true rfl) ⟨rfl, rfl⟩ ?_
  intro E hC hR9
  have f22 : Cond.fieldLink RX5 22 "MirrorBench$Shortener" "set" "LMirrorBench$Mirrors;" ∈ wsX5_takeLeastDown := by decide +kernel
  have f69 : Cond.fieldLink RX5 69 "MirrorBench$Mirrors" "size" "I" ∈ wsX5_takeLeastDown := by decide +kernel
  have w3 : ∀ w ∈ wsX30, w ∈ wsX5_takeLeastDown := by decide +kernel
  have w5 : ∀ w ∈ wsX50, w ∈ wsX5_takeLeastDown := by decide +kernel
  show Wk E g 5 S 0 [(0, vr g 10 0), (1, vr g 1 p), (2, vi b)] []
  have hfS : Fr (fMs p) S S := Fr.rfl _ S
  have hRS := hRS.fr (hfS.mono (fun k i j h => by unfold fMs at h; unfold tC; omega))
  have hnS := hRS.n
  have enS : S 3 16 2 = S 3 16 2 := hfS 3 16 2 (by unfold fMs; omega)
  have eNS : kn S = kn S := kn_eq enS
  have eMS : kM S = kM S := kM_eq enS (fun j => hfS 5 16 j (by unfold fMs; omega))
  have hkn : kn S = (S 3 16 2).toNat := rfl
  have hnS := hRS.n
  refine kw_iconst hC dX5_takeLeastDown_0 rfl ?_
  refine kw_istore_n (lv' := [(3, _), (0, _), (1, _), (2, _)]) hC dX5_takeLeastDown_1 rfl (by decide) rfl ?_
  have hL2 : ∀ (n2 : Nat) (s : Int) (W2 : wSt), Fr (fMs p) S W2 → (0 ≤ s) → (s ≤ S 3 16 2) → (W2 1 p 1 = S 1 p 1) → (WV (W2 2 p) (W2 1 p 1) (S 3 16 2)) → (s ≤ 6) → (kP W2 p = kP S p) → (ldn (kM S) (kn S) (bJ b) (kP S p) (kn S - s.toNat) = ldn (kM S) (kn S) (bJ b) (kP S p) (kn S)) → 6 - s < (n2 : Int) → Wk E g 5 W2 2 [(0, vr g 10 0), (1, vr g 1 p), (2, vi b), (3, vi s)] [] := by
    intro n2
    induction n2 with
    | zero => intro s W2 hfW2 s0 s1 l1 hr s6 hK hd hm2; exact absurd hm2 (by omega)
    | succ n2 ih2 =>
      intro s W2 hfW2 s0 s1 l1 hr s6 hK hd hm2
      have hRW2 := hRS.fr (hfW2.mono (fun k i j h => by unfold fMs at h; unfold tC; omega))
      have hnW2 := hRW2.n
      have enW2 : W2 3 16 2 = S 3 16 2 := hfW2 3 16 2 (by unfold fMs; omega)
      have eNW2 : kn W2 = kn S := kn_eq enW2
      have eMW2 : kM W2 = kM S := kM_eq enW2 (fun j => hfW2 5 16 j (by unfold fMs; omega))
      refine kw_iload_n hC dX5_takeLeastDown_2 rfl 3 rfl ?_
      refine kw_aload_n hC dX5_takeLeastDown_3 rfl 0 rfl ?_
      refine kg_10_0 hC w5 f22 dX5_takeLeastDown_4 rfl (by decide) (by decide) ?_
      refine kg_3_2 hC w3 f69 dX5_takeLeastDown_7 rfl (by omega) (by omega) ?_
      refine kw_icmp_ge (tgt := 64) hC dX5_takeLeastDown_10 rfl (by decide) (by omega) (by omega) ⟨fun c10 => ?_, fun c10 => ?_⟩
      · refine kw_iconst hC dX5_takeLeastDown_64 rfl ?_
        exact hR9.1 rfl _ _ _ _ dX5_takeLeastDown_65 ⟨_, rfl, hfW2, by omega, hr, Or.inr (Or.inl ⟨ldn_0 hd (by omega), rfl, by omega, hK⟩)⟩
      · have hds := ldn_s hd s0 (by omega)
        refine kw_iload_n hC dX5_takeLeastDown_13 rfl 2 rfl ?_
        refine kw_iload_n hC dX5_takeLeastDown_14 rfl 3 rfl ?_
        refine kw_ishrX hC dX5_takeLeastDown_15 rfl ?_
        refine kw_iconst hC dX5_takeLeastDown_16 rfl ?_
        refine kw_iandX hC dX5_takeLeastDown_17 rfl ?_
        refine kw_iconst hC dX5_takeLeastDown_18 rfl ?_
        refine kw_icmp_ne (tgt := 31) hC dX5_takeLeastDown_19 rfl (by decide) (xi_r _) (by omega) ⟨fun c19 => ?_, fun c19 => ?_⟩
        · refine kw_iconst hC dX5_takeLeastDown_31 rfl ?_
          refine kw_istore (lv' := [(4, _), (0, _), (1, _), (2, _), (3, _)]) hC dX5_takeLeastDown_32 rfl (by decide) rfl ?_
          refine kw_iload hC dX5_takeLeastDown_34 rfl 0 rfl ?_
          refine kw_bipush hC dX5_takeLeastDown_36 rfl (by decide) ?_
          refine kw_icmp_ne (tgt := 44) hC dX5_takeLeastDown_38 rfl (by decide) (by omega) (by omega) ⟨fun c38 => ?_, fun c38 => ?_⟩
          · refine kw_iload hC dX5_takeLeastDown_44 rfl 0 rfl ?_
            refine kw_iconst hC dX5_takeLeastDown_46 rfl ?_
            refine kw_icmp_eq (tgt := 58) hC dX5_takeLeastDown_47 rfl (by decide) (by omega) (by omega) ⟨fun c47 => ?_, fun c47 => ?_⟩
            · refine kw_iinc (lv' := [(3, _), (4, _), (0, _), (1, _), (2, _)]) hC dX5_takeLeastDown_58 rfl 4 rfl (by decide) rfl ?_
              refine kw_goto (tgt := 2) hC dX5_takeLeastDown_61 rfl (by decide) ?_
              refine kw_lv [2, 3, 4, 0] rfl ?_
              exact ih2 (s + 1) W2 hfW2 (by omega) (by omega) (by omega) hr (by omega) hK (by first | exact hds.1 (bJ_f s0 c19) | exact hds.2.1 (bJ_t s0 c19) (by omega)) (by omega)
            · refine kw_aload_n hC dX5_takeLeastDown_50 rfl 2 rfl ?_
              refine kw_iload hC dX5_takeLeastDown_51 rfl 0 rfl ?_
              refine kw_callV hC (d_X6_removeAt hD (by omega) (by omega) (by omega) (by omega) (by omega)) gX5_takeLeastDown_X6_removeAt ⟨_, rfl⟩ rfl (by omega) (show (_ : Int) < 12 by omega) rfl ⟨rfl, rfl⟩ 1 (by decide +kernel) ⟨by decide, by decide⟩ rfl rfl (Nat.le_of_ble_eq_true rfl) dX5_takeLeastDown_53 rfl (kd_v (fun S5 hp5 => ?_))
              obtain ⟨hg5, hp5⟩ := hp5
              have hfS5 : Fr (fMs p) S S5 := hfW2.trans (hg5.mono (fun k i j h => by unfold fWd at h; unfold fMs; omega))
              have hRS5 := hRS.fr (hfS5.mono (fun k i j h => by unfold fMs at h; unfold tC; omega))
              have hnS5 := hRS5.n
              have enS5 : S5 3 16 2 = S 3 16 2 := hfS5 3 16 2 (by unfold fMs; omega)
              have eNS5 : kn S5 = kn S := kn_eq enS5
              have eMS5 : kM S5 = kM S := kM_eq enS5 (fun j => hfS5 5 16 j (by unfold fMs; omega))
              obtain ⟨y1, y2, y3⟩ := hp5
              replace hr : WV (S5 2 p) (S5 1 p 1) (S 3 16 2) := y1 ▸ WV.del hr y2 y3 (by omega)
              have hK9 : kP S5 p = (kP W2 p).eraseIdx _ := (wl_eq y1 (fun _ _ _ => rfl)).trans (wl_del (by omega) (by omega) y2 y3)
              refine kw_iload_n hC dX5_takeLeastDown_56 rfl 4 rfl ?_
              exact hR9.1 rfl _ _ _ _ dX5_takeLeastDown_57 (by first | exact ⟨_, rfl, hfS5, by omega, hr, Or.inr (Or.inr (by rw [hds.2.2 (bJ_t s0 c19) (by omega)]; exact ⟨by omega, by show s = ((s.toNat : Nat) : Int); omega, by omega, by omega, by rw [hK9, hK, hb9]⟩))⟩ | (exfalso; omega))
          · refine kw_bipush hC dX5_takeLeastDown_41 rfl (by decide) ?_
            exact hR9.1 rfl _ _ _ _ dX5_takeLeastDown_43 (by first | exact ⟨_, rfl, hfW2, by omega, hr, Or.inl ⟨by rw [hds.2.2 (bJ_t s0 c19) (by omega)]; omega, rfl, by omega, hK⟩⟩ | (exfalso; omega))
        · refine kw_aload_n hC dX5_takeLeastDown_22 rfl 0 rfl ?_
          refine kw_aload_n hC dX5_takeLeastDown_23 rfl 1 rfl ?_
          refine kw_iload_n hC dX5_takeLeastDown_24 rfl 3 rfl ?_
          refine kw_callV hC (f_X5_goesAhead hD (by omega) (by omega) (by omega) (by omega) hRW2 (hr.eq (fun _ _ _ => rfl) rfl enW2) (by omega) (by omega)) gX5_takeLeastDown_X5_goesAhead ⟨_, rfl⟩ rfl (by decide) (by decide) rfl ⟨rfl, rfl⟩ 2 (by decide +kernel) ⟨by decide, by decide⟩ rfl rfl (Nat.le_of_ble_eq_true rfl) dX5_takeLeastDown_25 rfl (kd_i (fun r6 S6 hp6 => ?_))
          obtain ⟨hg6, hp6⟩ := hp6
          have hfS6 : Fr (fMs p) S S6 := hfW2.trans (hg6.mono (fun k i j h => by unfold fA at h; unfold fMs; omega))
          have hRS6 := hRS.fr (hfS6.mono (fun k i j h => by unfold fMs at h; unfold tC; omega))
          have hnS6 := hRS6.n
          have enS6 : S6 3 16 2 = S 3 16 2 := hfS6 3 16 2 (by unfold fMs; omega)
          have eNS6 : kn S6 = kn S := kn_eq enS6
          have eMS6 : kM S6 = kM S := kM_eq enS6 (fun j => hfS6 5 16 j (by unfold fMs; omega))
          rw [eMW2, eNW2, hK] at hp6
          have hb9 := hp6
          have hbr := ah_r (kM S) (kn S) (kP S p) s.toNat
          have hlr := kP_len (S := S) (p := p) (by omega)
          have e1_6 : S6 1 p 1 = W2 1 p 1 := hg6 1 p 1 (by unfold fA; omega)
          replace hK : kP S6 p = kP S p := (kP_eq e1_6 (fun j => hg6 2 p j (by unfold fA; omega))).trans hK
          replace hr : WV (S6 2 p) (S6 1 p 1) (S 3 16 2) := hr.eq (fun j _ _ => hg6 2 p j (by unfold fA; omega)) e1_6 rfl
          refine kw_goto (tgt := 32) hC dX5_takeLeastDown_28 rfl (by decide) ?_
          refine kw_istore (lv' := [(4, _), (0, _), (1, _), (2, _), (3, _)]) hC dX5_takeLeastDown_32 rfl (by decide) rfl ?_
          refine kw_iload hC dX5_takeLeastDown_34 rfl 0 rfl ?_
          refine kw_bipush hC dX5_takeLeastDown_36 rfl (by decide) ?_
          refine kw_icmp_ne (tgt := 44) hC dX5_takeLeastDown_38 rfl (by decide) (by omega) (by omega) ⟨fun c38 => ?_, fun c38 => ?_⟩
          · refine kw_iload hC dX5_takeLeastDown_44 rfl 0 rfl ?_
            refine kw_iconst hC dX5_takeLeastDown_46 rfl ?_
            refine kw_icmp_eq (tgt := 58) hC dX5_takeLeastDown_47 rfl (by decide) (by omega) (by omega) ⟨fun c47 => ?_, fun c47 => ?_⟩
            · refine kw_iinc (lv' := [(3, _), (4, _), (0, _), (1, _), (2, _)]) hC dX5_takeLeastDown_58 rfl 4 rfl (by decide) rfl ?_
              refine kw_goto (tgt := 2) hC dX5_takeLeastDown_61 rfl (by decide) ?_
              refine kw_lv [2, 3, 4, 0] rfl ?_
              exact ih2 (s + 1) S6 hfS6 (by omega) (by omega) (by omega) hr (by omega) hK (by first | exact hds.1 (bJ_f s0 c19) | exact hds.2.1 (bJ_t s0 c19) (by omega)) (by omega)
            · refine kw_aload_n hC dX5_takeLeastDown_50 rfl 2 rfl ?_
              refine kw_iload hC dX5_takeLeastDown_51 rfl 0 rfl ?_
              refine kw_callV hC (d_X6_removeAt hD (by omega) (by omega) (by omega) (by omega) (by omega)) gX5_takeLeastDown_X6_removeAt ⟨_, rfl⟩ rfl (by omega) (show (_ : Int) < 12 by omega) rfl ⟨rfl, rfl⟩ 1 (by decide +kernel) ⟨by decide, by decide⟩ rfl rfl (Nat.le_of_ble_eq_true rfl) dX5_takeLeastDown_53 rfl (kd_v (fun S9 hp9 => ?_))
              obtain ⟨hg9, hp9⟩ := hp9
              have hfS9 : Fr (fMs p) S S9 := hfS6.trans (hg9.mono (fun k i j h => by unfold fWd at h; unfold fMs; omega))
              have hRS9 := hRS.fr (hfS9.mono (fun k i j h => by unfold fMs at h; unfold tC; omega))
              have hnS9 := hRS9.n
              have enS9 : S9 3 16 2 = S 3 16 2 := hfS9 3 16 2 (by unfold fMs; omega)
              have eNS9 : kn S9 = kn S := kn_eq enS9
              have eMS9 : kM S9 = kM S := kM_eq enS9 (fun j => hfS9 5 16 j (by unfold fMs; omega))
              obtain ⟨y1, y2, y3⟩ := hp9
              replace hr : WV (S9 2 p) (S9 1 p 1) (S 3 16 2) := y1 ▸ WV.del hr y2 y3 (by omega)
              have hK9 : kP S9 p = (kP S6 p).eraseIdx _ := (wl_eq y1 (fun _ _ _ => rfl)).trans (wl_del (by omega) (by omega) y2 y3)
              refine kw_iload_n hC dX5_takeLeastDown_56 rfl 4 rfl ?_
              exact hR9.1 rfl _ _ _ _ dX5_takeLeastDown_57 (by first | exact ⟨_, rfl, hfS9, by omega, hr, Or.inr (Or.inr (by rw [hds.2.2 (bJ_t s0 c19) (by omega)]; exact ⟨by omega, by show s = ((s.toNat : Nat) : Int); omega, by omega, by omega, by rw [hK9, hK, hb9]⟩))⟩ | (exfalso; omega))
          · refine kw_bipush hC dX5_takeLeastDown_41 rfl (by decide) ?_
            exact hR9.1 rfl _ _ _ _ dX5_takeLeastDown_43 (by first | exact ⟨_, rfl, hfS6, by omega, hr, Or.inl ⟨by rw [hds.2.2 (bJ_t s0 c19) (by omega)]; omega, rfl, by omega, hK⟩⟩ | (exfalso; omega))
  refine kw_lv [1, 2, 3, 0] rfl ?_
  exact hL2 7 0 S hfS (by omega) (by omega) rfl hw (by omega) rfl rfl (by omega)

set_option maxHeartbeats 4000000 in
set_option maxRecDepth 100000 in
theorem f_X5_moveDowns {g : wG} (hD : wD g) {S : wSt} {p b q : Int} (p0 : 8 ≤ p) (p1 : p < 12) (q0 : 8 ≤ q) (q1 : q < 12) (hpq : p ≠ q) (hRS : CI S) (hw : WV (S 2 p) (S 1 p 1) (S 3 16 2)) (m0 : 0 ≤ S 1 p 1) (hv9 : WV (S 2 q) (S 1 q 1) (S 3 16 2)) (n0 : 0 ≤ S 1 q 1) (m1 : S 1 p 1 + S 1 q 1 ≤ 100) (l : Launch) : Kt l yX5_moveDowns wsX5_moveDowns ({ frames := 4, cells := 0, slots := 0, locals := 96 } : Room) g S [vr g 10 0, vr g 1 p, vi b, vr g 1 q] (pI (fun r S' => Fr (fMd p q) S S' ∧ ((0 ≤ S' 1 p 1 ∧ 0 ≤ S' 1 q 1 ∧ S' 1 p 1 + S' 1 q 1 = S 1 p 1 + S 1 q 1) ∧ WV (S' 2 p) (S' 1 p 1) (S 3 16 2) ∧ WV (S' 2 q) (S' 1 q 1) (S 3 16 2) ∧ ((r = 0 ∧ frm (kM S) (kn S) (bJ b) (kP S p).length (kP S p) (kP S q) = none) ∨ (r = 1 ∧ frm (kM S) (kn S) (bJ b) (kP S p).length (kP S p) (kP S q) = some (kP S' p, kP S' q)))))) := by
  refine Kt.of (cc := cX5_moveDowns) (nL := 6) (ret := (some .boolean)) (own := RX5) rfl hD (by decide) rfl (Nat.le_of_ble_eq_true rfl) ⟨rfl, rfl⟩ ?_
  intro E hC hR9
  have f30 : Cond.fieldLink RX5 30 "MirrorBench$Word" "length" "I" ∈ wsX5_moveDowns := by decide +kernel
  have w6 : ∀ w ∈ wsX60, w ∈ wsX5_moveDowns := by decide +kernel
  show Wk E g 6 S 0 [(0, vr g 10 0), (1, vr g 1 p), (2, vi b), (3, vr g 1 q)] []
  have hfS : Fr (fMd p q) S S := Fr.rfl _ S
  have hRS := hRS.fr (hfS.mono (fun k i j h => by unfold fMd at h; unfold tC; omega))
  have hnS := hRS.n
  have enS : S 3 16 2 = S 3 16 2 := hfS 3 16 2 (by unfold fMd; omega)
  have eNS : kn S = kn S := kn_eq enS
  have eMS : kM S = kM S := kM_eq enS (fun j => hfS 5 16 j (by unfold fMd; omega))
  refine kw_aload_n hC dX5_moveDowns_0 rfl 1 rfl ?_
  refine kg_1_1 hC w6 f30 dX5_moveDowns_1 rfl (by omega) (by omega) ?_
  refine kw_istore (lv' := [(4, _), (0, _), (1, _), (2, _), (3, _)]) hC dX5_moveDowns_4 rfl (by decide) rfl ?_
  have hL6 : ∀ (n6 : Nat) (x : Int) (W6 : wSt), Fr (fMd p q) S W6 → (0 ≤ x) → (W6 1 p 1 = x) → (0 ≤ W6 1 q 1) → (W6 1 p 1 + W6 1 q 1 = S 1 p 1 + S 1 q 1) → (WV (W6 2 p) (W6 1 p 1) (S 3 16 2)) → (WV (W6 2 q) (W6 1 q 1) (S 3 16 2)) → (frm (kM S) (kn S) (bJ b) x.toNat (kP W6 p) (kP W6 q) = frm (kM S) (kn S) (bJ b) (kP S p).length (kP S p) (kP S q)) → x < (n6 : Int) → Wk E g 6 W6 6 [(0, vr g 10 0), (1, vr g 1 p), (2, vi b), (3, vr g 1 q), (4, vi x)] [] := by
    intro n6
    induction n6 with
    | zero => intro x W6 hfW6 x0 l0 l1 l2 hr hv hs hm6; exact absurd hm6 (by omega)
    | succ n6 ih6 =>
      intro x W6 hfW6 x0 l0 l1 l2 hr hv hs hm6
      have hRW6 := hRS.fr (hfW6.mono (fun k i j h => by unfold fMd at h; unfold tC; omega))
      have hnW6 := hRW6.n
      have enW6 : W6 3 16 2 = S 3 16 2 := hfW6 3 16 2 (by unfold fMd; omega)
      have eNW6 : kn W6 = kn S := kn_eq enW6
      have eMW6 : kM W6 = kM S := kM_eq enW6 (fun j => hfW6 5 16 j (by unfold fMd; omega))
      refine kw_iload hC dX5_moveDowns_6 rfl 4 rfl ?_
      refine kw_if_le (tgt := 48) hC dX5_moveDowns_8 rfl (by decide) (by omega) ⟨fun c8 => ?_, fun c8 => ?_⟩
      · refine kw_iconst hC dX5_moveDowns_48 rfl ?_
        exact hR9.2.1 rfl _ _ _ _ dX5_moveDowns_49 (by omega) ⟨_, rfl, hfW6, by omega, hr, hv, Or.inr ⟨rfl, frm_0 hs (by omega)⟩⟩
      · refine kw_aload_n hC dX5_moveDowns_11 rfl 0 rfl ?_
        refine kw_aload_n hC dX5_moveDowns_12 rfl 1 rfl ?_
        refine kw_iload_n hC dX5_moveDowns_13 rfl 2 rfl ?_
        refine kw_callV hC (f_X5_takeLeastDown hD (by omega) (by omega) hRW6 (hr.eq (fun _ _ _ => rfl) rfl enW6) (by omega) (by omega)) gX5_moveDowns_X5_takeLeastDown ⟨_, rfl⟩ rfl (by decide) (by decide) rfl ⟨rfl, rfl⟩ 2 (by decide +kernel) ⟨by decide, by decide⟩ rfl rfl (Nat.le_of_ble_eq_true rfl) dX5_moveDowns_14 rfl (kd_i (fun r2 S2 hp2 => ?_))
        obtain ⟨hg2, hp2⟩ := hp2
        have hfS2 : Fr (fMd p q) S S2 := hfW6.trans (hg2.mono (fun k i j h => by unfold fMs at h; unfold fMd; omega))
        have hRS2 := hRS.fr (hfS2.mono (fun k i j h => by unfold fMd at h; unfold tC; omega))
        have hnS2 := hRS2.n
        have enS2 : S2 3 16 2 = S 3 16 2 := hfS2 3 16 2 (by unfold fMd; omega)
        have eNS2 : kn S2 = kn S := kn_eq enS2
        have eMS2 : kM S2 = kM S := kM_eq enS2 (fun j => hfS2 5 16 j (by unfold fMd; omega))
        obtain ⟨hb9, hr9, hc9⟩ := hp2
        rw [eMW6, eNW6] at hc9
        have hfs := frm_s hs (by omega)
        have e1_2 : S2 1 q 1 = W6 1 q 1 := hg2 1 q 1 (by unfold fMs; omega)
        have eQ : kP S2 q = kP W6 q := kP_eq e1_2 (fun j => hg2 2 q j (by unfold fMs; omega))
        replace hr : WV (S2 2 p) (S2 1 p 1) (S 3 16 2) := hr9.eq (fun _ _ _ => rfl) rfl (by omega)
        replace hv : WV (S2 2 q) (S2 1 q 1) (S 3 16 2) := hv.eq (fun j _ _ => hg2 2 q j (by unfold fMs; omega)) e1_2 rfl
        refine kw_istore (lv' := [(5, _), (0, _), (1, _), (2, _), (3, _), (4, _)]) hC dX5_moveDowns_17 rfl (by decide) rfl ?_
        refine kw_iload hC dX5_moveDowns_19 rfl 0 rfl ?_
        refine kw_bipush hC dX5_moveDowns_21 rfl (by decide) ?_
        refine kw_icmp_ne (tgt := 28) hC dX5_moveDowns_23 rfl (by decide) (by omega) (by omega) ⟨fun c23 => ?_, fun c23 => ?_⟩
        · refine kw_iload hC dX5_moveDowns_28 rfl 0 rfl ?_
          refine kw_iconst hC dX5_moveDowns_30 rfl ?_
          refine kw_icmp_ne (tgt := 36) hC dX5_moveDowns_31 rfl (by decide) (by omega) (by omega) ⟨fun c31 => ?_, fun c31 => ?_⟩
          · refine kw_aload_n hC dX5_moveDowns_36 rfl 4 rfl ?_
            refine kw_iload hC dX5_moveDowns_37 rfl 0 rfl ?_
            refine kw_callV hC (d_X6_add hD (by omega) (by omega) (by omega) (by omega)) gX5_moveDowns_X6_add ⟨_, rfl⟩ rfl (by omega) (show (_ : Int) < 12 by omega) rfl ⟨rfl, rfl⟩ 1 (by decide +kernel) ⟨by decide, by decide⟩ rfl rfl (Nat.le_of_ble_eq_true rfl) dX5_moveDowns_39 rfl (kd_v (fun S5 hp5 => ?_))
            obtain ⟨hg5, hp5⟩ := hp5
            have hfS5 : Fr (fMd p q) S S5 := hfS2.trans (hg5.mono (fun k i j h => by unfold fWd at h; unfold fMd; omega))
            have hRS5 := hRS.fr (hfS5.mono (fun k i j h => by unfold fMd at h; unfold tC; omega))
            have hnS5 := hRS5.n
            have enS5 : S5 3 16 2 = S 3 16 2 := hfS5 3 16 2 (by unfold fMd; omega)
            have eNS5 : kn S5 = kn S := kn_eq enS5
            have eMS5 : kM S5 = kM S := kM_eq enS5 (fun j => hfS5 5 16 j (by unfold fMd; omega))
            obtain ⟨y1, y2, y3⟩ := hp5
            have hz9 := (hc9.resolve_left (fun z => by omega)).resolve_left (fun z => by omega)
            have e1_5 : S5 1 p 1 = S2 1 p 1 := hg5 1 p 1 (by unfold fWd; omega)
            have eP9 : kP S5 p = kP S2 p := kP_eq e1_5 (fun j => hg5 2 p j (by unfold fWd; omega))
            replace hr : WV (S5 2 p) (S5 1 p 1) (S 3 16 2) := hr.eq (fun j _ _ => hg5 2 p j (by unfold fWd; omega)) e1_5 rfl
            replace hv : WV (S5 2 q) (S5 1 q 1) (S 3 16 2) := y1 ▸ hv.add (fun j hj => y3 j hj) (by rw [y2]; omega)
            have hs9 : frm (kM S) (kn S) (bJ b) (x - 1).toNat (kP S5 p) (kP S5 q) = frm (kM S) (kn S) (bJ b) (kP S p).length (kP S p) (kP S q) := by rw [eP9, hz9.2.2.2.2, show kP S5 q = kP S2 q ++ [(_ : Int).toNat] from (wl_eq y1 (fun _ _ _ => rfl)).trans (wl_add (by omega) (fun j _ hj => y3 j (by omega)) y2), eQ, hz9.2.1, Int.toNat_natCast]; exact hfs.2.2 hz9.1
            refine kw_iinc (lv' := [(4, _), (5, _), (0, _), (1, _), (2, _), (3, _)]) hC dX5_moveDowns_42 rfl 5 rfl (by decide) rfl ?_
            refine kw_goto (tgt := 6) hC dX5_moveDowns_45 rfl (by decide) ?_
            refine kw_lv [2, 3, 4, 5, 0] rfl ?_
            exact ih6 (x + -1) S5 hfS5 (by omega) (by omega) (by omega) (by omega) hr hv (by rw [show x + -1 = x - 1 by omega]; exact hs9) (by omega)
          · refine kw_iconst hC dX5_moveDowns_34 rfl ?_
            exact hR9.2.1 rfl _ _ _ _ dX5_moveDowns_35 (by omega) ⟨_, rfl, hfS2, by omega, hr, hv, Or.inr ⟨rfl, by rcases hc9 with z | z | z; omega; exact (by rw [hfs.2.1 z.1, z.2.2.2, eQ]); omega⟩⟩
        · refine kw_iconst hC dX5_moveDowns_26 rfl ?_
          exact hR9.2.1 rfl _ _ _ _ dX5_moveDowns_27 (by omega) ⟨_, rfl, hfS2, by omega, hr, hv, Or.inl ⟨rfl, hfs.1 (by omega)⟩⟩
  refine kw_lv [1, 2, 3, 4, 0] rfl ?_
  exact hL6 101 (S 1 p 1) S hfS (by omega) rfl (by omega) rfl hw hv9 (by unfold kP; rw [wl_len]) (by omega)

set_option maxHeartbeats 4000000 in
set_option maxRecDepth 100000 in
theorem f_X5_makeForm {g : wG} (hD : wD g) {S : wSt} {p q : Int} (p0 : 0 ≤ p) (p1 : p < 11) (q0 : 8 ≤ q) (q1 : q < 11) (hRS : CI S) (hw : WV (S 2 p) (S 1 p 1) (S 3 16 2)) (m0 : 0 ≤ S 1 p 1) (m1 : S 1 p 1 ≤ 100) (l : Launch) : Kt l yX5_makeForm wsX5_makeForm ({ frames := 5, cells := 0, slots := 0, locals := 121 } : Room) g S [vr g 10 0, vr g 1 p, vr g 1 q] (pI (fun r S' => Fr (fMd 11 q) S S' ∧ ((r = 0 ∧ fwP (kM S) (kn S) (kP S p) = none) ∨ (r = 1 ∧ fwP (kM S) (kn S) (kP S p) = some (kP S' q) ∧ (0 ≤ S' 1 q 1 ∧ S' 1 q 1 ≤ S 1 p 1) ∧ WV (S' 2 q) (S' 1 q 1) (S 3 16 2))))) := by
  refine Kt.of (cc := cX5_makeForm) (nL := 3) (ret := (some .boolean)) (own := RX5) rfl hD (by decide) rfl (Nat.le_of_ble_eq_true rfl) ⟨rfl, rfl⟩ ?_
  intro E hC hR9
  have f18 : Cond.fieldLink RX5 18 "MirrorBench$Shortener" "rest" "LMirrorBench$Word;" ∈ wsX5_makeForm := by decide +kernel
  have f30 : Cond.fieldLink RX5 30 "MirrorBench$Word" "length" "I" ∈ wsX5_makeForm := by decide +kernel
  have w5 : ∀ w ∈ wsX50, w ∈ wsX5_makeForm := by decide +kernel
  have w6 : ∀ w ∈ wsX60, w ∈ wsX5_makeForm := by decide +kernel
  show Wk E g 3 S 0 [(0, vr g 10 0), (1, vr g 1 p), (2, vr g 1 q)] []
  have hfS : Fr (fMd 11 q) S S := Fr.rfl _ S
  have hRS := hRS.fr (hfS.mono (fun k i j h => by unfold fMd at h; unfold tC; omega))
  have hnS := hRS.n
  have enS : S 3 16 2 = S 3 16 2 := hfS 3 16 2 (by unfold fMd; omega)
  have eNS : kn S = kn S := kn_eq enS
  have eMS : kM S = kM S := kM_eq enS (fun j => hfS 5 16 j (by unfold fMd; omega))
  refine kw_aload_n hC dX5_makeForm_0 rfl 0 rfl ?_
  refine kw_aload_n hC dX5_makeForm_1 rfl 1 rfl ?_
  refine kw_aload_n hC dX5_makeForm_2 rfl 0 rfl ?_
  refine kg_10_2 hC w5 f18 dX5_makeForm_3 rfl (by decide) (by decide) ?_
  refine kw_callV hC (f_X5_makeShort hD (by omega) (by omega) (by omega) (by omega) (by omega) hRS hw (by omega) (by omega)) gX5_makeForm_X5_makeShort ⟨_, rfl⟩ rfl (by decide) (by decide) rfl ⟨rfl, rfl⟩ 2 (by decide +kernel) ⟨by decide, by decide⟩ rfl rfl (Nat.le_of_ble_eq_true rfl) dX5_makeForm_6 rfl (kd_i (fun r1 S1 hp1 => ?_))
  obtain ⟨hg1, hp1⟩ := hp1
  have hfS1 : Fr (fMd 11 q) S S1 := hfS.trans (hg1.mono (fun k i j h => by unfold fMs at h; unfold fMd; omega))
  have hRS1 := hRS.fr (hfS1.mono (fun k i j h => by unfold fMd at h; unfold tC; omega))
  have hnS1 := hRS1.n
  have enS1 : S1 3 16 2 = S 3 16 2 := hfS1 3 16 2 (by unfold fMd; omega)
  have eNS1 : kn S1 = kn S := kn_eq enS1
  have eMS1 : kM S1 = kM S := kM_eq enS1 (fun j => hfS1 5 16 j (by unfold fMd; omega))
  obtain ⟨⟨l0, l1⟩, hr, hA⟩ := hp1
  refine kw_if_ne (tgt := 14) hC dX5_makeForm_9 rfl (by decide) (by omega) ⟨fun c9 => ?_, fun c9 => ?_⟩
  · refine kw_aload_n hC dX5_makeForm_14 rfl 2 rfl ?_
    refine kw_iconst hC dX5_makeForm_15 rfl ?_
    refine kp_1_1 hC w6 f30 dX5_makeForm_16 rfl (by omega) (by omega) ?_
    refine kw_hv hfS1 (by unfold fMd; omega) (fun S3 hfS3 hv3 ho3 => ?_)
    have hRS3 := hRS.fr (hfS3.mono (fun k i j h => by unfold fMd at h; unfold tC; omega))
    have hnS3 := hRS3.n
    have enS3 : S3 3 16 2 = S 3 16 2 := hfS3 3 16 2 (by unfold fMd; omega)
    have eNS3 : kn S3 = kn S := kn_eq enS3
    have eMS3 : kM S3 = kM S := kM_eq enS3 (fun j => hfS3 5 16 j (by unfold fMd; omega))
    have lq := hv3
    have e11_3 : S3 1 11 1 = S1 1 11 1 := ho3 1 11 1 (by omega)
    have eK9 : kP S3 11 = kP S1 11 := kP_eq e11_3 (fun j => ho3 2 11 j (by omega))
    have eK8 : kP S3 q = [] := by unfold kP; rw [hv3]; rfl
    have hA9 := hA.resolve_left (fun z => by omega)
    replace hr : WV (S3 2 11) (S3 1 11 1) (S3 3 16 2) := hr.eq (fun j _ _ => ho3 2 11 j (by omega)) e11_3 enS3
    refine kw_aload_n hC dX5_makeForm_19 rfl 0 rfl ?_
    refine kw_aload_n hC dX5_makeForm_20 rfl 0 rfl ?_
    refine kg_10_2 hC w5 f18 dX5_makeForm_21 rfl (by decide) (by decide) ?_
    refine kw_bipush hC dX5_makeForm_24 rfl (by decide) ?_
    refine kw_aload_n hC dX5_makeForm_26 rfl 2 rfl ?_
    refine kw_callV hC (f_X5_moveDowns hD (by omega) (by omega) (by omega) (by omega) (by omega) hRS3 hr (by omega) (fun j _ _ => by omega) (by omega) (by omega)) gX5_makeForm_X5_moveDowns ⟨_, rfl⟩ rfl (by decide) (by decide) rfl ⟨rfl, rfl⟩ 3 (by decide +kernel) ⟨by decide, by decide⟩ rfl rfl (Nat.le_of_ble_eq_true rfl) dX5_makeForm_27 rfl (kd_i (fun r4 S4 hp4 => ?_))
    obtain ⟨hg4, hp4⟩ := hp4
    have hfS4 : Fr (fMd 11 q) S S4 := hfS3.trans (hg4.mono (fun k i j h => by unfold fMd at h; unfold fMd; omega))
    have hRS4 := hRS.fr (hfS4.mono (fun k i j h => by unfold fMd at h; unfold tC; omega))
    have hnS4 := hRS4.n
    have enS4 : S4 3 16 2 = S 3 16 2 := hfS4 3 16 2 (by unfold fMd; omega)
    have eNS4 : kn S4 = kn S := kn_eq enS4
    have eMS4 : kM S4 = kM S := kM_eq enS4 (fun j => hfS4 5 16 j (by unfold fMd; omega))
    obtain ⟨⟨f0, f1, f2⟩, hr2, hv, hB⟩ := hp4
    rw [eMS3, eNS3, eK9, eK8, frm_J (J' := aJ) (fun s hs => bJ_63 (by unfold kn at hs; omega))] at hB
    have hrl : ((kP S3 11).length : Int) = S3 1 11 1 := kP_len (by omega)
    exact hR9.2.1 rfl _ _ _ _ dX5_makeForm_30 (by omega) ⟨_, rfl, hfS4, by rcases hB with z | z; exact Or.inl ⟨z.1, fwP_n2 hA9.2 (by unfold foP; rw [z.2]; rfl)⟩; exact Or.inr ⟨z.1, fwP_s hA9.2 (by unfold foP; rw [z.2]; rfl), ⟨by omega, by omega⟩, hv.eq (fun _ _ _ => rfl) rfl (by omega)⟩⟩
  · refine kw_iconst hC dX5_makeForm_12 rfl ?_
    exact hR9.2.1 rfl _ _ _ _ dX5_makeForm_13 (by omega) ⟨_, rfl, hfS1, Or.inl ⟨rfl, fwP_n1 (hA.resolve_right (fun z => by omega)).2⟩⟩

set_option maxHeartbeats 4000000 in
set_option maxRecDepth 100000 in
theorem f_X5_leastUp {g : wG} (hD : wD g) {S : wSt} {p : Int} (p0 : 0 ≤ p) (p1 : p < 12) (hRS : CI S) (hw : WV (S 2 p) (S 1 p 1) (S 3 16 2)) (m0 : 0 ≤ S 1 p 1) (m1 : S 1 p 1 ≤ 100) (l : Launch) : Kt l yX5_leastUp wsX5_leastUp ({ frames := 3, cells := 0, slots := 0, locals := 72 } : Room) g S [vr g 10 0, vr g 1 p] (pI (fun r S' => Fr fA S S' ∧ ((-1 ≤ r ∧ r < S 3 16 2) ∧ r = lup (kM S) (kn S) (kP S p) (kn S)))) := by
  refine Kt.of (cc := cX5_leastUp) (nL := 3) (ret := (some .int)) (own := RX5) rfl hD (by decide) rfl (Nat.le_of_ble_eq_true rfl) ⟨rfl, rfl⟩ ?_
  intro E hC hR9
  have f22 : Cond.fieldLink RX5 22 "MirrorBench$Shortener" "set" "LMirrorBench$Mirrors;" ∈ wsX5_leastUp := by decide +kernel
  have f69 : Cond.fieldLink RX5 69 "MirrorBench$Mirrors" "size" "I" ∈ wsX5_leastUp := by decide +kernel
  have w3 : ∀ w ∈ wsX30, w ∈ wsX5_leastUp := by decide +kernel
  have w5 : ∀ w ∈ wsX50, w ∈ wsX5_leastUp := by decide +kernel
  show Wk E g 3 S 0 [(0, vr g 10 0), (1, vr g 1 p)] []
  have hfS : Fr fA S S := Fr.rfl _ S
  have hRS := hRS.fr (hfS.mono (fun k i j h => by unfold fA at h; unfold tC; omega))
  have hnS := hRS.n
  have enS : S 3 16 2 = S 3 16 2 := hfS 3 16 2 (by unfold fA; omega)
  have eNS : kn S = kn S := kn_eq enS
  have eMS : kM S = kM S := kM_eq enS (fun j => hfS 5 16 j (by unfold fA; omega))
  have hkn : kn S = (S 3 16 2).toNat := rfl
  have hnS := hRS.n
  refine kw_iconst hC dX5_leastUp_0 rfl ?_
  refine kw_istore_n (lv' := [(2, _), (0, _), (1, _)]) hC dX5_leastUp_1 rfl (by decide) rfl ?_
  have hL2 : ∀ (n2 : Nat) (s : Int) (W2 : wSt), Fr fA S W2 → (0 ≤ s) → (s ≤ S 3 16 2) → (s ≤ 6) → (lup (kM S) (kn S) (kP S p) (kn S - s.toNat) = lup (kM S) (kn S) (kP S p) (kn S)) → 6 - s < (n2 : Int) → Wk E g 3 W2 2 [(0, vr g 10 0), (1, vr g 1 p), (2, vi s)] [] := by
    intro n2
    induction n2 with
    | zero => intro s W2 hfW2 s0 s1 s6 hd hm2; exact absurd hm2 (by omega)
    | succ n2 ih2 =>
      intro s W2 hfW2 s0 s1 s6 hd hm2
      have hRW2 := hRS.fr (hfW2.mono (fun k i j h => by unfold fA at h; unfold tC; omega))
      have hnW2 := hRW2.n
      have enW2 : W2 3 16 2 = S 3 16 2 := hfW2 3 16 2 (by unfold fA; omega)
      have eNW2 : kn W2 = kn S := kn_eq enW2
      have eMW2 : kM W2 = kM S := kM_eq enW2 (fun j => hfW2 5 16 j (by unfold fA; omega))
      refine kw_iload_n hC dX5_leastUp_2 rfl 2 rfl ?_
      refine kw_aload_n hC dX5_leastUp_3 rfl 0 rfl ?_
      refine kg_10_0 hC w5 f22 dX5_leastUp_4 rfl (by decide) (by decide) ?_
      refine kg_3_2 hC w3 f69 dX5_leastUp_7 rfl (by omega) (by omega) ?_
      refine kw_icmp_ge (tgt := 31) hC dX5_leastUp_10 rfl (by decide) (by omega) (by omega) ⟨fun c10 => ?_, fun c10 => ?_⟩
      · refine kw_iconst hC dX5_leastUp_31 rfl ?_
        exact hR9.1 rfl _ _ _ _ dX5_leastUp_32 ⟨_, rfl, hfW2, ⟨by omega, by omega⟩, by rw [← hd, show kn S - s.toNat = 0 by omega]; rfl⟩
      · have hds := lup_s hd s0 (by omega)
        refine kw_aload_n hC dX5_leastUp_13 rfl 0 rfl ?_
        refine kw_aload_n hC dX5_leastUp_14 rfl 1 rfl ?_
        refine kw_iload_n hC dX5_leastUp_15 rfl 2 rfl ?_
        refine kw_callV hC (f_X5_goesBehind hD (by omega) (by omega) (by omega) (by omega) hRW2 (hw.eq (fun j _ _ => hfW2 2 p j (by unfold fA; omega)) (hfW2 1 p 1 (by unfold fA; omega)) enW2) (by rw [hfW2 1 p 1 (by unfold fA; omega)]; omega) (by rw [hfW2 1 p 1 (by unfold fA; omega)]; omega)) gX5_leastUp_X5_goesBehind ⟨_, rfl⟩ rfl (by decide) (by decide) rfl ⟨rfl, rfl⟩ 2 (by decide +kernel) ⟨by decide, by decide⟩ rfl rfl (Nat.le_of_ble_eq_true rfl) dX5_leastUp_16 rfl (kd_i (fun r2 S2 hp2 => ?_))
        obtain ⟨hg2, hp2⟩ := hp2
        have hfS2 : Fr fA S S2 := hfW2.trans hg2
        have hRS2 := hRS.fr (hfS2.mono (fun k i j h => by unfold fA at h; unfold tC; omega))
        have hnS2 := hRS2.n
        have enS2 : S2 3 16 2 = S 3 16 2 := hfS2 3 16 2 (by unfold fA; omega)
        have eNS2 : kn S2 = kn S := kn_eq enS2
        have eMS2 : kM S2 = kM S := kM_eq enS2 (fun j => hfS2 5 16 j (by unfold fA; omega))
        have e1_2 : W2 1 p 1 = S 1 p 1 := hfW2 1 p 1 (by unfold fA; omega)
        rw [eMW2, eNW2, show kP W2 p = kP S p from kP_eq e1_2 (fun j => hfW2 2 p j (by unfold fA; omega))] at hp2
        have hb9 := hp2
        have hbr := bh_r (kM S) (kn S) (kP S p) s.toNat
        have hlr := kP_len (S := S) (p := p) (by omega)
        refine kw_iconst hC dX5_leastUp_19 rfl ?_
        refine kw_icmp_ne (tgt := 25) hC dX5_leastUp_20 rfl (by decide) (by omega) (by omega) ⟨fun c20 => ?_, fun c20 => ?_⟩
        · refine kw_iinc (lv' := [(2, _), (0, _), (1, _)]) hC dX5_leastUp_25 rfl 2 rfl (by decide) rfl ?_
          refine kw_goto (tgt := 2) hC dX5_leastUp_28 rfl (by decide) ?_
          refine kw_lv [1, 2, 0] rfl ?_
          exact ih2 (s + 1) S2 hfS2 (by omega) (by omega) (by omega) (hds.2 (by omega)) (by omega)
        · refine kw_iload_n hC dX5_leastUp_23 rfl 2 rfl ?_
          exact hR9.1 rfl _ _ _ _ dX5_leastUp_24 ⟨_, rfl, hfS2, ⟨by omega, by omega⟩, (hds.1 (by omega)).symm⟩
  refine kw_lv [1, 2, 0] rfl ?_
  exact hL2 7 0 S hfS (by omega) (by omega) (by omega) rfl (by omega)

set_option maxHeartbeats 4000000 in
set_option maxRecDepth 100000 in
theorem f_X6_isLike {g : wG} (hD : wD g) {S : wSt} {p : Int} (p0 : 0 ≤ p) (p1 : p < 12) {q : Int} (q0 : 0 ≤ q) (q1 : q < 12) (n0 : 0 ≤ S 1 p 1) (n1 : S 1 p 1 ≤ 100) (m0 : 0 ≤ S 1 q 1) (m1 : S 1 q 1 ≤ 100) {n : Int} (hn : n ≤ 6) (hwp : WV (S 2 p) (S 1 p 1) n) (hwq : WV (S 2 q) (S 1 q 1) n) (l : Launch) : Kt l yX6_isLike wsX6_isLike ({ frames := 0, cells := 0, slots := 0, locals := 0 } : Room) g S [vr g 1 p, vr g 1 q] (pI (fun r S' => r = bz (kP S p = kP S q) ∧ S' = S)) := by
  refine Kt.of (cc := cX6_isLike) (nL := 3) (ret := (some .boolean)) (own := RX6) rfl hD (by decide) rfl (Nat.le_of_ble_eq_true rfl) ⟨rfl, rfl⟩ ?_
  intro E hC hR9
  have f9 : Cond.fieldLink RX6 9 "MirrorBench$Word" "mirrors" "[I" ∈ wsX6_isLike := by decide +kernel
  have f15 : Cond.fieldLink RX6 15 "MirrorBench$Word" "length" "I" ∈ wsX6_isLike := by decide +kernel
  have w6 : ∀ w ∈ wsX60, w ∈ wsX6_isLike := by decide +kernel
  show Wk E g 3 S 0 [(0, vr g 1 p), (1, vr g 1 q)] []
  refine kw_aload_n hC dX6_isLike_0 rfl 0 rfl ?_
  refine kg_1_1 hC w6 f15 dX6_isLike_1 rfl (by omega) (by omega) ?_
  refine kw_aload_n hC dX6_isLike_4 rfl 1 rfl ?_
  refine kg_1_1 hC w6 f15 dX6_isLike_5 rfl (by omega) (by omega) ?_
  refine kw_icmp_eq (tgt := 13) hC dX6_isLike_8 rfl (by decide) (by omega) (by omega) ⟨fun c8 => ?_, fun c8 => ?_⟩
  · refine kw_iconst hC dX6_isLike_13 rfl ?_
    refine kw_istore_n (lv' := [(2, _), (0, _), (1, _)]) hC dX6_isLike_14 rfl (by decide) rfl ?_
    have hL15 : ∀ (n15 : Nat) (x : Int), (0 ≤ x) → (x ≤ S 1 p 1) → (∀ j, 0 ≤ j → j < x → S 2 p j = S 2 q j) → S 1 p 1 - x < (n15 : Int) → Wk E g 3 S 15 [(0, vr g 1 p), (1, vr g 1 q), (2, vi x)] [] := by
      intro n15
      induction n15 with
      | zero => intro x x0 x1 h3 hm15; exact absurd hm15 (by omega)
      | succ n15 ih15 =>
        intro x x0 x1 h3 hm15
        refine kw_iload_n hC dX6_isLike_15 rfl 2 rfl ?_
        refine kw_aload_n hC dX6_isLike_16 rfl 0 rfl ?_
        refine kg_1_1 hC w6 f15 dX6_isLike_17 rfl (by omega) (by omega) ?_
        refine kw_icmp_ge (tgt := 46) hC dX6_isLike_20 rfl (by decide) (by omega) (by omega) ⟨fun c20 => ?_, fun c20 => ?_⟩
        · refine kw_iconst hC dX6_isLike_46 rfl ?_
          exact hR9.2.1 rfl _ _ _ _ dX6_isLike_47 (by omega) ⟨_, rfl, (bz_t (wl_eq (by omega) (fun j j0 j1 => h3 j j0 (by omega)))).symm, rfl⟩
        · refine kw_aload_n hC dX6_isLike_23 rfl 0 rfl ?_
          refine kg_1_0 hC w6 f9 dX6_isLike_24 rfl (by omega) (by omega) ?_
          refine kw_iload_n hC dX6_isLike_27 rfl 2 rfl ?_
          refine ka_2 hC dX6_isLike_28 rfl (by omega) (by omega) (by omega) (by omega) ?_
          have ha := hwp x (by omega) (by omega)
          refine kw_aload_n hC dX6_isLike_29 rfl 1 rfl ?_
          refine kg_1_0 hC w6 f9 dX6_isLike_30 rfl (by omega) (by omega) ?_
          refine kw_iload_n hC dX6_isLike_33 rfl 2 rfl ?_
          refine ka_2 hC dX6_isLike_34 rfl (by omega) (by omega) (by omega) (by omega) ?_
          have hb := hwq x (by omega) (by omega)
          refine kw_icmp_eq (tgt := 40) hC dX6_isLike_35 rfl (by decide) (by omega) (by omega) ⟨fun c35 => ?_, fun c35 => ?_⟩
          · refine kw_iinc (lv' := [(2, _), (0, _), (1, _)]) hC dX6_isLike_40 rfl 2 rfl (by decide) rfl ?_
            refine kw_goto (tgt := 15) hC dX6_isLike_43 rfl (by decide) ?_
            refine kw_lv [1, 2, 0] rfl ?_
            exact ih15 (x + 1) (by omega) (by omega) (fun j j0 j1 => by rcases Decidable.em (j = x) with e | e; exact (by rw [e]; omega); exact h3 j j0 (by omega)) (by omega)
          · refine kw_iconst hC dX6_isLike_38 rfl ?_
            exact hR9.2.1 rfl _ _ _ _ dX6_isLike_39 (by omega) ⟨_, rfl, (bz_f (fun z => by have h5 := congrArg (fun l => List.getD l x.toNat 0) z; simp only [kP] at h5; rw [wl_get _ (by omega), wl_get _ (by omega), Int.toNat_of_nonneg x0] at h5; omega)).symm, rfl⟩
    refine kw_lv [1, 2, 0] rfl ?_
    exact hL15 101 0 (by omega) (by omega) (fun j _ _ => by omega) (by omega)
  · refine kw_iconst hC dX6_isLike_11 rfl ?_
    exact hR9.2.1 rfl _ _ _ _ dX6_isLike_12 (by omega) ⟨_, rfl, (bz_f (fun q => by have h5 := congrArg List.length q; unfold kP at h5; rw [wl_len, wl_len] at h5; omega)).symm, rfl⟩
end
section
/-! the class's forms: what a code spells -/
def wdF (C : Int → Int) : Nat → Int → List Nat
  | 0, _ => []
  | k + 1, i => wdF C k (C (300 * (k : Int) + i) / 8) ++ [(C (300 * (k : Int) + i) % 8).toNat]
theorem wdF_len (C : Int → Int) : ∀ (k : Nat) (i : Int), (wdF C k i).length = k
  | 0, _ => rfl
  | k + 1, i => by rw [wdF, List.length_append, wdF_len C k]; rfl
theorem wdF_s {C : Int → Int} {k : Nat} {i f s : Int} (h : C (300 * (k : Int) + i) = 8 * f + s) (s0 : 0 ≤ s) (s1 : s < 8) : wdF C (k + 1) i = wdF C k f ++ [s.toNat] := by
  rw [wdF, h, show (8 * f + s) / 8 = f by omega, show (8 * f + s) % 8 = s by omega]
theorem wdF_cg {S W : wSt} (h : FLI S) (hn : S 3 16 2 ≤ 6) (e17 : ∀ j, 0 ≤ j → j < 300 * S 16 0 4 → W 17 0 j = S 17 0 j) : ∀ (k : Nat) (i : Int), (k : Int) ≤ S 16 0 4 → 0 ≤ i → i < S 18 0 k → wdF (W 17 0) k i = wdF (S 17 0) k i
  | 0, _, _, _, _ => rfl
  | k + 1, i, hk, i0, i1 => by
    obtain ⟨h1, h2, h3, h4, h5⟩ := id h
    have h6 := h4 ((k + 1 : Nat) : Int) (by omega) hk
    obtain ⟨f, s, q1, q2, q3⟩ := h5 ((k + 1 : Nat) : Int) i (by omega) hk i0 i1
    have ek : (((k + 1 : Nat) : Int) - 1) = k := by omega
    rw [ek] at q1 q2
    have h7 := h4 (k : Int) (by omega) (by omega)
    rw [wdF, wdF, e17 _ (by omega) (by omega), q1]
    rw [wdF_cg h hn e17 k _ (by omega) (by omega) (by omega)]
def flW (M : Nat → Nat → Int) (n : Nat) (C : Int → Int) (k : Nat) (m : Int) : Prop := ∃ L, flv M n k = some L ∧ (L.length : Int) = m ∧ ∀ i : Nat, i < L.length → wdF C k (i : Int) = L.getD i []
/-- the forms that stand are all of their lengths -/
def FLF (S : wSt) : Prop := (∀ k : Nat, (k : Int) ≤ S 16 0 4 → flW (kM S) (kn S) (S 17 0) k (S 18 0 (k : Int))) ∧ (S 16 0 5 ≠ 0 → flv (kM S) (kn S) (S 16 0 4 + 1).toNat = none)
theorem FLF.fr {S W : wSt} (h : FLF S) (en : W 3 16 2 = S 3 16 2) (em : ∀ j, W 5 16 j = S 5 16 j) (e16 : ∀ j, W 16 0 j = S 16 0 j) (e17 : ∀ j, W 17 0 j = S 17 0 j) (e18 : ∀ j, W 18 0 j = S 18 0 j) : FLF W := by
  unfold FLF
  rw [kM_eq en em, kn_eq en, e16, e16, show W 17 0 = S 17 0 from funext e17, show W 18 0 = S 18 0 from funext e18]
  exact h
theorem FLF.new {S : wSt} (h4 : S 16 0 4 = 0) (h5 : S 16 0 5 = 0) (h18 : S 18 0 0 = 1) : FLF S := by
  refine ⟨fun k hk => ?_, fun q => absurd h5 q⟩
  have hk0 : k = 0 := by omega
  subst hk0
  refine ⟨[[]], rfl, by rw [show ((0 : Nat) : Int) = 0 from rfl, h18]; rfl, fun i hi => ?_⟩
  have hi0 : i = 0 := by
    simp only [List.length_cons, List.length_nil] at hi
    omega
  rw [hi0]
  rfl
theorem FLF.at' {S : wSt} (h : FLF S) {a : Int} (a0 : 0 ≤ a) (a1 : a ≤ S 16 0 4) : flW (kM S) (kn S) (S 17 0) a.toNat (S 18 0 a) := by
  have := h.1 a.toNat (by omega)
  rw [Int.toNat_of_nonneg a0] at this
  exact this
def CdA (C : Int → Int) (a : Int) (LL AC : List (List Nat)) : Prop := ∀ i : Nat, i < AC.length → ∃ f s : Nat, C (300 * (a - 1) + (i : Int)) = 8 * (f : Int) + (s : Int) ∧ s < 8 ∧ f < LL.length ∧ AC.getD i [] = LL.getD f [] ++ [s]
theorem CdA.eq {C C' : Int → Int} {a : Int} {LL AC : List (List Nat)} (h : CdA C a LL AC) (hc : ∀ i : Nat, i < AC.length → C' (300 * (a - 1) + (i : Int)) = C (300 * (a - 1) + (i : Int))) : CdA C' a LL AC := fun i hi => by
  rw [hc i hi]
  exact h i hi
theorem CdA.add {C : Int → Int} {a m f s : Int} {LL AC : List (List Nat)} (h : CdA C a LL AC) (hm : (AC.length : Int) = m) (hc : C (300 * (a - 1) + m) = 8 * f + s) (s0 : 0 ≤ s) (s1 : s < 8) (f0 : 0 ≤ f) (f1 : f < LL.length) : CdA C a LL (AC ++ [LL.getD f.toNat [] ++ [s.toNat]]) := fun i hi => by
  simp only [List.length_append, List.length_cons, List.length_nil] at hi
  by_cases e : i < AC.length
  · obtain ⟨f9, s9, q1, q2, q3, q4⟩ := h i e
    exact ⟨f9, s9, q1, q2, q3, by rw [getL_1 e]; exact q4⟩
  · have e2 : i = AC.length := by omega
    subst e2
    exact ⟨f.toNat, s.toNat, by rw [hm, hc, Int.toNat_of_nonneg f0, Int.toNat_of_nonneg s0], by omega, by omega, getL_2⟩
/-- one length more -/
theorem FLF.grow {S W : wSt} {a m : Int} {LL : List (List Nat)} (h : FLF S) (hF : FLI S) (hn6 : S 3 16 2 ≤ 6) (hl : S 16 0 4 = a - 1) (a0 : 1 ≤ a) (h5 : S 16 0 5 = 0) (hLL : flv (kM S) (kn S) (a - 1).toNat = some LL) (hLw : ∀ i : Nat, i < LL.length → wdF (S 17 0) (a - 1).toNat (i : Int) = LL.getD i []) (hLm : (LL.length : Int) = S 18 0 (a - 1)) (e4 : W 16 0 4 = a) (e5 : W 16 0 5 = S 16 0 5) (en : W 3 16 2 = S 3 16 2) (em : ∀ j, W 5 16 j = S 5 16 j) (e18 : ∀ j, 0 ≤ j → j ≤ a - 1 → W 18 0 j = S 18 0 j) (ea : W 18 0 a = m) (e17 : ∀ j, 0 ≤ j → j < 300 * (a - 1) → W 17 0 j = S 17 0 j) (hm : ((nxL (kM S) (kn S) LL).length : Int) = m) (m1 : m ≤ 300) (hc : CdA (W 17 0) a LL (nxL (kM S) (kn S) LL)) : FLF W := by
  have eM := kM_eq (S := S) (W := W) en em
  have eN := kn_eq (S := S) (W := W) en
  have h17 : ∀ j, 0 ≤ j → j < 300 * S 16 0 4 → W 17 0 j = S 17 0 j := fun j j0 j1 => e17 j j0 (by omega)
  refine ⟨fun k hk => ?_, fun q => absurd (e5.trans h5) q⟩
  rw [e4] at hk
  rw [eM, eN]
  by_cases e : (k : Int) = a
  · have hk2 : k = (a - 1).toNat + 1 := by omega
    rw [e, ea]
    refine ⟨_, by rw [hk2]; exact (flv_s hLL).1 (by omega), hm, fun i hi => ?_⟩
    obtain ⟨f, s, q1, q2, q3, q4⟩ := hc i hi
    have ek : ((a - 1).toNat : Int) = a - 1 := by omega
    rw [hk2, wdF_s (f := (f : Int)) (s := (s : Int)) (by rw [ek]; exact q1) (by omega) (by omega), q4, Int.toNat_natCast]
    rw [wdF_cg hF hn6 h17 (a - 1).toNat f (by omega) (by omega) (by rw [ek, ← hLm]; omega), hLw f q3]
  · have hc := h.1 k (by omega)
    obtain ⟨L, q1, q2, q3⟩ := hc
    rw [e18 k (by omega) (by omega)]
    exact ⟨L, q1, q2, fun i hi => by rw [wdF_cg hF hn6 h17 k i (by omega) (by omega) (by omega)]; exact q3 i hi⟩
theorem FLF.full {S W : wSt} {a : Int} {LL : List (List Nat)} (h : FLF S) (hF : FLI S) (hn6 : S 3 16 2 ≤ 6) (hl : S 16 0 4 = a - 1) (a0 : 1 ≤ a) (hLL : flv (kM S) (kn S) (a - 1).toNat = some LL) (hbig : 300 < (nxL (kM S) (kn S) LL).length) (e4 : W 16 0 4 = S 16 0 4) (en : W 3 16 2 = S 3 16 2) (em : ∀ j, W 5 16 j = S 5 16 j) (e18 : ∀ j, W 18 0 j = S 18 0 j) (e17 : ∀ j, 0 ≤ j → j < 300 * (a - 1) → W 17 0 j = S 17 0 j) : FLF W := by
  have eM := kM_eq (S := S) (W := W) en em
  have eN := kn_eq (S := S) (W := W) en
  have h17 : ∀ j, 0 ≤ j → j < 300 * S 16 0 4 → W 17 0 j = S 17 0 j := fun j j0 j1 => e17 j j0 (by omega)
  refine ⟨fun k hk => ?_, fun _ => ?_⟩
  · rw [e4] at hk
    rw [eM, eN, e18]
    obtain ⟨L, q1, q2, q3⟩ := h.1 k hk
    exact ⟨L, q1, q2, fun i hi => by rw [wdF_cg hF hn6 h17 k i (by omega) (by omega) (by omega)]; exact q3 i hi⟩
  · rw [eM, eN, e4, hl, show (a - 1 + 1).toNat = (a - 1).toNat + 1 by omega]
    exact (flv_s hLL).2 hbig
theorem bdd_nrm {n : Int} {f : Int → Int} {e : Nat} (he : e ≤ 12) (h : nrm n.toNat (vC n.toNat f) ≤ 5 ^ e) : bdd n f := fun j j0 j1 => by
  have h1 : ((vC n.toNat f j.toNat).natAbs : Int) ≤ nrm n.toNat (vC n.toNat f) := sm_ge (f := fun j => ((vC n.toNat f j).natAbs : Int)) (fun i _ => by omega) (by omega)
  have h2 := pow5_le he
  have h5 : (5 : Int) ^ 12 = 244140625 := by decide
  have h3 : vC n.toNat f j.toNat = f j := by unfold vC; rw [if_pos (by omega), Int.toNat_of_nonneg j0]
  rw [h3] at h1
  omega
theorem gon_s {M : Nat → Nat → Int} {n : Nat} {l : List Nat} {k : Int} {v : Nat → Int} {G : Bool} {c : Nat} (h : gon M n l k.toNat v = G) (k0 : 0 < k) (hc : l.getD (k - 1).toNat 0 = c) : (isO n v c → G = false) ∧ (¬ isO n v c → (∃ t, t < c ∧ isO n (rfx M n v c) t) → G = false) ∧ (¬ isO n v c → (¬ ∃ t, t < c ∧ isO n (rfx M n v c) t) → gon M n l (k - 1).toNat (rfx M n v c) = G) := by
  rw [show k.toNat = (k - 1).toNat + 1 by omega, gon, hc] at h
  refine ⟨fun q => ?_, fun q q2 => ?_, fun q q2 => ?_⟩
  · rw [if_pos q] at h; exact h.symm
  · rw [if_neg q, if_pos q2] at h; exact h.symm
  · rw [if_neg q, if_neg q2] at h; exact h
theorem mB_mG {n : Nat} {f kd : Int → Int} {m : Int} (h : sOK m kd f) (hn : n ≤ 6) : mB (mG n f) := by
  obtain ⟨h0, -, h2, h3, -⟩ := h
  refine ⟨fun i => ?_, fun i j => ?_⟩
  · unfold mG clM
    split
    · exact h3 i (by omega) (by omega)
    · rfl
  · unfold mG clM
    split
    · exact h2 i j (by omega) (by omega) (by omega) (by omega)
    · omega
theorem wdF_get {C : Int → Int} {k f f2 s : Int} {WB : List Nat} (h1 : wdF C k.toNat f = WB.take k.toNat) (h2 : wdF C k.toNat f = wdF C (k - 1).toNat f2 ++ [s.toNat]) (hl : (wdF C (k - 1).toNat f2).length = (k - 1).toNat) (k0 : 1 ≤ k) : WB.getD (k - 1).toNat 0 = s.toNat := by
  have h3 : (WB.take k.toNat).getD (k - 1).toNat 0 = s.toNat := by
    rw [← h1, h2]
    have := getD_app2 (l := wdF C (k - 1).toNat f2) (s := s.toNat)
    rw [hl] at this
    exact this
  rw [List.getD_eq_getElem?_getD, List.getElem?_take, if_pos (by omega)] at h3
  rw [List.getD_eq_getElem?_getD]
  exact h3
theorem wdF_tk {C : Int → Int} {k f f2 s : Int} {WB : List Nat} (h1 : wdF C k.toNat f = WB.take k.toNat) (h2 : wdF C k.toNat f = wdF C (k - 1).toNat f2 ++ [s.toNat]) (hl : (wdF C (k - 1).toNat f2).length = (k - 1).toNat) (k0 : 1 ≤ k) : wdF C (k - 1).toNat f2 = WB.take (k - 1).toNat := by
  have h3 : (WB.take k.toNat).take (k - 1).toNat = wdF C (k - 1).toNat f2 := by
    rw [← h1, h2, List.take_append_of_le_length (by omega), List.take_of_length_le (by omega)]
  rw [← h3, List.take_take]
  congr 1
  omega
theorem kP_wd {S : wSt} {p a : Int} {WB : List Nat} (hl : S 1 p 1 = a) (hW : WB.length = a.toNat) (a0 : 0 ≤ a) (h : ∀ j, 0 ≤ j → j < a → (S 2 p j).toNat = WB.getD j.toNat 0) : kP S p = WB := by
  unfold kP
  rw [hl]
  apply List.ext_getElem
  · rw [wl_len, hW]
  · intro i g1 g2
    rw [wl_len] at g1
    simp only [wl, List.getElem_map, List.getElem_range]
    have := h (i : Int) (by omega) (by omega)
    rw [Int.toNat_natCast, List.getD_eq_getElem?_getD, List.getElem?_eq_getElem g2] at this
    exact this
theorem nrm_up {M : Nat → Nat → Int} (hM : mB M) {n : Nat} {v : Nat → Int} {c : Nat} {a k : Int} (hc : c < n) (h : nrm n v ≤ 5 ^ (a - k).toNat) (hk : k ≤ a) : nrm n (rfx M n v c) ≤ 5 ^ (a - (k - 1)).toNat := by
  have h1 := (nrm_rfx hM (v := v) hc).1
  rw [show (a - (k - 1)).toNat = (a - k).toNat + 1 by omega, Int.pow_succ]
  omega
def NwF (C : Int → Int) (a m F n : Int) : Prop := ∀ i, 0 ≤ i → i < m → ∃ f s, C (300 * (a - 1) + i) = 8 * f + s ∧ (0 ≤ f ∧ f < F) ∧ 0 ≤ s ∧ s < n
theorem NwF.eq {C C' : Int → Int} {a m F n : Int} (h : NwF C a m F n) (hc : ∀ i, 0 ≤ i → i < m → C' (300 * (a - 1) + i) = C (300 * (a - 1) + i)) : NwF C' a m F n := fun i i0 i1 => by
  rw [hc i i0 i1]
  exact h i i0 i1
theorem NwF.add {C C' : Int → Int} {a m F n f s : Int} (h : NwF C a m F n) (hc : ∀ i, 0 ≤ i → i < m → C' (300 * (a - 1) + i) = C (300 * (a - 1) + i)) (hv : C' (300 * (a - 1) + m) = 8 * f + s) (f0 : 0 ≤ f) (f1 : f < F) (s0 : 0 ≤ s) (s1 : s < n) : NwF C' a (m + 1) F n := fun i i0 i1 => by
  by_cases e : i = m
  · rw [e]; exact ⟨f, s, hv, ⟨f0, f1⟩, s0, s1⟩
  · rw [hc i i0 (by omega)]; exact h i i0 (by omega)
theorem go_if {S W : wSt} {a f s r : Int} {LL : List (List Nat)} (hMB : mB (kM S)) (hFL : FLI S) (hn : S 3 16 2 ≤ 6) (en : W 3 16 2 = S 3 16 2) (em : ∀ j, W 5 16 j = S 5 16 j) (e17 : ∀ j, 0 ≤ j → j < 300 * S 16 0 4 → W 17 0 j = S 17 0 j) (a0 : 1 ≤ a) (a1 : a ≤ 12) (hl : S 16 0 4 = a - 1) (hpL : ∀ w, w ∈ LL → w.length = (a - 1).toNat ∧ (∀ i, i ∈ w → i < kn S) ∧ isFb (kM S) (kn S) w = true) (hLw : ∀ i : Nat, i < LL.length → wdF (S 17 0) (a - 1).toNat (i : Int) = LL.getD i []) (f0 : 0 ≤ f) (f1 : f.toNat < LL.length) (s0 : 0 ≤ s) (s1 : s < S 3 16 2) (hC : f < S 18 0 (a - 1)) (h : (r = 0 ∧ gon (kM W) (kn W) (wdF (W 17 0) (a - 1).toNat f) (a - 1).toNat (ownV s.toNat) = false) ∨ (r = 1 ∧ gon (kM W) (kn W) (wdF (W 17 0) (a - 1).toNat f) (a - 1).toNat (ownV s.toNat) = true)) : (r = 0 ∧ isFb (kM S) (kn S) (LL.getD f.toNat [] ++ [s.toNat]) = false) ∨ (r = 1 ∧ isFb (kM S) (kn S) (LL.getD f.toNat [] ++ [s.toNat]) = true) := by
  have h4 := hFL.1
  have hm : LL.getD f.toNat [] ∈ LL := by
    rw [List.getD_eq_getElem?_getD, List.getElem?_eq_getElem f1]
    exact List.getElem_mem _
  obtain ⟨g1, g2, g3⟩ := hpL _ hm
  have ew : wdF (W 17 0) (a - 1).toNat f = LL.getD f.toNat [] := by
    have h9 := hLw f.toNat f1
    rw [Int.toNat_of_nonneg f0] at h9
    rw [wdF_cg hFL hn e17 (a - 1).toNat f (by omega) f0 (by rw [Int.toNat_of_nonneg (by omega)]; exact hC)]
    exact h9
  have hk : (kn S : Int) = S 3 16 2 := by unfold kn; omega
  have key := gon_isF hMB (s := s.toNat) g2 (by omega) (by omega) g3
  rw [g1] at key
  rw [kM_eq en em, kn_eq en, ew] at h
  rcases h with ⟨q1, q2⟩ | ⟨q1, q2⟩
  · refine Or.inl ⟨q1, ?_⟩
    cases hb : isFb (kM S) (kn S) (LL.getD f.toNat [] ++ [s.toNat]) with
    | false => rfl
    | true => rw [key.mpr hb] at q2; cases q2
  · exact Or.inr ⟨q1, key.mp q2⟩
end
section
set_option maxHeartbeats 4000000 in
set_option maxRecDepth 100000 in
theorem f_X0_spell {g : wG} (hD : wD g) {S : wSt} {a b : Int} (hRS : CI S) (a0 : 0 ≤ a) (a1 : a ≤ S 16 0 4) (b0 : 0 ≤ b) (b1 : b < S 18 0 a) (l : Launch) : Kt l yX0_spell wsX0_spell ({ frames := 1, cells := 0, slots := 0, locals := 22 } : Room) g S [vr g 16 0, vi a, vi b, vr g 1 8] (pV (fun S' => Fr (fWd 8) S S' ∧ (S' 1 8 1 = a ∧ WV (S' 2 8) a (S 3 16 2) ∧ kP S' 8 = wdF (S 17 0) a.toNat b))) := by
  refine Kt.of (cc := cX0_spell) (nL := 7) (ret := none) (own := RX0) rfl hD (by decide) rfl (Nat.le_of_ble_eq_true rfl) ⟨rfl, rfl⟩ ?_
  intro E hC hR9
  have f38 : Cond.fieldLink RX0 38 "MirrorBench$Word" "length" "I" ∈ wsX0_spell := by decide +kernel
  have f45 : Cond.fieldLink RX0 45 "MirrorBench$Word" "mirrors" "[I" ∈ wsX0_spell := by decide +kernel
  have w6 : ∀ w ∈ wsX60, w ∈ wsX0_spell := by decide +kernel
  show Wk E g 7 S 0 [(0, vr g 16 0), (1, vi a), (2, vi b), (3, vr g 1 8)] []
  have hfS : Fr (fWd 8) S S := Fr.rfl _ S
  have hn := hRS.n
  have hFL := hRS.fl
  have hL := hFL.1
  obtain ⟨WB, hWB⟩ : ∃ q, q = wdF (S 17 0) a.toNat b := ⟨_, rfl⟩
  have hWl : WB.length = a.toNat := by rw [hWB]; exact wdF_len _ _ _
  refine kw_iload_n hC dX0_spell_0 rfl 2 rfl ?_
  refine kw_istore (lv' := [(4, _), (0, _), (1, _), (2, _), (3, _)]) hC dX0_spell_1 rfl (by decide) rfl ?_
  refine kw_aload_n hC dX0_spell_3 rfl 4 rfl ?_
  refine kw_iload_n hC dX0_spell_4 rfl 2 rfl ?_
  refine kp_1_1 hC w6 f38 dX0_spell_5 rfl (by omega) (by omega) ?_
  refine kw_hv hfS (by unfold fWd; omega) (fun S1 hfS1 hv1 ho1 => ?_)
  refine kw_iload_n hC dX0_spell_8 rfl 2 rfl ?_
  refine kw_istore (lv' := [(5, _), (4, _), (0, _), (1, _), (2, _), (3, _)]) hC dX0_spell_9 rfl (by decide) rfl ?_
  have hL11 : ∀ (n11 : Nat) (k : Int) (f : Int) (W11 : wSt), Fr (fWd 8) S W11 → (0 ≤ k) → (k ≤ a) → (0 ≤ f) → (f < S 18 0 k) → (W11 1 8 1 = a) → (∀ j, k ≤ j → j < a → 0 ≤ W11 2 8 j ∧ W11 2 8 j < S 3 16 2) → (∀ j, k ≤ j → j < a → (W11 2 8 j).toNat = WB.getD j.toNat 0) → (wdF (S 17 0) k.toNat f = WB.take k.toNat) → k < (n11 : Int) → Wk E g 7 W11 11 [(0, vr g 16 0), (1, vi a), (2, vi b), (3, vr g 1 8), (4, vi f), (5, vi k)] [] := by
    intro n11
    induction n11 with
    | zero => intro k f W11 hfW11 k0 k1 f0 f1 hl hr hv hw1 hm11; exact absurd hm11 (by omega)
    | succ n11 ih11 =>
      intro k f W11 hfW11 k0 k1 f0 f1 hl hr hv hw1 hm11
      refine kw_iload hC dX0_spell_11 rfl 5 rfl ?_
      refine kw_if_le (tgt := 52) hC dX0_spell_13 rfl (by decide) (by omega) ⟨fun c13 => ?_, fun c13 => ?_⟩
      · exact hR9.2.2.2 rfl _ _ _ dX0_spell_52 ⟨rfl, hfW11, hl, (fun j j0 j1 => hr j (by omega) j1), by rw [← hWB]; exact kP_wd hl hWl a0 (fun j j0 j1 => hv j (by omega) j1)⟩
      · have hCk := hFL.2.2.2.1 k (by omega) (by omega)
        refine kw_aload_n hC dX0_spell_16 rfl 0 rfl ?_
        refine kw_iload hC dX0_spell_17 rfl 5 rfl ?_
        refine kw_iload hC dX0_spell_19 rfl 4 rfl ?_
        refine kw_callV hC (d_X0_codeOf hD (by omega) (by omega) (by omega) (by omega)) gX0_spell_X0_codeOf ⟨_, rfl⟩ rfl (by decide) (by decide) rfl ⟨rfl, rfl⟩ 2 (by decide +kernel) ⟨by decide, by decide⟩ rfl rfl (Nat.le_of_ble_eq_true rfl) dX0_spell_21 rfl (kd_ie ?_)
        refine kw_chi (z' := S 17 0 (300 * (k - 1) + f)) (hfW11 17 0 _ (by unfold fWd; omega)) ?_
        obtain ⟨f2, s2, hc2, hf2, hs2⟩ := hFL.2.2.2.2 k f (by omega) (by omega) (by omega) (by omega)
        have hC2 := hFL.2.2.2.1 (k - 1) (by omega) (by omega)
        have hb8 := b8 (f := f2) (s := s2) (by omega) (by omega) (by omega) (by omega)
        have hwk : wdF (S 17 0) k.toNat f = wdF (S 17 0) (k - 1).toNat f2 ++ [s2.toNat] := by rw [show k.toNat = (k - 1).toNat + 1 by omega]; exact wdF_s (by rw [show (((k - 1).toNat : Nat) : Int) = k - 1 by omega]; exact hc2) (by omega) (by omega)
        have hwl := wdF_len (S 17 0) (k - 1).toNat f2
        have hgk : WB.getD (k - 1).toNat 0 = s2.toNat := wdF_get hw1 hwk hwl (by omega)
        have hw3 : wdF (S 17 0) (k - 1).toNat f2 = WB.take (k - 1).toNat := wdF_tk hw1 hwk hwl (by omega)
        rw [hc2]
        refine kw_istore (lv' := [(6, _), (0, _), (1, _), (2, _), (3, _), (4, _), (5, _)]) hC dX0_spell_24 rfl (by decide) rfl ?_
        refine kw_aload_n hC dX0_spell_26 rfl 4 rfl ?_
        refine kg_1_0 hC w6 f45 dX0_spell_27 rfl (by omega) (by omega) ?_
        refine kw_iload hC dX0_spell_30 rfl 6 rfl ?_
        refine kw_iconst hC dX0_spell_32 rfl ?_
        refine kw_isub hC dX0_spell_33 rfl ?_
        refine kw_iload hC dX0_spell_34 rfl 0 rfl ?_
        refine kw_bipush hC dX0_spell_36 rfl (by decide) ?_
        refine kw_iandX hC dX0_spell_38 rfl ?_
        rw [hb8.1]
        refine ks_2 hC dX0_spell_39 rfl (by omega) (by omega) (by omega) (by omega) ?_
        refine kw_hv hfW11 (by unfold fWd; omega) (fun S3 hfS3 hv3 ho3 => ?_)
        refine kw_iload hC dX0_spell_40 rfl 0 rfl ?_
        refine kw_iconst hC dX0_spell_42 rfl ?_
        refine kw_ishrX hC dX0_spell_43 rfl ?_
        rw [hb8.2.1]
        refine kw_istore (lv' := [(4, _), (6, _), (0, _), (1, _), (2, _), (3, _), (5, _)]) hC dX0_spell_44 rfl (by decide) rfl ?_
        refine kw_iinc (lv' := [(5, _), (4, _), (6, _), (0, _), (1, _), (2, _), (3, _)]) hC dX0_spell_46 rfl 6 rfl (by decide) rfl ?_
        refine kw_goto (tgt := 11) hC dX0_spell_49 rfl (by decide) ?_
        refine kw_lv [3, 4, 5, 6, 1, 0] rfl ?_
        exact ih11 _ _ S3 hfS3 (by omega) (by omega) (by omega) (by rw [show k + -1 = k - 1 by omega]; omega) ((ho3 1 8 1 (by omega)).trans hl) (fun j j0 j1 => by rcases Decidable.em (j = k - 1) with e | e; exact (by rw [e, hv3]; omega); exact (by rw [ho3 2 8 j (by omega)]; exact hr j (by omega) j1)) (fun j j0 j1 => by rcases Decidable.em (j = k - 1) with e | e; exact (by rw [e, hv3]; exact hgk.symm); exact (by rw [ho3 2 8 j (by omega)]; exact hv j (by omega) j1)) (by rw [show k + -1 = k - 1 by omega]; exact hw3) (by omega)
  refine kw_lv [2, 3, 4, 5, 1, 0] rfl ?_
  exact hL11 13 a b S1 hfS1 (by omega) (by omega) (by omega) (by omega) hv1 (fun j _ _ => by omega) (fun j _ _ => by omega) (by rw [List.take_of_length_le (by omega)]; exact hWB.symm) (by omega)

set_option maxHeartbeats 4000000 in
set_option maxRecDepth 100000 in
theorem f_X0_goesOn {g : wG} (hD : wD g) {S : wSt} {a b c : Int} (hRS : CI S) (a0 : 0 ≤ a) (a1 : a ≤ S 16 0 4) (b0 : 0 ≤ b) (b1 : b < S 18 0 a) (c0 : 0 ≤ c) (c1 : c < S 3 16 2) (l : Launch) : Kt l yX0_goesOn wsX0_goesOn ({ frames := 2, cells := 0, slots := 0, locals := 45 } : Room) g S [vr g 16 0, vi a, vi b, vi c] (pI (fun r S' => Fr fG19 S S' ∧ ((r = 0 ∧ gon (kM S) (kn S) (wdF (S 17 0) a.toNat b) a.toNat (ownV c.toNat) = false) ∨ (r = 1 ∧ gon (kM S) (kn S) (wdF (S 17 0) a.toNat b) a.toNat (ownV c.toNat) = true)))) := by
  refine Kt.of (cc := cX0_goesOn) (nL := 9) (ret := (some .boolean)) (own := RX0) rfl hD (by decide) rfl (Nat.le_of_ble_eq_true rfl) ⟨rfl, rfl⟩ ?_
  intro E hC hR9
  have f18 : Cond.fieldLink RX0 18 "MirrorBench$FormList" "root" "[J" ∈ wsX0_goesOn := by decide +kernel
  have f22 : Cond.fieldLink RX0 22 "MirrorBench$FormList" "set" "LMirrorBench$Mirrors;" ∈ wsX0_goesOn := by decide +kernel
  have w0 : ∀ w ∈ wsX00, w ∈ wsX0_goesOn := by decide +kernel
  show Wk E g 9 S 0 [(0, vr g 16 0), (1, vi a), (2, vi b), (3, vi c)] []
  have hfS : Fr fG19 S S := Fr.rfl _ S
  have hRS := hRS.g19 hfS
  have e5S : S 5 16 = S 5 16 := funext fun j => hfS 5 16 j (by unfold fG19; omega)
  have enS : S 3 16 2 = S 3 16 2 := hfS 3 16 2 (by unfold fG19; omega)
  have hn := hRS.n
  have hFL := hRS.fl
  have hL := hFL.1
  have hMB : mB (kM S) := mB_mG hRS.set (by unfold kn; omega)
  obtain ⟨WB, hWB⟩ : ∃ q, q = wdF (S 17 0) a.toNat b := ⟨_, rfl⟩
  have hWl : WB.length = a.toNat := by rw [hWB]; exact wdF_len _ _ _
  refine kw_aload_n hC dX0_goesOn_0 rfl 0 rfl ?_
  refine kg_16_3 hC w0 f18 dX0_goesOn_1 rfl (by decide) (by decide) ?_
  refine kw_iload_n hC dX0_goesOn_4 rfl 3 rfl ?_
  refine kw_callSN (host := RX7) hC (d_X7_setOwn hD (c := 19) (w := 0) (fun _ => rfl) (by decide) (by decide) (by omega) (by omega)) (by decide +kernel) (by decide +kernel) (by decide +kernel) ggX0_goesOn_X7_setOwn rfl ⟨rfl, rfl⟩ 2 (by decide +kernel) ⟨by decide, by decide⟩ rfl rfl (Nat.le_of_ble_eq_true rfl) dX0_goesOn_5 rfl (kd_v (fun S1 hp1 => ?_))
  obtain ⟨hg1, hp1⟩ := hp1
  have hfS1 : Fr fG19 S S1 := hfS.trans (hg1.mono (fun k i j h => by unfold fCl at h; unfold fG19; omega))
  have hRS1 := hRS.g19 hfS1
  have e5S1 : S1 5 16 = S 5 16 := funext fun j => hfS1 5 16 j (by unfold fG19; omega)
  have enS1 : S1 3 16 2 = S 3 16 2 := hfS1 3 16 2 (by unfold fG19; omega)
  obtain ⟨hvo, hbo⟩ := vC_own hn c0 c1 (fun j j0 j1 => hp1 j j0 (by omega))
  refine kw_iload_n hC dX0_goesOn_8 rfl 2 rfl ?_
  refine kw_istore (lv' := [(4, _), (0, _), (1, _), (2, _), (3, _)]) hC dX0_goesOn_9 rfl (by decide) rfl ?_
  refine kw_iload_n hC dX0_goesOn_11 rfl 2 rfl ?_
  refine kw_istore (lv' := [(5, _), (4, _), (0, _), (1, _), (2, _), (3, _)]) hC dX0_goesOn_12 rfl (by decide) rfl ?_
  have hL14 : ∀ (n14 : Nat) (k : Int) (f : Int) (W14 : wSt), Fr fG19 S W14 → (0 ≤ k) → (k ≤ a) → (0 ≤ f) → (f < S 18 0 k) → (wdF (S 17 0) k.toNat f = WB.take k.toNat) → (∀ j, S 3 16 2 ≤ j → j < 6 → W14 19 0 j = 0) → (nrm (kn S) (vC (kn S) (W14 19 0)) ≤ 5 ^ (a - k).toNat) → (gon (kM S) (kn S) WB k.toNat (vC (kn S) (W14 19 0)) = gon (kM S) (kn S) WB a.toNat (ownV c.toNat)) → k < (n14 : Int) → Wk E g 9 W14 14 [(0, vr g 16 0), (1, vi a), (2, vi b), (3, vi c), (4, vi f), (5, vi k)] [] := by
    intro n14
    induction n14 with
    | zero => intro k f W14 hfW14 k0 k1 f0 f1 hw1 hz6 hN hG hm14; exact absurd hm14 (by omega)
    | succ n14 ih14 =>
      intro k f W14 hfW14 k0 k1 f0 f1 hw1 hz6 hN hG hm14
      have hRW14 := hRS.g19 hfW14
      have e5W14 : W14 5 16 = S 5 16 := funext fun j => hfW14 5 16 j (by unfold fG19; omega)
      have enW14 : W14 3 16 2 = S 3 16 2 := hfW14 3 16 2 (by unfold fG19; omega)
      refine kw_iload hC dX0_goesOn_14 rfl 5 rfl ?_
      refine kw_if_le (tgt := 112) hC dX0_goesOn_16 rfl (by decide) (by omega) ⟨fun c16 => ?_, fun c16 => ?_⟩
      · refine kw_iconst hC dX0_goesOn_112 rfl ?_
        exact hR9.2.1 rfl _ _ _ _ dX0_goesOn_113 (by omega) ⟨_, rfl, hfW14, Or.inr ⟨rfl, by rw [← hWB, ← hG, show k.toNat = 0 by omega]; rfl⟩⟩
      · have hCk := hFL.2.2.2.1 k (by omega) (by omega)
        refine kw_aload_n hC dX0_goesOn_19 rfl 0 rfl ?_
        refine kw_iload hC dX0_goesOn_20 rfl 5 rfl ?_
        refine kw_iload hC dX0_goesOn_22 rfl 4 rfl ?_
        refine kw_callV hC (d_X0_codeOf hD (by omega) (by omega) (by omega) (by omega)) gX0_goesOn_X0_codeOf ⟨_, rfl⟩ rfl (by decide) (by decide) rfl ⟨rfl, rfl⟩ 2 (by decide +kernel) ⟨by decide, by decide⟩ rfl rfl (Nat.le_of_ble_eq_true rfl) dX0_goesOn_24 rfl (kd_ie ?_)
        refine kw_chi (z' := S 17 0 (300 * (k - 1) + f)) (hfW14 17 0 _ (by unfold fG19; omega)) ?_
        obtain ⟨f2, s2, hc2, hf2, hs2⟩ := hFL.2.2.2.2 k f (by omega) (by omega) (by omega) (by omega)
        have hC2 := hFL.2.2.2.1 (k - 1) (by omega) (by omega)
        have hb8 := b8 (f := f2) (s := s2) (by omega) (by omega) (by omega) (by omega)
        have hwk : wdF (S 17 0) k.toNat f = wdF (S 17 0) (k - 1).toNat f2 ++ [s2.toNat] := by rw [show k.toNat = (k - 1).toNat + 1 by omega]; exact wdF_s (by rw [show (((k - 1).toNat : Nat) : Int) = k - 1 by omega]; exact hc2) (by omega) (by omega)
        have hwl := wdF_len (S 17 0) (k - 1).toNat f2
        have hgk : WB.getD (k - 1).toNat 0 = s2.toNat := wdF_get hw1 hwk hwl (by omega)
        have hw3 : wdF (S 17 0) (k - 1).toNat f2 = WB.take (k - 1).toNat := wdF_tk hw1 hwk hwl (by omega)
        rw [hc2]
        have hbd := bdd_nrm (e := (a - k).toNat) (by omega) hN
        refine kw_istore (lv' := [(6, _), (0, _), (1, _), (2, _), (3, _), (4, _), (5, _)]) hC dX0_goesOn_27 rfl (by decide) rfl ?_
        refine kw_iload hC dX0_goesOn_29 rfl 0 rfl ?_
        refine kw_bipush hC dX0_goesOn_31 rfl (by decide) ?_
        refine kw_iandX hC dX0_goesOn_33 rfl ?_
        rw [hb8.1]
        refine kw_istore (lv' := [(7, _), (6, _), (0, _), (1, _), (2, _), (3, _), (4, _), (5, _)]) hC dX0_goesOn_34 rfl (by decide) rfl ?_
        refine kw_aload_n hC dX0_goesOn_36 rfl 2 rfl ?_
        refine kg_16_3 hC w0 f18 dX0_goesOn_37 rfl (by decide) (by decide) ?_
        refine kw_iload hC dX0_goesOn_40 rfl 0 rfl ?_
        refine kw_callSN (host := RX7) hC (d_X7_isOwn hD (c := 19) (w := 0) (fun _ => rfl) (by decide) (by decide) (by omega) (by omega)) (by decide +kernel) (by decide +kernel) (by decide +kernel) ggX0_goesOn_X7_isOwn rfl ⟨rfl, rfl⟩ 2 (by decide +kernel) ⟨by decide, by decide⟩ rfl rfl (Nat.le_of_ble_eq_true rfl) dX0_goesOn_42 rfl (kd_ie ?_)
        refine kw_ifeq_b (tgt := 50) hC dX0_goesOn_45 rfl (by decide) ⟨fun c45 => ?_, fun c45 => ?_⟩
        · have hno : ¬ isO (kn S) (vC (kn S) (W14 19 0)) s2.toNat := fun q => c45 ((own6 hn.2 (by omega) hz6).mpr ((own_C hn (by omega) hbd).mpr q))
          refine kw_aload_n hC dX0_goesOn_50 rfl 2 rfl ?_
          refine kg_16_3 hC w0 f18 dX0_goesOn_51 rfl (by decide) (by decide) ?_
          refine kw_iload hC dX0_goesOn_54 rfl 0 rfl ?_
          refine kw_aload_n hC dX0_goesOn_56 rfl 2 rfl ?_
          refine kg_16_0 hC w0 f22 dX0_goesOn_57 rfl (by decide) (by decide) ?_
          refine kw_aload_n hC dX0_goesOn_60 rfl 2 rfl ?_
          refine kg_16_3 hC w0 f18 dX0_goesOn_61 rfl (by decide) (by decide) ?_
          refine kw_iload hC dX0_goesOn_64 rfl 0 rfl ?_
          refine kw_callV hC (d_X3_turnedNumber hD (c := 19) (w := 0) (fun _ => rfl) (by decide) (by decide) (by omega) (by omega) hRW14) gX0_goesOn_X3_turnedNumber ⟨_, rfl⟩ rfl (by omega) (show (16 : Int) < 17 by omega) rfl ⟨rfl, rfl⟩ 2 (by decide +kernel) ⟨by decide, by decide⟩ rfl rfl (Nat.le_of_ble_eq_true rfl) dX0_goesOn_66 rfl (kd_le ?_)
          refine ks_19 hC dX0_goesOn_69 rfl (by decide) (by decide) (by omega) (by omega) ?_
          refine kw_hv hfW14 (by unfold fG19; omega) (fun S4 hfS4 hv4 ho4 => ?_)
          have hRS4 := hRS.g19 hfS4
          have e5S4 : S4 5 16 = S 5 16 := funext fun j => hfS4 5 16 j (by unfold fG19; omega)
          have enS4 : S4 3 16 2 = S 3 16 2 := hfS4 3 16 2 (by unfold fG19; omega)
          have hvt : S4 19 0 s2 = tvc (S 5 16) (W14 19 0) s2 (S 3 16 2) := by rw [hv4, e5W14, enW14]
          have hot : ∀ j, j ≠ s2 → S4 19 0 j = W14 19 0 j := fun j hj => ho4 19 0 j (by omega)
          have htc := turn_C hn (by omega) (by omega) (fun j j0 j1 => hRS.mt s2 j (by omega) (by omega) j0 (by omega)) hbd hvt hot
          have eV9 : vC (kn S) (S4 19 0) = rfx (kM S) (kn S) (vC (kn S) (W14 19 0)) s2.toNat := htc.1
          have hN9 : nrm (kn S) (vC (kn S) (S4 19 0)) ≤ 5 ^ (a - (k - 1)).toNat := by rw [eV9]; exact nrm_up hMB (by unfold kn; omega) hN (by omega)
          have hbd9 := bdd_nrm (e := (a - (k - 1)).toNat) (by omega) hN9
          have hz9 : ∀ j, S 3 16 2 ≤ j → j < 6 → S4 19 0 j = 0 := fun j j0 j1 => by rw [hot j (by omega)]; exact hz6 j j0 j1
          refine kw_iconst hC dX0_goesOn_70 rfl ?_
          refine kw_istore (lv' := [(8, _), (7, _), (6, _), (0, _), (1, _), (2, _), (3, _), (4, _), (5, _)]) hC dX0_goesOn_71 rfl (by decide) rfl ?_
          have hL73 : ∀ (n73 : Nat) (t : Int), (0 ≤ t) → (t ≤ s2) → (∀ u : Nat, (u : Int) < t → ¬ isO (kn S) (vC (kn S) (S4 19 0)) u) → s2 - t < (n73 : Int) → Wk E g 9 S4 73 [(0, vr g 16 0), (1, vi a), (2, vi b), (3, vi c), (4, vi f), (5, vi k), (6, vi (8 * f2 + s2)), (7, vi s2), (8, vi t)] [] := by
            intro n73
            induction n73 with
            | zero => intro t t0 t1 hall hm73; exact absurd hm73 (by omega)
            | succ n73 ih73 =>
              intro t t0 t1 hall hm73
              refine kw_iload hC dX0_goesOn_73 rfl 8 rfl ?_
              refine kw_iload hC dX0_goesOn_75 rfl 7 rfl ?_
              refine kw_icmp_ge (tgt := 100) hC dX0_goesOn_77 rfl (by decide) (by omega) (by omega) ⟨fun c77 => ?_, fun c77 => ?_⟩
              · refine kw_iload hC dX0_goesOn_100 rfl 6 rfl ?_
                refine kw_iconst hC dX0_goesOn_102 rfl ?_
                refine kw_ishrX hC dX0_goesOn_103 rfl ?_
                rw [hb8.2.1]
                refine kw_istore (lv' := [(4, _), (0, _), (1, _), (2, _), (3, _), (5, _), (6, _), (7, _), (8, _)]) hC dX0_goesOn_104 rfl (by decide) rfl ?_
                refine kw_iinc (lv' := [(5, _), (4, _), (0, _), (1, _), (2, _), (3, _), (6, _), (7, _), (8, _)]) hC dX0_goesOn_106 rfl 5 rfl (by decide) rfl ?_
                refine kw_goto (tgt := 14) hC dX0_goesOn_109 rfl (by decide) ?_
                refine kw_lv [2, 3, 4, 5, 1, 0] rfl ?_
                exact ih14 _ _ S4 hfS4 (by omega) (by omega) (by omega) (by rw [show k + -1 = k - 1 by omega]; omega) (by rw [show k + -1 = k - 1 by omega]; exact hw3) hz9 (by rw [show k + -1 = k - 1 by omega]; exact hN9) (by rw [show k + -1 = k - 1 by omega, eV9]; exact (gon_s hG (by omega) hgk).2.2 hno (by rw [← eV9]; exact fun q => by obtain ⟨u, u1, u2⟩ := q; exact hall u (by omega) u2)) (by omega)
              · refine kw_aload_n hC dX0_goesOn_80 rfl 0 rfl ?_
                refine kg_16_3 hC w0 f18 dX0_goesOn_81 rfl (by decide) (by decide) ?_
                refine kw_iload hC dX0_goesOn_84 rfl 8 rfl ?_
                refine kw_callSN (host := RX7) hC (d_X7_isOwn hD (c := 19) (w := 0) (fun _ => rfl) (by decide) (by decide) (by omega) (by omega)) (by decide +kernel) (by decide +kernel) (by decide +kernel) ggX0_goesOn_X7_isOwn rfl ⟨rfl, rfl⟩ 2 (by decide +kernel) ⟨by decide, by decide⟩ rfl rfl (Nat.le_of_ble_eq_true rfl) dX0_goesOn_86 rfl (kd_ie ?_)
                refine kw_ifeq_b (tgt := 94) hC dX0_goesOn_89 rfl (by decide) ⟨fun c89 => ?_, fun c89 => ?_⟩
                · refine kw_iinc (lv' := [(8, _), (0, _), (1, _), (2, _), (3, _), (4, _), (5, _), (6, _), (7, _)]) hC dX0_goesOn_94 rfl 8 rfl (by decide) rfl ?_
                  refine kw_goto (tgt := 73) hC dX0_goesOn_97 rfl (by decide) ?_
                  refine kw_lv [1, 2, 3, 4, 5, 6, 7, 8, 0] rfl ?_
                  exact ih73 (t + 1) (by omega) (by omega) (fun u hu => by rcases Decidable.em ((u : Int) = t) with e | e; exact (fun q => c89 ((own6 hn.2 (by omega) hz9).mpr ((own_C hn t0 hbd9).mpr (by rw [show t.toNat = u by omega]; exact q)))); exact hall u (by omega)) (by omega)
                · refine kw_iconst hC dX0_goesOn_92 rfl ?_
                  exact hR9.2.1 rfl _ _ _ _ dX0_goesOn_93 (by omega) ⟨_, rfl, hfS4, Or.inl ⟨rfl, by rw [← hWB]; exact (gon_s hG (by omega) hgk).2.1 hno ⟨t.toNat, by omega, by rw [← eV9]; exact (own_C hn t0 hbd9).mp ((own6 hn.2 (by omega) hz9).mp c89)⟩⟩⟩
          refine kw_lv [3, 4, 5, 6, 7, 8, 2, 1, 0] rfl ?_
          exact hL73 7 0 (by omega) (by omega) (fun u hu => by omega) (by omega)
        · refine kw_iconst hC dX0_goesOn_48 rfl ?_
          exact hR9.2.1 rfl _ _ _ _ dX0_goesOn_49 (by omega) ⟨_, rfl, hfW14, Or.inl ⟨rfl, by rw [← hWB]; exact (gon_s hG (by omega) hgk).1 ((own_C hn (by omega) hbd).mp ((own6 hn.2 (by omega) hz6).mp c45))⟩⟩
  refine kw_lv [2, 3, 4, 5, 1, 0] rfl ?_
  exact hL14 13 a b S1 hfS1 (by omega) (by omega) (by omega) (by omega) (by rw [List.take_of_length_le (by omega)]; exact hWB.symm) (fun j j0 j1 => by rw [hp1 j (by omega) j1, if_neg (by omega)]) (by rw [show vC (kn S) (S1 19 0) = ownV c.toNat from hvo, show (a - a).toNat = 0 by omega]; exact nrm_own _ _) (by rw [show vC (kn S) (S1 19 0) = ownV c.toNat from hvo]) (by omega)

set_option maxHeartbeats 4000000 in
set_option maxRecDepth 100000 in
theorem f_X0_addLength {g : wG} (hD : wD g) {S : wSt} {a : Int} (hRS : CI S) (hFS : FLF S) (a0 : 1 ≤ a) (a1 : a ≤ 12) (hl : S 16 0 4 = a - 1) (h50 : S 16 0 5 = 0) (l : Launch) : Kt l yX0_addLength wsX0_addLength ({ frames := 3, cells := 0, slots := 0, locals := 73 } : Room) g S [vr g 16 0, vi a] (pV (fun S' => Fr fFm S S' ∧ (FLI S' ∧ FLF S' ∧ (S' 16 0 4 = a ∨ S' 16 0 5 = 1)))) := by
  refine Kt.of (cc := cX0_addLength) (nL := 5) (ret := none) (own := RX0) rfl hD (by decide) rfl (Nat.le_of_ble_eq_true rfl) ⟨rfl, rfl⟩ ?_
  intro E hC hR9
  have f11 : Cond.fieldLink RX0 11 "MirrorBench$FormList" "codes" "[I" ∈ wsX0_addLength := by decide +kernel
  have f15 : Cond.fieldLink RX0 15 "MirrorBench$FormList" "counts" "[I" ∈ wsX0_addLength := by decide +kernel
  have f22 : Cond.fieldLink RX0 22 "MirrorBench$FormList" "set" "LMirrorBench$Mirrors;" ∈ wsX0_addLength := by decide +kernel
  have f26 : Cond.fieldLink RX0 26 "MirrorBench$FormList" "length" "I" ∈ wsX0_addLength := by decide +kernel
  have f30 : Cond.fieldLink RX0 30 "MirrorBench$FormList" "full" "Z" ∈ wsX0_addLength := by decide +kernel
  have f48 : Cond.fieldLink RX0 48 "MirrorBench$Mirrors" "size" "I" ∈ wsX0_addLength := by decide +kernel
  have w0 : ∀ w ∈ wsX00, w ∈ wsX0_addLength := by decide +kernel
  have w3 : ∀ w ∈ wsX30, w ∈ wsX0_addLength := by decide +kernel
  show Wk E g 5 S 0 [(0, vr g 16 0), (1, vi a)] []
  have hfS : Fr fFm S S := Fr.rfl _ S
  have enS : S 3 16 2 = S 3 16 2 := hfS 3 16 2 (by unfold fFm; omega)
  have e5MS : ∀ j, S 5 16 j = S 5 16 j := fun j => hfS 5 16 j (by unfold fFm; omega)
  have hn := hRS.n
  have hFL := hRS.fl
  have hCa := hFL.2.2.2.1 (a - 1) (by omega) (by omega)
  have hMB : mB (kM S) := mB_mG hRS.set (by unfold kn; omega)
  obtain ⟨LL, hLL, hLm, hLw⟩ := hFS.at' (a := a - 1) (by omega) (by omega)
  have hpL := flv_p hLL
  have hkn : (kn S : Int) = S 3 16 2 := by unfold kn; omega
  refine kw_iconst hC dX0_addLength_0 rfl ?_
  refine kw_istore_n (lv' := [(2, _), (0, _), (1, _)]) hC dX0_addLength_1 rfl (by decide) rfl ?_
  refine kw_iconst hC dX0_addLength_2 rfl ?_
  refine kw_istore_n (lv' := [(3, _), (2, _), (0, _), (1, _)]) hC dX0_addLength_3 rfl (by decide) rfl ?_
  have hL4 : ∀ (n4 : Nat) (f : Int) (m : Int) (AC : List (List Nat)) (W4 : wSt), Fr fFm S W4 → (0 ≤ f) → (f ≤ S 18 0 (a - 1)) → (AC = nxL (kM S) (kn S) (LL.take f.toNat)) → (W4 16 0 4 = S 16 0 4) → (W4 16 0 5 = 0) → (∀ j, W4 18 0 j = S 18 0 j) → (∀ j, 0 ≤ j → j < 300 * (a - 1) → W4 17 0 j = S 17 0 j) → (0 ≤ m) → (m ≤ 300) → (CdA (W4 17 0) a LL AC) → ((AC.length : Int) = m) → (NwF (W4 17 0) a m (S 18 0 (a - 1)) (S 3 16 2)) → S 18 0 (a - 1) - f < (n4 : Int) → Wk E g 5 W4 4 [(0, vr g 16 0), (1, vi a), (2, vi m), (3, vi f)] [] := by
    intro n4
    induction n4 with
    | zero => intro f m AC W4 hfW4 f0 f1 hAC e4 e5 e18 e17 m0 m1 hnew hAl hnf hm4; exact absurd hm4 (by omega)
    | succ n4 ih4 =>
      intro f m AC W4 hfW4 f0 f1 hAC e4 e5 e18 e17 m0 m1 hnew hAl hnf hm4
      have enW4 : W4 3 16 2 = S 3 16 2 := hfW4 3 16 2 (by unfold fFm; omega)
      have e5MW4 : ∀ j, W4 5 16 j = S 5 16 j := fun j => hfW4 5 16 j (by unfold fFm; omega)
      refine kw_iload_n hC dX0_addLength_4 rfl 3 rfl ?_
      refine kw_aload_n hC dX0_addLength_5 rfl 0 rfl ?_
      refine kg_16_2 hC w0 f15 dX0_addLength_6 rfl (by decide) (by decide) ?_
      refine kw_iload_n hC dX0_addLength_9 rfl 1 rfl ?_
      refine kw_iconst hC dX0_addLength_10 rfl ?_
      refine kw_isub hC dX0_addLength_11 rfl ?_
      refine ka_18 hC dX0_addLength_12 rfl (by decide) (by decide) (by omega) (by omega) ?_
      refine kw_chi (z' := S 18 0 (a - 1)) (e18 _) ?_
      refine kw_icmp_ge (tgt := 95) hC dX0_addLength_13 rfl (by decide) (by omega) (by omega) ⟨fun c13 => ?_, fun c13 => ?_⟩
      · have htk : LL.take f.toNat = LL := List.take_of_length_le (by omega)
        rw [htk] at hAC
        refine kw_aload_n hC dX0_addLength_95 rfl 0 rfl ?_
        refine kg_16_2 hC w0 f15 dX0_addLength_96 rfl (by decide) (by decide) ?_
        refine kw_iload_n hC dX0_addLength_99 rfl 1 rfl ?_
        refine kw_iload_n hC dX0_addLength_100 rfl 2 rfl ?_
        refine ks_18 hC dX0_addLength_101 rfl (by decide) (by decide) (by omega) (by omega) ?_
        refine kw_hv hfW4 (by unfold fFm; omega) (fun S2 hfS2 hv2 ho2 => ?_)
        have enS2 : S2 3 16 2 = S 3 16 2 := hfS2 3 16 2 (by unfold fFm; omega)
        have e5MS2 : ∀ j, S2 5 16 j = S 5 16 j := fun j => hfS2 5 16 j (by unfold fFm; omega)
        have hvA := hv2
        have hoA := ho2
        refine kw_aload_n hC dX0_addLength_102 rfl 0 rfl ?_
        refine kw_iload_n hC dX0_addLength_103 rfl 1 rfl ?_
        refine kp_16_4 hC w0 f26 dX0_addLength_104 rfl (by decide) (by decide) ?_
        refine kw_hv hfS2 (by unfold fFm; omega) (fun S3 hfS3 hv3 ho3 => ?_)
        have enS3 : S3 3 16 2 = S 3 16 2 := hfS3 3 16 2 (by unfold fFm; omega)
        have e5MS3 : ∀ j, S3 5 16 j = S 5 16 j := fun j => hfS3 5 16 j (by unfold fFm; omega)
        exact hR9.2.2.2 rfl _ _ _ dX0_addLength_107 ⟨rfl, hfS3, hFL.grow hl a1 hv3 (by rw [ho3 16 0 5 (by omega), hoA 16 0 5 (by omega)]; exact Or.inl e5) (fun j j0 j1 => by rw [ho3 18 0 j (by omega), hoA 18 0 j (by omega)]; exact e18 j) (by rw [ho3 18 0 a (by omega)]; exact hvA) m0 m1 (fun j j0 j1 => by rw [ho3 17 0 j (by omega), hoA 17 0 j (by omega)]; exact e17 j j0 j1) (hnf.eq (fun i i0 i1 => (ho3 17 0 _ (by omega)).trans (hoA 17 0 _ (by omega)))) enS3, hFS.grow hFL hn.2 hl a0 h50 hLL hLw hLm hv3 (by rw [ho3 16 0 5 (by omega), hoA 16 0 5 (by omega), e5, h50]) enS3 e5MS3 (fun j j0 j1 => by rw [ho3 18 0 j (by omega), hoA 18 0 j (by omega)]; exact e18 j) (by rw [ho3 18 0 a (by omega)]; exact hvA) (fun j j0 j1 => by rw [ho3 17 0 j (by omega), hoA 17 0 j (by omega)]; exact e17 j j0 j1) (by rw [← hAC]; exact hAl) m1 (by rw [← hAC]; exact hnew.eq (fun i hi => (ho3 17 0 _ (by omega)).trans (hoA 17 0 _ (by omega)))), Or.inl hv3⟩
      · refine kw_iconst hC dX0_addLength_16 rfl ?_
        refine kw_istore (lv' := [(4, _), (0, _), (1, _), (2, _), (3, _)]) hC dX0_addLength_17 rfl (by decide) rfl ?_
        have hL19 : ∀ (n19 : Nat) (s : Int) (m : Int) (AC : List (List Nat)) (W19 : wSt), Fr fFm S W19 → (0 ≤ s) → (s ≤ S 3 16 2) → (f < S 18 0 (a - 1)) → (AC = (nxL (kM S) (kn S) (LL.take f.toNat) ++ nxs (kM S) (kn S) (LL.getD f.toNat []) s.toNat)) → (W19 16 0 4 = S 16 0 4) → (W19 16 0 5 = 0) → (∀ j, W19 18 0 j = S 18 0 j) → (∀ j, 0 ≤ j → j < 300 * (a - 1) → W19 17 0 j = S 17 0 j) → (0 ≤ m) → (m ≤ 300) → (CdA (W19 17 0) a LL AC) → ((AC.length : Int) = m) → (NwF (W19 17 0) a m (S 18 0 (a - 1)) (S 3 16 2)) → S 3 16 2 - s < (n19 : Int) → Wk E g 5 W19 19 [(0, vr g 16 0), (1, vi a), (2, vi m), (3, vi f), (4, vi s)] [] := by
          intro n19
          induction n19 with
          | zero => intro s m AC W19 hfW19 s0 s1 f2x hAC e4 e5 e18 e17 m0 m1 hnew hAl hnf hm19; exact absurd hm19 (by omega)
          | succ n19 ih19 =>
            intro s m AC W19 hfW19 s0 s1 f2x hAC e4 e5 e18 e17 m0 m1 hnew hAl hnf hm19
            have enW19 : W19 3 16 2 = S 3 16 2 := hfW19 3 16 2 (by unfold fFm; omega)
            have e5MW19 : ∀ j, W19 5 16 j = S 5 16 j := fun j => hfW19 5 16 j (by unfold fFm; omega)
            refine kw_iload hC dX0_addLength_19 rfl 4 rfl ?_
            refine kw_aload_n hC dX0_addLength_21 rfl 0 rfl ?_
            refine kg_16_0 hC w0 f22 dX0_addLength_22 rfl (by decide) (by decide) ?_
            refine kg_3_2 hC w3 f48 dX0_addLength_25 rfl (by omega) (by omega) ?_
            refine kw_chi (z' := S 3 16 2) enW19 ?_
            refine kw_icmp_ge (tgt := 89) hC dX0_addLength_28 rfl (by decide) (by omega) (by omega) ⟨fun c28 => ?_, fun c28 => ?_⟩
            · have hns : kn S = s.toNat := by omega
              have hAC9 : AC = nxL (kM S) (kn S) (LL.take (f + 1).toNat) := by rw [tn_s f0, nxL_s (tn_lt f0 f2x hLm)]; rw [← hns] at hAC; exact hAC
              refine kw_iinc (lv' := [(3, _), (0, _), (1, _), (2, _), (4, _)]) hC dX0_addLength_89 rfl 3 rfl (by decide) rfl ?_
              refine kw_goto (tgt := 4) hC dX0_addLength_92 rfl (by decide) ?_
              refine kw_lv [1, 2, 3, 0] rfl ?_
              exact ih4 (f + 1) _ _ W19 hfW19 (by omega) (by omega) hAC9 e4 e5 e18 e17 (by omega) (by omega) hnew hAl hnf (by omega)
            · refine kw_aload_n hC dX0_addLength_31 rfl 0 rfl ?_
              refine kw_iload_n hC dX0_addLength_32 rfl 1 rfl ?_
              refine kw_iconst hC dX0_addLength_33 rfl ?_
              refine kw_isub hC dX0_addLength_34 rfl ?_
              refine kw_iload_n hC dX0_addLength_35 rfl 3 rfl ?_
              refine kw_iload hC dX0_addLength_36 rfl 4 rfl ?_
              refine kw_callV hC (f_X0_goesOn hD (hRS.fm hfW19 (hFL.ext e4 (Or.inl e5) (fun j _ _ => e18 j) (fun j j0 j1 => e17 j j0 (by omega)) enW19)) (by omega) (by rw [e4]; omega) (by omega) (by rw [e18]; omega) (by omega) (by rw [enW19]; omega)) gX0_addLength_X0_goesOn ⟨_, rfl⟩ rfl (by decide) (by decide) rfl ⟨rfl, rfl⟩ 3 (by decide +kernel) ⟨by decide, by decide⟩ rfl rfl (Nat.le_of_ble_eq_true rfl) dX0_addLength_38 rfl (kd_i (fun r5 S5 hp5 => ?_))
              obtain ⟨hg5, hp5⟩ := hp5
              have hfS5 : Fr fFm S S5 := hfW19.trans (hg5.mono (fun k i j h => by unfold fG19 at h; unfold fFm; omega))
              have enS5 : S5 3 16 2 = S 3 16 2 := hfS5 3 16 2 (by unfold fFm; omega)
              have e5MS5 : ∀ j, S5 5 16 j = S 5 16 j := fun j => hfS5 5 16 j (by unfold fFm; omega)
              have hgo : (r5 = 0 ∧ isFb (kM S) (kn S) (LL.getD f.toNat [] ++ [s.toNat]) = false) ∨ (r5 = 1 ∧ isFb (kM S) (kn S) (LL.getD f.toNat [] ++ [s.toNat]) = true) := go_if (W := W19) hMB hFL hn.2 enW19 e5MW19 (fun j j0 j1 => e17 j j0 (by omega)) (by omega) (by omega) (by omega) hpL hLw f0 (tn_lt f0 f2x hLm) s0 (s_lt rfl c28) (by omega) hp5
              have gg : ∀ k j, k ≠ 19 → S5 k 0 j = W19 k 0 j := fun k j hk => hg5 k 0 j (by unfold fG19; omega)
              replace e4 : S5 16 0 4 = S 16 0 4 := (gg 16 4 (by decide)).trans e4
              replace e5 : S5 16 0 5 = 0 := by rw [gg 16 5 (by decide)]; exact e5
              replace e18 : ∀ j, S5 18 0 j = S 18 0 j := fun j => (gg 18 j (by decide)).trans (e18 j)
              replace e17 : ∀ j, 0 ≤ j → j < 300 * (a - 1) → S5 17 0 j = S 17 0 j := fun j j0 j1 => (gg 17 j (by decide)).trans (e17 j j0 j1)
              replace hnew : CdA (S5 17 0) a LL AC := hnew.eq (fun i _ => gg 17 _ (by decide))
              replace hnf : NwF (S5 17 0) a m (S 18 0 (a - 1)) (S 3 16 2) := hnf.eq (fun i _ _ => gg 17 _ (by decide))
              refine kw_if_ne (tgt := 47) hC dX0_addLength_41 rfl (by decide) (by omega) ⟨fun c41 => ?_, fun c41 => ?_⟩
              · refine kw_iload_n hC dX0_addLength_47 rfl 2 rfl ?_
                refine kw_sipush hC dX0_addLength_48 rfl (by decide) ?_
                refine kw_icmp_ne (tgt := 60) hC dX0_addLength_51 rfl (by decide) (by omega) (by omega) ⟨fun c51 => ?_, fun c51 => ?_⟩
                · refine kw_aload_n hC dX0_addLength_60 rfl 0 rfl ?_
                  refine kg_16_1 hC w0 f11 dX0_addLength_61 rfl (by decide) (by decide) ?_
                  refine kw_iload_n hC dX0_addLength_64 rfl 1 rfl ?_
                  refine kw_iconst hC dX0_addLength_65 rfl ?_
                  refine kw_isub hC dX0_addLength_66 rfl ?_
                  refine kw_sipush hC dX0_addLength_67 rfl (by decide) ?_
                  refine kw_imul hC dX0_addLength_70 rfl ?_
                  refine kw_iload_n hC dX0_addLength_71 rfl 2 rfl ?_
                  rw [Int.mul_comm (a - 1) 300]
                  refine kw_iadd hC dX0_addLength_72 rfl ?_
                  refine kw_iload_n hC dX0_addLength_73 rfl 3 rfl ?_
                  refine kw_iconst hC dX0_addLength_74 rfl ?_
                  refine kw_ishlX hC dX0_addLength_75 rfl ?_
                  refine kw_iload hC dX0_addLength_76 rfl 4 rfl ?_
                  refine kw_iorX hC dX0_addLength_78 rfl ?_
                  rw [(b8 (f := f) (s := s) (by omega) (by omega) (by omega) (by omega)).2.2]
                  refine ks_17 hC dX0_addLength_79 rfl (by decide) (by decide) (by omega) (by omega) ?_
                  refine kw_hv hfS5 (by unfold fFm; omega) (fun S8 hfS8 hv8 ho8 => ?_)
                  have enS8 : S8 3 16 2 = S 3 16 2 := hfS8 3 16 2 (by unfold fFm; omega)
                  have e5MS8 : ∀ j, S8 5 16 j = S 5 16 j := fun j => hfS8 5 16 j (by unfold fFm; omega)
                  have hv9 := hv8
                  have ho9 := ho8
                  have hby := (hgo.resolve_left (fun z => by omega)).2
                  replace e4 : S8 16 0 4 = S 16 0 4 := (ho9 16 0 4 (by omega)).trans e4
                  replace e5 : S8 16 0 5 = 0 := by rw [ho9 16 0 5 (by omega)]; exact e5
                  replace e18 : ∀ j, S8 18 0 j = S 18 0 j := fun j => (ho9 18 0 j (by omega)).trans (e18 j)
                  replace e17 : ∀ j, 0 ≤ j → j < 300 * (a - 1) → S8 17 0 j = S 17 0 j := fun j j0 j1 => (ho9 17 0 j (by omega)).trans (e17 j j0 j1)
                  have hnew9 : CdA (S8 17 0) a LL (AC ++ [LL.getD f.toNat [] ++ [s.toNat]]) := (hnew.eq (fun i hi => ho9 17 0 _ (by omega))).add hAl hv9 s0 (by omega) f0 (by omega)
                  have hnf9 : NwF (S8 17 0) a (m + 1) (S 18 0 (a - 1)) (S 3 16 2) := hnf.add (fun i i0 i1 => ho9 17 0 _ (by omega)) hv9 f0 f2x s0 (s_lt rfl c28)
                  have hAC9 : AC ++ [LL.getD f.toNat [] ++ [s.toNat]] = nxL (kM S) (kn S) (LL.take f.toNat) ++ nxs (kM S) (kn S) (LL.getD f.toNat []) (s + 1).toNat := by rw [tn_s s0, nxs_y hby, ← List.append_assoc, hAC]
                  have hAl9 : ((AC ++ [LL.getD f.toNat [] ++ [s.toNat]]).length : Int) = m + 1 := by rw [List.length_append, Int.natCast_add, hAl]; rfl
                  refine kw_iinc (lv' := [(2, _), (0, _), (1, _), (3, _), (4, _)]) hC dX0_addLength_80 rfl 2 rfl (by decide) rfl ?_
                  refine kw_iinc (lv' := [(4, _), (2, _), (0, _), (1, _), (3, _)]) hC dX0_addLength_83 rfl 4 rfl (by decide) rfl ?_
                  refine kw_goto (tgt := 19) hC dX0_addLength_86 rfl (by decide) ?_
                  refine kw_lv [2, 3, 1, 4, 0] rfl ?_
                  exact ih19 (s + 1) _ _ S8 hfS8 (by omega) (s_up rfl c28) (by omega) (by first | exact hAC9 | exact hACn) e4 e5 e18 e17 (by omega) (by omega) (by first | exact hnew9 | exact hnew) (by first | exact hAl9 | exact hAl) (by first | exact hnf9 | exact hnf) (m_up hm19)
                · refine kw_aload_n hC dX0_addLength_54 rfl 0 rfl ?_
                  refine kw_iconst hC dX0_addLength_55 rfl ?_
                  refine kp_16_5 hC w0 f30 dX0_addLength_56 rfl (by decide) (by decide) (by omega) ?_
                  refine kw_hv hfS5 (by unfold fFm; omega) (fun S9 hfS9 hv9 ho9 => ?_)
                  have enS9 : S9 3 16 2 = S 3 16 2 := hfS9 3 16 2 (by unfold fFm; omega)
                  have e5MS9 : ∀ j, S9 5 16 j = S 5 16 j := fun j => hfS9 5 16 j (by unfold fFm; omega)
                  have hFx : FLI S9 := hFL.ext ((ho9 16 0 4 (by omega)).trans e4) (Or.inr hv9) (fun j _ _ => (ho9 18 0 j (by omega)).trans (e18 j)) (fun j j0 j1 => (ho9 17 0 j (by omega)).trans (e17 j j0 (by omega))) enS9
                  have hFy : FLF S9 := hFS.full hFL hn.2 hl a0 hLL (mo_l (nxL_more (M := kM S) (n := kn S) (L := LL) (i := f.toNat) (s := s.toNat) (tn_lt f0 f2x hLm) (tn_lt s0 (s_lt rfl c28) hkn) (hgo.resolve_left (fun z => by omega)).2) hAC hAl (by omega)) ((ho9 16 0 4 (by omega)).trans e4) enS9 e5MS9 (fun j => (ho9 18 0 j (by omega)).trans (e18 j)) (fun j j0 j1 => (ho9 17 0 j (by omega)).trans (e17 j j0 j1))
                  exact hR9.2.2.2 rfl _ _ _ dX0_addLength_59 ⟨rfl, hfS9, hFx, hFy, Or.inr hv9⟩
              · have hACn : AC = nxL (kM S) (kn S) (LL.take f.toNat) ++ nxs (kM S) (kn S) (LL.getD f.toNat []) (s + 1).toNat := by rw [tn_s s0, nxs_n (hgo.resolve_right (fun z => by omega)).2]; exact hAC
                refine kw_goto (tgt := 83) hC dX0_addLength_44 rfl (by decide) ?_
                refine kw_iinc (lv' := [(4, _), (0, _), (1, _), (2, _), (3, _)]) hC dX0_addLength_83 rfl 4 rfl (by decide) rfl ?_
                refine kw_goto (tgt := 19) hC dX0_addLength_86 rfl (by decide) ?_
                refine kw_lv [1, 2, 3, 4, 0] rfl ?_
                exact ih19 (s + 1) _ _ S5 hfS5 (by omega) (s_up rfl c28) (by omega) (by first | exact hAC9 | exact hACn) e4 e5 e18 e17 (by omega) (by omega) (by first | exact hnew9 | exact hnew) (by first | exact hAl9 | exact hAl) (by first | exact hnf9 | exact hnf) (m_up hm19)
        refine kw_lv [1, 2, 3, 4, 0] rfl ?_
        exact hL19 7 0 _ AC W4 hfW4 (by omega) (by omega) (by omega) (by rw [hAC, show (0 : Int).toNat = 0 from rfl, nxs_0, List.append_nil]) e4 e5 e18 e17 (by omega) (by omega) hnew hAl hnf (by omega)
  refine kw_lv [2, 3, 1, 0] rfl ?_
  exact hL4 301 0 _ [] S hfS (by omega) (by omega) rfl rfl h50 (fun _ => rfl) (fun _ _ _ => rfl) (by omega) (by omega) (fun i hi => absurd hi (Nat.not_lt_zero _)) rfl (fun i _ _ => by omega) (by omega)

set_option maxHeartbeats 4000000 in
set_option maxRecDepth 100000 in
theorem f_X0_reaches {g : wG} (hD : wD g) {S : wSt} {a : Int} (hRS : CI S) (hFS : FLF S) (a0 : 0 ≤ a) (a1 : a ≤ 12) (l : Launch) : Kt l yX0_reaches wsX0_reaches ({ frames := 4, cells := 0, slots := 0, locals := 97 } : Room) g S [vr g 16 0, vi a] (pI (fun r S' => Fr fFm S S' ∧ (FLI S' ∧ FLF S' ∧ ((r = 1 ∧ a ≤ S' 16 0 4) ∨ (r = 0 ∧ flv (kM S) (kn S) a.toNat = none))))) := by
  refine Kt.of (cc := cX0_reaches) (nL := 3) (ret := (some .boolean)) (own := RX0) rfl hD (by decide) rfl (Nat.le_of_ble_eq_true rfl) ⟨rfl, rfl⟩ ?_
  intro E hC hR9
  have f26 : Cond.fieldLink RX0 26 "MirrorBench$FormList" "length" "I" ∈ wsX0_reaches := by decide +kernel
  have f30 : Cond.fieldLink RX0 30 "MirrorBench$FormList" "full" "Z" ∈ wsX0_reaches := by decide +kernel
  have w0 : ∀ w ∈ wsX00, w ∈ wsX0_reaches := by decide +kernel
  show Wk E g 3 S 0 [(0, vr g 16 0), (1, vi a)] []
  have hfS : Fr fFm S S := Fr.rfl _ S
  have enS : S 3 16 2 = S 3 16 2 := hfS 3 16 2 (by unfold fFm; omega)
  have e5MS : ∀ j, S 5 16 j = S 5 16 j := fun j => hfS 5 16 j (by unfold fFm; omega)
  have hn := hRS.n
  have hFL := hRS.fl
  have hL := hFL.1
  refine kw_aload_n hC dX0_reaches_0 rfl 0 rfl ?_
  refine kg_16_4 hC w0 f26 dX0_reaches_1 rfl (by decide) (by decide) ?_
  refine kw_iconst hC dX0_reaches_4 rfl ?_
  refine kw_iadd hC dX0_reaches_5 rfl ?_
  refine kw_istore_n (lv' := [(2, _), (0, _), (1, _)]) hC dX0_reaches_6 rfl (by decide) rfl ?_
  have hL7 : ∀ (n7 : Nat) (x : Int) (W7 : wSt), Fr fFm S W7 → (1 ≤ x) → (x ≤ 13) → (FLI W7) → (FLF W7) → (W7 16 0 4 = x - 1 ∨ W7 16 0 5 = 1) → 13 - x < (n7 : Int) → Wk E g 3 W7 7 [(0, vr g 16 0), (1, vi a), (2, vi x)] [] := by
    intro n7
    induction n7 with
    | zero => intro x W7 hfW7 x0 x1 hF hG hor hm7; exact absurd hm7 (by omega)
    | succ n7 ih7 =>
      intro x W7 hfW7 x0 x1 hF hG hor hm7
      have enW7 : W7 3 16 2 = S 3 16 2 := hfW7 3 16 2 (by unfold fFm; omega)
      have e5MW7 : ∀ j, W7 5 16 j = S 5 16 j := fun j => hfW7 5 16 j (by unfold fFm; omega)
      refine kw_iload_n hC dX0_reaches_7 rfl 2 rfl ?_
      refine kw_iload_n hC dX0_reaches_8 rfl 1 rfl ?_
      refine kw_icmp_gt (tgt := 30) hC dX0_reaches_9 rfl (by decide) (by omega) (by omega) ⟨fun c9 => ?_, fun c9 => ?_⟩
      · have hFl := hF.1
        have hfu := hF.2.1
        refine kw_iload_n hC dX0_reaches_30 rfl 1 rfl ?_
        refine kw_aload_n hC dX0_reaches_31 rfl 0 rfl ?_
        refine kg_16_4 hC w0 f26 dX0_reaches_32 rfl (by decide) (by decide) ?_
        refine kw_icmp_gt (tgt := 42) hC dX0_reaches_35 rfl (by decide) (by omega) (by omega) ⟨fun c35 => ?_, fun c35 => ?_⟩
        · refine kw_iconst hC dX0_reaches_42 rfl ?_
          exact hR9.2.1 rfl _ _ _ _ dX0_reaches_43 (by omega) ⟨_, rfl, hfW7, hF, hG, by first | exact Or.inl ⟨rfl, by omega⟩ | exact Or.inr ⟨rfl, flv_n (k := (W7 16 0 4 + 1).toNat) (by have h9 := hG.2 (by omega); rw [kM_eq enW7 e5MW7, kn_eq enW7] at h9; exact h9) (by omega)⟩⟩
        · refine kw_iconst hC dX0_reaches_38 rfl ?_
          refine kw_goto (tgt := 43) hC dX0_reaches_39 rfl (by decide) ?_
          exact hR9.2.1 rfl _ _ _ _ dX0_reaches_43 (by omega) ⟨_, rfl, hfW7, hF, hG, by first | exact Or.inl ⟨rfl, by omega⟩ | exact Or.inr ⟨rfl, flv_n (k := (W7 16 0 4 + 1).toNat) (by have h9 := hG.2 (by omega); rw [kM_eq enW7 e5MW7, kn_eq enW7] at h9; exact h9) (by omega)⟩⟩
      · refine kw_aload_n hC dX0_reaches_12 rfl 0 rfl ?_
        refine kg_16_5 hC w0 f30 dX0_reaches_13 rfl (by decide) (by decide) ?_
        have hfu := hF.2.1
        refine kw_if_ne (tgt := 30) hC dX0_reaches_16 rfl (by decide) (by omega) ⟨fun c16 => ?_, fun c16 => ?_⟩
        · have hFl := hF.1
          have hfu := hF.2.1
          refine kw_iload_n hC dX0_reaches_30 rfl 1 rfl ?_
          refine kw_aload_n hC dX0_reaches_31 rfl 0 rfl ?_
          refine kg_16_4 hC w0 f26 dX0_reaches_32 rfl (by decide) (by decide) ?_
          refine kw_icmp_gt (tgt := 42) hC dX0_reaches_35 rfl (by decide) (by omega) (by omega) ⟨fun c35 => ?_, fun c35 => ?_⟩
          · refine kw_iconst hC dX0_reaches_42 rfl ?_
            exact hR9.2.1 rfl _ _ _ _ dX0_reaches_43 (by omega) ⟨_, rfl, hfW7, hF, hG, by first | exact Or.inl ⟨rfl, by omega⟩ | exact Or.inr ⟨rfl, flv_n (k := (W7 16 0 4 + 1).toNat) (by have h9 := hG.2 (by omega); rw [kM_eq enW7 e5MW7, kn_eq enW7] at h9; exact h9) (by omega)⟩⟩
          · refine kw_iconst hC dX0_reaches_38 rfl ?_
            refine kw_goto (tgt := 43) hC dX0_reaches_39 rfl (by decide) ?_
            exact hR9.2.1 rfl _ _ _ _ dX0_reaches_43 (by omega) ⟨_, rfl, hfW7, hF, hG, by first | exact Or.inl ⟨rfl, by omega⟩ | exact Or.inr ⟨rfl, flv_n (k := (W7 16 0 4 + 1).toNat) (by have h9 := hG.2 (by omega); rw [kM_eq enW7 e5MW7, kn_eq enW7] at h9; exact h9) (by omega)⟩⟩
        · refine kw_aload_n hC dX0_reaches_19 rfl 0 rfl ?_
          refine kw_iload_n hC dX0_reaches_20 rfl 2 rfl ?_
          refine kw_callV hC (f_X0_addLength hD (hRS.fm hfW7 hF) hG (by omega) (by omega) (by omega) (by omega)) gX0_reaches_X0_addLength ⟨_, rfl⟩ rfl (by decide) (by decide) rfl ⟨rfl, rfl⟩ 1 (by decide +kernel) ⟨by decide, by decide⟩ rfl rfl (Nat.le_of_ble_eq_true rfl) dX0_reaches_21 rfl (kd_v (fun S5 hp5 => ?_))
          obtain ⟨hg5, hp5⟩ := hp5
          have hfS5 : Fr fFm S S5 := hfW7.trans hg5
          have enS5 : S5 3 16 2 = S 3 16 2 := hfS5 3 16 2 (by unfold fFm; omega)
          have e5MS5 : ∀ j, S5 5 16 j = S 5 16 j := fun j => hfS5 5 16 j (by unfold fFm; omega)
          obtain ⟨hF9, hG9, hor⟩ := hp5
          refine kw_iinc (lv' := [(2, _), (0, _), (1, _)]) hC dX0_reaches_24 rfl 2 rfl (by decide) rfl ?_
          refine kw_goto (tgt := 7) hC dX0_reaches_27 rfl (by decide) ?_
          refine kw_lv [1, 2, 0] rfl ?_
          exact ih7 (x + 1) S5 hfS5 (by omega) (by omega) hF9 hG9 (by omega) (by omega)
  refine kw_lv [1, 2, 0] rfl ?_
  exact hL7 14 _ S hfS (by omega) (by omega) hFL hFS (by omega) (by omega)
end
