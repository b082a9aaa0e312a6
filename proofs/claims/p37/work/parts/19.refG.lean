def fC (k : Nat) (i j : Int) : Prop := k = 58 ∨ k = 59 ∨ (k = 30 ∧ j = 20)

def fR (k : Nat) (i j : Int) : Prop := k = 55 ∨ k = 58 ∨ k = 59 ∨ (k = 30 ∧ (j = 16 ∨ j = 20 ∨ j = 21))

def fB (k : Nat) (i j : Int) : Prop := k = 62 ∨ (k = 30 ∧ j = 23)

def fD (k : Nat) (i j : Int) : Prop := k = 62 ∨ k = 64 ∨ (k = 30 ∧ j = 23)

def hsum (S : wSt) (x : Int) : Int := sm x.toNat (fun k => S 55 0 (k : Int))

set_option maxHeartbeats 4000000 in
set_option maxRecDepth 100000 in
theorem d_X8_height {g : wG} (hD : wD g) {S : wSt} (m0 : 0 ≤ S 30 0 0) (m1 : S 30 0 0 ≤ 6) (l : Launch) : Kt l yX8_height wsX8_height ({ frames := 0, cells := 0, slots := 0, locals := 0 } : Room) g S [vr g 30 0] (pL (fun r S' => r = hsum S (S 30 0 0) ∧ S' = S)) := by
  refine Kt.of (cc := cX8_height) (nL := 4) (ret := (some .long)) (own := RX8) rfl hD (by decide) rfl (Nat.le_of_ble_eq_true rfl) ⟨rfl, rfl⟩ ?_
  intro E hC hR9
  have f11 : Cond.fieldLink RX8 11 "MirrorBenchModel" "mirrors" "I" ∈ wsX8_height := by decide +kernel
  have f77 : Cond.fieldLink RX8 77 "MirrorBenchModel" "root" "[J" ∈ wsX8_height := by decide +kernel
  have w8 : ∀ w ∈ wsX80, w ∈ wsX8_height := by decide +kernel
  show Wk E g 4 S 0 [(0, vr g 30 0)] []
  refine kw_lconst (z := 0) hC dX8_height_0 rfl rfl ?_
  refine kw_chl (z' := hsum S 0) rfl ?_
  refine kw_lstore_n (lv' := [(1, _), (0, _)]) hC dX8_height_1 rfl (by decide) rfl ?_
  refine kw_iconst hC dX8_height_2 rfl ?_
  refine kw_istore_n (lv' := [(3, _), (1, _), (0, _)]) hC dX8_height_3 rfl (by decide) rfl ?_
  have hL4 : ∀ (n4 : Nat) (x : Int), (0 ≤ x) → (x ≤ S 30 0 0) → S 30 0 0 - x < (n4 : Int) → Wk E g 4 S 4 [(0, vr g 30 0), (1, vl (hsum S x)), (3, vi x)] [] := by
    intro n4
    induction n4 with
    | zero => intro x x0 x1 hm4; exact absurd hm4 (by omega)
    | succ n4 ih4 =>
      intro x x0 x1 hm4
      refine kw_iload_n hC dX8_height_4 rfl 2 rfl ?_
      refine kw_aload_n hC dX8_height_5 rfl 0 rfl ?_
      refine kg_30_0 hC w8 f11 dX8_height_6 rfl (by decide) (by decide) ?_
      refine kw_icmp_ge (tgt := 27) hC dX8_height_9 rfl (by decide) (by omega) (by omega) ⟨fun c9 => ?_, fun c9 => ?_⟩
      · refine kw_lload_n hC dX8_height_27 rfl 1 rfl ?_
        exact hR9.2.2.1 rfl _ _ _ _ dX8_height_28 ⟨_, rfl, by rw [show x = S 30 0 0 by omega], rfl⟩
      · refine kw_lload_n hC dX8_height_12 rfl 1 rfl ?_
        refine kw_aload_n hC dX8_height_13 rfl 0 rfl ?_
        refine kg_30_15 hC w8 f77 dX8_height_14 rfl (by decide) (by decide) ?_
        refine kw_iload_n hC dX8_height_17 rfl 2 rfl ?_
        refine ka_55 hC dX8_height_18 rfl (by decide) (by decide) (by omega) (by omega) ?_
        refine kw_ladd hC dX8_height_19 rfl ?_
        refine kw_chl (z' := hsum S (x + 1)) (by unfold hsum; rw [show (x + 1).toNat = x.toNat + 1 by omega, sm, Int.toNat_of_nonneg x0]) ?_
        refine kw_lstore_n (lv' := [(1, _), (0, _), (3, _)]) hC dX8_height_20 rfl (by decide) rfl ?_
        refine kw_iinc (lv' := [(3, _), (1, _), (0, _)]) hC dX8_height_21 rfl 2 rfl (by decide) rfl ?_
        refine kw_goto (tgt := 4) hC dX8_height_24 rfl (by decide) ?_
        refine kw_lv [2, 1, 0] rfl ?_
        exact ih4 (x + 1) (by omega) (by omega) (by omega)
  refine kw_lv [2, 1, 0] rfl ?_
  exact hL4 7 0 (by omega) (by omega) (by omega)

set_option maxHeartbeats 4000000 in
set_option maxRecDepth 100000 in
theorem d_X8_isKnown {g : wG} (hD : wD g) {S : wSt} {a : Int} (a0 : 0 ≤ a) (a1 : a ≤ 420) (m0 : 0 ≤ S 30 0 20) (m1 : S 30 0 20 ≤ 420) (l : Launch) : Kt l yX8_isKnown wsX8_isKnown ({ frames := 0, cells := 0, slots := 0, locals := 0 } : Room) g S [vr g 30 0, vi a] (pI (fun r S' => r = bz (∃ i, a ≤ i ∧ i < S 30 0 20 ∧ (∀ j, 0 ≤ j → j < 6 → nl (S 58 0 (6 * i + j)) = nl (S 55 0 j))) ∧ S' = S)) := by
  refine Kt.of (cc := cX8_isKnown) (nL := 5) (ret := (some .boolean)) (own := RX8) rfl hD (by decide) rfl (Nat.le_of_ble_eq_true rfl) ⟨rfl, rfl⟩ ?_
  intro E hC hR9
  have f77 : Cond.fieldLink RX8 77 "MirrorBenchModel" "root" "[J" ∈ wsX8_isKnown := by decide +kernel
  have f151 : Cond.fieldLink RX8 151 "MirrorBenchModel" "many" "I" ∈ wsX8_isKnown := by decide +kernel
  have f154 : Cond.fieldLink RX8 154 "MirrorBenchModel" "found" "[J" ∈ wsX8_isKnown := by decide +kernel
  have w8 : ∀ w ∈ wsX80, w ∈ wsX8_isKnown := by decide +kernel
  show Wk E g 5 S 0 [(0, vr g 30 0), (1, vi a)] []
  refine kw_iload_n hC dX8_isKnown_0 rfl 1 rfl ?_
  refine kw_istore_n (lv' := [(2, _), (0, _), (1, _)]) hC dX8_isKnown_1 rfl (by decide) rfl ?_
  have hL2 : ∀ (n2 : Nat) (x : Int), (a ≤ x) → (x ≤ 420) → (∀ i, a ≤ i → i < x → ¬ (∀ j, 0 ≤ j → j < 6 → nl (S 58 0 (6 * i + j)) = nl (S 55 0 j))) → 420 - x < (n2 : Int) → Wk E g 5 S 2 [(0, vr g 30 0), (1, vi a), (2, vi x)] [] := by
    intro n2
    induction n2 with
    | zero => intro x x0 x1 hno hm2; exact absurd hm2 (by omega)
    | succ n2 ih2 =>
      intro x x0 x1 hno hm2
      refine kw_iload_n hC dX8_isKnown_2 rfl 2 rfl ?_
      refine kw_aload_n hC dX8_isKnown_3 rfl 0 rfl ?_
      refine kg_30_20 hC w8 f151 dX8_isKnown_4 rfl (by decide) (by decide) ?_
      refine kw_icmp_ge (tgt := 73) hC dX8_isKnown_7 rfl (by decide) (by omega) (by omega) ⟨fun c7 => ?_, fun c7 => ?_⟩
      · refine kw_iconst hC dX8_isKnown_73 rfl ?_
        exact hR9.2.1 rfl _ _ _ _ dX8_isKnown_74 (by omega) ⟨_, rfl, (bz_f (fun q => by obtain ⟨i, i0, i1, hi⟩ := q; exact hno i i0 (by omega) hi)).symm, rfl⟩
      · refine kw_iconst hC dX8_isKnown_10 rfl ?_
        refine kw_chi (z' := bz (∀ j, 0 ≤ j → j < 0 → nl (S 58 0 (6 * x + j)) = nl (S 55 0 j))) (bz_t (fun j _ _ => by omega)).symm ?_
        refine kw_istore_n (lv' := [(3, _), (0, _), (1, _), (2, _)]) hC dX8_isKnown_11 rfl (by decide) rfl ?_
        refine kw_iconst hC dX8_isKnown_12 rfl ?_
        refine kw_istore (lv' := [(4, _), (3, _), (0, _), (1, _), (2, _)]) hC dX8_isKnown_13 rfl (by decide) rfl ?_
        have hL15 : ∀ (n15 : Nat) (k : Int), (0 ≤ k) → (k ≤ 6) → 6 - k < (n15 : Int) → Wk E g 5 S 15 [(0, vr g 30 0), (1, vi a), (2, vi x), (3, vi (bz (∀ j, 0 ≤ j → j < k → nl (S 58 0 (6 * x + j)) = nl (S 55 0 j)))), (4, vi k)] [] := by
          intro n15
          induction n15 with
          | zero => intro k k0 k1 hm15; exact absurd hm15 (by omega)
          | succ n15 ih15 =>
            intro k k0 k1 hm15
            refine kw_iload hC dX8_isKnown_15 rfl 4 rfl ?_
            refine kw_bipush hC dX8_isKnown_17 rfl (by decide) ?_
            refine kw_icmp_ge (tgt := 61) hC dX8_isKnown_19 rfl (by decide) (by omega) (by omega) ⟨fun c19 => ?_, fun c19 => ?_⟩
            · refine kw_iload_n hC dX8_isKnown_61 rfl 3 rfl ?_
              refine kw_ifeq_b (tgt := 67) hC dX8_isKnown_62 rfl (by decide) ⟨fun c62 => ?_, fun c62 => ?_⟩
              · refine kw_iinc (lv' := [(2, _), (0, _), (1, _), (3, _), (4, _)]) hC dX8_isKnown_67 rfl 2 rfl (by decide) rfl ?_
                refine kw_goto (tgt := 2) hC dX8_isKnown_70 rfl (by decide) ?_
                refine kw_lv [1, 2, 0] rfl ?_
                exact ih2 (x + 1) (by omega) (by omega) (fun i i0 i1 => by rcases Decidable.em (i = x) with e | e; exact (by rw [e]; exact fun q => c62 (fun j j0 j1 => q j j0 (by omega))); exact hno i i0 (by omega)) (by omega)
              · refine kw_iconst hC dX8_isKnown_65 rfl ?_
                exact hR9.2.1 rfl _ _ _ _ dX8_isKnown_66 (by omega) ⟨_, rfl, (bz_t ⟨x, x0, by omega, fun j j0 j1 => c62 j j0 (by first | omega | exact absurd c62 c23)⟩).symm, rfl⟩
            · refine kw_iload_n hC dX8_isKnown_22 rfl 3 rfl ?_
              refine kw_ifeq_b (tgt := 61) hC dX8_isKnown_23 rfl (by decide) ⟨fun c23 => ?_, fun c23 => ?_⟩
              · refine kw_iload_n hC dX8_isKnown_61 rfl 3 rfl ?_
                refine kw_ifeq_b (tgt := 67) hC dX8_isKnown_62 rfl (by decide) ⟨fun c62 => ?_, fun c62 => ?_⟩
                · refine kw_iinc (lv' := [(2, _), (0, _), (1, _), (3, _), (4, _)]) hC dX8_isKnown_67 rfl 2 rfl (by decide) rfl ?_
                  refine kw_goto (tgt := 2) hC dX8_isKnown_70 rfl (by decide) ?_
                  refine kw_lv [1, 2, 0] rfl ?_
                  exact ih2 (x + 1) (by omega) (by omega) (fun i i0 i1 => by rcases Decidable.em (i = x) with e | e; exact (by rw [e]; exact fun q => c62 (fun j j0 j1 => q j j0 (by omega))); exact hno i i0 (by omega)) (by omega)
                · refine kw_iconst hC dX8_isKnown_65 rfl ?_
                  exact hR9.2.1 rfl _ _ _ _ dX8_isKnown_66 (by omega) ⟨_, rfl, (bz_t ⟨x, x0, by omega, fun j j0 j1 => c62 j j0 (by first | omega | exact absurd c62 c23)⟩).symm, rfl⟩
              · refine kw_aload_n hC dX8_isKnown_26 rfl 0 rfl ?_
                refine kg_30_18 hC w8 f154 dX8_isKnown_27 rfl (by decide) (by decide) ?_
                refine kw_bipush hC dX8_isKnown_30 rfl (by decide) ?_
                refine kw_iload_n hC dX8_isKnown_32 rfl 2 rfl ?_
                refine kw_imul hC dX8_isKnown_33 rfl ?_
                refine kw_iload hC dX8_isKnown_34 rfl 4 rfl ?_
                refine kw_iadd hC dX8_isKnown_36 rfl ?_
                refine ka_58 hC dX8_isKnown_37 rfl (by decide) (by decide) (by omega) (by omega) ?_
                refine kw_nrl ?_
                refine kw_aload_n hC dX8_isKnown_38 rfl 0 rfl ?_
                refine kg_30_15 hC w8 f77 dX8_isKnown_39 rfl (by decide) (by decide) ?_
                refine kw_iload hC dX8_isKnown_42 rfl 4 rfl ?_
                refine ka_55 hC dX8_isKnown_44 rfl (by decide) (by decide) (by omega) (by omega) ?_
                refine kw_nrl ?_
                refine kw_lcmp hC dX8_isKnown_45 rfl (nl_r _) (nl_r _) ?_
                refine kw_if_ne (tgt := 53) hC dX8_isKnown_46 rfl (by decide) (cz_r _ _) ⟨fun c46 => ?_, fun c46 => ?_⟩
                · replace c46 := (cz_ne _ _).mp c46
                  refine kw_iconst hC dX8_isKnown_53 rfl ?_
                  refine kw_chi (z' := bz (∀ j, 0 ≤ j → j < (k + 1) → nl (S 58 0 (6 * x + j)) = nl (S 55 0 j))) (by first | exact (bz_f (fun q => c46 (q k k0 (by omega)))).symm | exact (bz_t (fun j j0 j1 => by rcases Decidable.em (j = k) with e | e; exact (by rw [e]; omega); exact c23 j j0 (by omega))).symm) ?_
                  refine kw_istore_n (lv' := [(3, _), (0, _), (1, _), (2, _), (4, _)]) hC dX8_isKnown_54 rfl (by decide) rfl ?_
                  refine kw_iinc (lv' := [(4, _), (3, _), (0, _), (1, _), (2, _)]) hC dX8_isKnown_55 rfl 4 rfl (by decide) rfl ?_
                  refine kw_goto (tgt := 15) hC dX8_isKnown_58 rfl (by decide) ?_
                  refine kw_lv [2, 3, 4, 1, 0] rfl ?_
                  exact ih15 (k + 1) (by omega) (by omega) (by omega)
                · replace c46 := (not_congr (cz_ne _ _)).mp c46
                  refine kw_iconst hC dX8_isKnown_49 rfl ?_
                  refine kw_goto (tgt := 54) hC dX8_isKnown_50 rfl (by decide) ?_
                  refine kw_chi (z' := bz (∀ j, 0 ≤ j → j < (k + 1) → nl (S 58 0 (6 * x + j)) = nl (S 55 0 j))) (by first | exact (bz_f (fun q => c46 (q k k0 (by omega)))).symm | exact (bz_t (fun j j0 j1 => by rcases Decidable.em (j = k) with e | e; exact (by rw [e]; omega); exact c23 j j0 (by omega))).symm) ?_
                  refine kw_istore_n (lv' := [(3, _), (0, _), (1, _), (2, _), (4, _)]) hC dX8_isKnown_54 rfl (by decide) rfl ?_
                  refine kw_iinc (lv' := [(4, _), (3, _), (0, _), (1, _), (2, _)]) hC dX8_isKnown_55 rfl 4 rfl (by decide) rfl ?_
                  refine kw_goto (tgt := 15) hC dX8_isKnown_58 rfl (by decide) ?_
                  refine kw_lv [2, 3, 4, 1, 0] rfl ?_
                  exact ih15 (k + 1) (by omega) (by omega) (by omega)
        refine kw_lv [2, 3, 4, 1, 0] rfl ?_
        exact hL15 7 0 (by omega) (by omega) (by omega)
  refine kw_lv [1, 2, 0] rfl ?_
  exact hL2 421 a (by omega) (by omega) (fun i _ _ => by omega) (by omega)

set_option maxHeartbeats 4000000 in
set_option maxRecDepth 100000 in
theorem d_X8_comes {g : wG} (hD : wD g) {S : wSt} {a b : Int} (a0 : 0 ≤ a) (a1 : a ≤ S 30 0 20) (m1 : S 30 0 20 ≤ 419) (l : Launch) : Kt l yX8_comes wsX8_comes ({ frames := 0, cells := 0, slots := 0, locals := 0 } : Room) g S [vr g 30 0, vi a, vi b] (pV (fun S' => Fr fC S S' ∧ (S' 30 0 20 = S 30 0 20 + 1 ∧ ∃ p, (a ≤ p ∧ p ≤ S 30 0 20) ∧ (∀ j, 0 ≤ j → j < 6 * p → S' 58 0 j = S 58 0 j) ∧ (∀ k, 0 ≤ k → k < 6 → S' 58 0 (6 * p + k) = nl (S 55 0 k)) ∧ ∀ j, 6 * p ≤ j → j < 6 * S 30 0 20 → S' 58 0 (j + 6) = S 58 0 j))) := by
  refine Kt.of (cc := cX8_comes) (nL := 6) (ret := none) (own := RX8) rfl hD (by decide) rfl (Nat.le_of_ble_eq_true rfl) ⟨rfl, rfl⟩ ?_
  intro E hC hR9
  have f77 : Cond.fieldLink RX8 77 "MirrorBenchModel" "root" "[J" ∈ wsX8_comes := by decide +kernel
  have f151 : Cond.fieldLink RX8 151 "MirrorBenchModel" "many" "I" ∈ wsX8_comes := by decide +kernel
  have f154 : Cond.fieldLink RX8 154 "MirrorBenchModel" "found" "[J" ∈ wsX8_comes := by decide +kernel
  have f157 : Cond.fieldLink RX8 157 "MirrorBenchModel" "heights" "[I" ∈ wsX8_comes := by decide +kernel
  have w8 : ∀ w ∈ wsX80, w ∈ wsX8_comes := by decide +kernel
  show Wk E g 6 S 0 [(0, vr g 30 0), (1, vi a), (2, vi b)] []
  have hfS : Fr fC S S := Fr.rfl _ S
  refine kw_iload_n hC dX8_comes_0 rfl 1 rfl ?_
  refine kw_istore_n (lv' := [(3, _), (0, _), (1, _), (2, _)]) hC dX8_comes_1 rfl (by decide) rfl ?_
  refine kw_iconst hC dX8_comes_2 rfl ?_
  refine kw_istore (lv' := [(4, _), (3, _), (0, _), (1, _), (2, _)]) hC dX8_comes_3 rfl (by decide) rfl ?_
  have hL5 : ∀ (n5 : Nat) (p : Int) (z : Int), (a ≤ p) → (p ≤ S 30 0 20) → (z = 0 ∨ z = 1) → 2 * (S 30 0 20 - p) + z < (n5 : Int) → Wk E g 6 S 5 [(0, vr g 30 0), (1, vi a), (2, vi b), (3, vi p), (4, vi z)] [] := by
    intro n5
    induction n5 with
    | zero => intro p z p0 p1 hz hm5; exact absurd hm5 (by omega)
    | succ n5 ih5 =>
      intro p z p0 p1 hz hm5
      refine kw_iload_n hC dX8_comes_5 rfl 3 rfl ?_
      refine kw_aload_n hC dX8_comes_6 rfl 0 rfl ?_
      refine kg_30_20 hC w8 f151 dX8_comes_7 rfl (by decide) (by decide) ?_
      refine kw_icmp_ge (tgt := 102) hC dX8_comes_10 rfl (by decide) (by omega) (by omega) ⟨fun c10 => ?_, fun c10 => ?_⟩
      · refine kw_bipush hC dX8_comes_102 rfl (by decide) ?_
        refine kw_aload_n hC dX8_comes_104 rfl 0 rfl ?_
        refine kg_30_20 hC w8 f151 dX8_comes_105 rfl (by decide) (by decide) ?_
        refine kw_imul hC dX8_comes_108 rfl ?_
        refine kw_iconst hC dX8_comes_109 rfl ?_
        refine kw_isub hC dX8_comes_110 rfl ?_
        refine kw_istore (lv' := [(5, _), (0, _), (1, _), (2, _), (3, _), (4, _)]) hC dX8_comes_111 rfl (by decide) rfl ?_
        have hL113 : ∀ (n113 : Nat) (x : Int) (W113 : wSt), Fr fC S W113 → (6 * p - 1 ≤ x) → (x ≤ 6 * S 30 0 20 - 1) → (W113 30 0 20 = S 30 0 20) → (∀ j, x < j → j < 6 * S 30 0 20 → W113 58 0 (j + 6) = S 58 0 j) → (∀ j, j ≤ x + 6 → j < 6 * p ∨ j ≤ x → W113 58 0 j = S 58 0 j) → x + 1 < (n113 : Int) → Wk E g 6 W113 113 [(0, vr g 30 0), (1, vi a), (2, vi b), (3, vi p), (4, vi z), (5, vi x)] [] := by
          intro n113
          induction n113 with
          | zero => intro x W113 hfW113 y0 y1 x20 h1 h2 hm113; exact absurd hm113 (by omega)
          | succ n113 ih113 =>
            intro x W113 hfW113 y0 y1 x20 h1 h2 hm113
            refine kw_iload hC dX8_comes_113 rfl 5 rfl ?_
            refine kw_bipush hC dX8_comes_115 rfl (by decide) ?_
            refine kw_iload_n hC dX8_comes_117 rfl 3 rfl ?_
            refine kw_imul hC dX8_comes_118 rfl ?_
            refine kw_icmp_lt (tgt := 145) hC dX8_comes_119 rfl (by decide) (by omega) (by omega) ⟨fun c119 => ?_, fun c119 => ?_⟩
            · refine kw_iconst hC dX8_comes_145 rfl ?_
              refine kw_istore (lv' := [(5, _), (0, _), (1, _), (2, _), (3, _), (4, _)]) hC dX8_comes_146 rfl (by decide) rfl ?_
              have hL148 : ∀ (n148 : Nat) (k : Int) (W148 : wSt), Fr fC S W148 → (0 ≤ k) → (k ≤ 6) → (W148 30 0 20 = S 30 0 20) → (∀ j, 6 * p ≤ j → j < 6 * S 30 0 20 → W148 58 0 (j + 6) = S 58 0 j) → (∀ j, 0 ≤ j → j < 6 * p → W148 58 0 j = S 58 0 j) → (∀ j, 0 ≤ j → j < k → W148 58 0 (6 * p + j) = nl (S 55 0 j)) → 6 - k < (n148 : Int) → Wk E g 6 W148 148 [(0, vr g 30 0), (1, vi a), (2, vi b), (3, vi p), (4, vi z), (5, vi k)] [] := by
                intro n148
                induction n148 with
                | zero => intro k W148 hfW148 k0 k1 x20 h1 h2 h3 hm148; exact absurd hm148 (by omega)
                | succ n148 ih148 =>
                  intro k W148 hfW148 k0 k1 x20 h1 h2 h3 hm148
                  have e55 : ∀ j, W148 55 0 j = S 55 0 j := fun j => hfW148 55 0 j (by unfold fC; omega)
                  refine kw_iload hC dX8_comes_148 rfl 5 rfl ?_
                  refine kw_bipush hC dX8_comes_150 rfl (by decide) ?_
                  refine kw_icmp_ge (tgt := 180) hC dX8_comes_152 rfl (by decide) (by omega) (by omega) ⟨fun c152 => ?_, fun c152 => ?_⟩
                  · refine kw_aload_n hC dX8_comes_180 rfl 0 rfl ?_
                    refine kg_30_19 hC w8 f157 dX8_comes_181 rfl (by decide) (by decide) ?_
                    refine kw_aload_n hC dX8_comes_184 rfl 0 rfl ?_
                    refine kg_30_20 hC w8 f151 dX8_comes_185 rfl (by decide) (by decide) ?_
                    refine kw_iload_n hC dX8_comes_188 rfl 2 rfl ?_
                    refine ks_59 hC dX8_comes_189 rfl (by decide) (by decide) (by omega) (by omega) ?_
                    refine kw_hv hfW148 (by unfold fC; omega) (fun S4 hfS4 hv4 ho4 => ?_)
                    have hvA := hv4
                    have hoA := ho4
                    have x21 : S4 30 0 20 = S 30 0 20 := (ho4 30 0 20 (by omega)).trans x20
                    refine kw_aload_n hC dX8_comes_190 rfl 0 rfl ?_
                    refine kw_dup hC dX8_comes_191 rfl rfl ?_
                    refine kg_30_20 hC w8 f151 dX8_comes_192 rfl (by decide) (by decide) ?_
                    refine kw_chi (z' := S 30 0 20) x21 ?_
                    refine kw_iconst hC dX8_comes_195 rfl ?_
                    refine kw_iadd hC dX8_comes_196 rfl ?_
                    refine kp_30_20 hC w8 f151 dX8_comes_197 rfl (by decide) (by decide) ?_
                    refine kw_hv hfS4 (by unfold fC; omega) (fun S5 hfS5 hv5 ho5 => ?_)
                    exact hR9.2.2.2 rfl _ _ _ dX8_comes_200 ⟨rfl, hfS5, hv5, p, ⟨by omega, by omega⟩, fun j j0 j1 => by rw [ho5 58 0 j (by omega), hoA 58 0 j (by omega)]; exact h2 j j0 j1, fun k k0 k1 => by rw [ho5 58 0 _ (by omega), hoA 58 0 _ (by omega)]; exact h3 k k0 (by omega), fun j j0 j1 => by rw [ho5 58 0 _ (by omega), hoA 58 0 _ (by omega)]; exact h1 j j0 j1⟩
                  · refine kw_aload_n hC dX8_comes_155 rfl 0 rfl ?_
                    refine kg_30_18 hC w8 f154 dX8_comes_156 rfl (by decide) (by decide) ?_
                    refine kw_bipush hC dX8_comes_159 rfl (by decide) ?_
                    refine kw_iload_n hC dX8_comes_161 rfl 3 rfl ?_
                    refine kw_imul hC dX8_comes_162 rfl ?_
                    refine kw_iload hC dX8_comes_163 rfl 5 rfl ?_
                    refine kw_iadd hC dX8_comes_165 rfl ?_
                    refine kw_aload_n hC dX8_comes_166 rfl 0 rfl ?_
                    refine kg_30_15 hC w8 f77 dX8_comes_167 rfl (by decide) (by decide) ?_
                    refine kw_iload hC dX8_comes_170 rfl 5 rfl ?_
                    refine ka_55 hC dX8_comes_172 rfl (by decide) (by decide) (by omega) (by omega) ?_
                    refine kw_nrl ?_
                    refine ks_58 hC dX8_comes_173 rfl (by decide) (by decide) (by omega) (by omega) ?_
                    refine kw_hv hfW148 (by unfold fC; omega) (fun S6 hfS6 hv6 ho6 => ?_)
                    refine kw_iinc (lv' := [(5, _), (0, _), (1, _), (2, _), (3, _), (4, _)]) hC dX8_comes_174 rfl 5 rfl (by decide) rfl ?_
                    refine kw_goto (tgt := 148) hC dX8_comes_177 rfl (by decide) ?_
                    refine kw_lv [1, 2, 3, 4, 5, 0] rfl ?_
                    exact ih148 (k + 1) S6 hfS6 (by omega) (by omega) ((ho6 30 0 20 (by omega)).trans x20) (fun j j0 j1 => (ho6 58 0 _ (by omega)).trans (h1 j j0 j1)) (fun j j0 j1 => (ho6 58 0 j (by omega)).trans (h2 j j0 j1)) (fun j j0 j1 => by rcases Decidable.em (j = k) with e | e; exact (by rw [e, hv6, e55 k]); exact (ho6 58 0 _ (by omega)).trans (h3 j j0 (by omega))) (by omega)
              refine kw_lv [1, 2, 3, 4, 5, 0] rfl ?_
              exact hL148 7 0 W113 hfW113 (by omega) (by omega) x20 (fun j j0 j1 => h1 j (by omega) j1) (fun j j0 j1 => h2 j (by omega) (by omega)) (fun j _ _ => by omega) (by omega)
            · refine kw_aload_n hC dX8_comes_122 rfl 0 rfl ?_
              refine kg_30_18 hC w8 f154 dX8_comes_123 rfl (by decide) (by decide) ?_
              refine kw_iload hC dX8_comes_126 rfl 5 rfl ?_
              refine kw_bipush hC dX8_comes_128 rfl (by decide) ?_
              refine kw_iadd hC dX8_comes_130 rfl ?_
              refine kw_aload_n hC dX8_comes_131 rfl 0 rfl ?_
              refine kg_30_18 hC w8 f154 dX8_comes_132 rfl (by decide) (by decide) ?_
              refine kw_iload hC dX8_comes_135 rfl 5 rfl ?_
              refine ka_58 hC dX8_comes_137 rfl (by decide) (by decide) (by omega) (by omega) ?_
              refine ks_58 hC dX8_comes_138 rfl (by decide) (by decide) (by omega) (by omega) ?_
              refine kw_hv hfW113 (by unfold fC; omega) (fun S7 hfS7 hv7 ho7 => ?_)
              refine kw_iinc (lv' := [(5, _), (0, _), (1, _), (2, _), (3, _), (4, _)]) hC dX8_comes_139 rfl 5 rfl (by decide) rfl ?_
              refine kw_goto (tgt := 113) hC dX8_comes_142 rfl (by decide) ?_
              refine kw_lv [1, 2, 3, 4, 5, 0] rfl ?_
              exact ih113 (x + -1) S7 hfS7 (by omega) (by omega) ((ho7 30 0 20 (by omega)).trans x20) (fun j j0 j1 => by rcases Decidable.em (j = x) with e | e; exact (by rw [e, hv7]; exact h2 x (by omega) (by omega)); exact (ho7 58 0 _ (by omega)).trans (h1 j (by omega) j1)) (fun j j0 j1 => (ho7 58 0 j (by omega)).trans (h2 j (by omega) (by omega))) (by omega)
        refine kw_lv [1, 2, 3, 4, 5, 0] rfl ?_
        exact hL113 2600 _ S hfS (by omega) (by omega) (by omega) (fun j _ _ => by omega) (fun _ _ _ => rfl) (by omega)
      · refine kw_iload hC dX8_comes_13 rfl 4 rfl ?_
        refine kw_if_eq (tgt := 102) hC dX8_comes_15 rfl (by decide) (by omega) ⟨fun c15 => ?_, fun c15 => ?_⟩
        · refine kw_bipush hC dX8_comes_102 rfl (by decide) ?_
          refine kw_aload_n hC dX8_comes_104 rfl 0 rfl ?_
          refine kg_30_20 hC w8 f151 dX8_comes_105 rfl (by decide) (by decide) ?_
          refine kw_imul hC dX8_comes_108 rfl ?_
          refine kw_iconst hC dX8_comes_109 rfl ?_
          refine kw_isub hC dX8_comes_110 rfl ?_
          refine kw_istore (lv' := [(5, _), (0, _), (1, _), (2, _), (3, _), (4, _)]) hC dX8_comes_111 rfl (by decide) rfl ?_
          have hL113 : ∀ (n113 : Nat) (x : Int) (W113 : wSt), Fr fC S W113 → (6 * p - 1 ≤ x) → (x ≤ 6 * S 30 0 20 - 1) → (W113 30 0 20 = S 30 0 20) → (∀ j, x < j → j < 6 * S 30 0 20 → W113 58 0 (j + 6) = S 58 0 j) → (∀ j, j ≤ x + 6 → j < 6 * p ∨ j ≤ x → W113 58 0 j = S 58 0 j) → x + 1 < (n113 : Int) → Wk E g 6 W113 113 [(0, vr g 30 0), (1, vi a), (2, vi b), (3, vi p), (4, vi z), (5, vi x)] [] := by
            intro n113
            induction n113 with
            | zero => intro x W113 hfW113 y0 y1 x20 h1 h2 hm113; exact absurd hm113 (by omega)
            | succ n113 ih113 =>
              intro x W113 hfW113 y0 y1 x20 h1 h2 hm113
              refine kw_iload hC dX8_comes_113 rfl 5 rfl ?_
              refine kw_bipush hC dX8_comes_115 rfl (by decide) ?_
              refine kw_iload_n hC dX8_comes_117 rfl 3 rfl ?_
              refine kw_imul hC dX8_comes_118 rfl ?_
              refine kw_icmp_lt (tgt := 145) hC dX8_comes_119 rfl (by decide) (by omega) (by omega) ⟨fun c119 => ?_, fun c119 => ?_⟩
              · refine kw_iconst hC dX8_comes_145 rfl ?_
                refine kw_istore (lv' := [(5, _), (0, _), (1, _), (2, _), (3, _), (4, _)]) hC dX8_comes_146 rfl (by decide) rfl ?_
                have hL148 : ∀ (n148 : Nat) (k : Int) (W148 : wSt), Fr fC S W148 → (0 ≤ k) → (k ≤ 6) → (W148 30 0 20 = S 30 0 20) → (∀ j, 6 * p ≤ j → j < 6 * S 30 0 20 → W148 58 0 (j + 6) = S 58 0 j) → (∀ j, 0 ≤ j → j < 6 * p → W148 58 0 j = S 58 0 j) → (∀ j, 0 ≤ j → j < k → W148 58 0 (6 * p + j) = nl (S 55 0 j)) → 6 - k < (n148 : Int) → Wk E g 6 W148 148 [(0, vr g 30 0), (1, vi a), (2, vi b), (3, vi p), (4, vi z), (5, vi k)] [] := by
                  intro n148
                  induction n148 with
                  | zero => intro k W148 hfW148 k0 k1 x20 h1 h2 h3 hm148; exact absurd hm148 (by omega)
                  | succ n148 ih148 =>
                    intro k W148 hfW148 k0 k1 x20 h1 h2 h3 hm148
                    have e55 : ∀ j, W148 55 0 j = S 55 0 j := fun j => hfW148 55 0 j (by unfold fC; omega)
                    refine kw_iload hC dX8_comes_148 rfl 5 rfl ?_
                    refine kw_bipush hC dX8_comes_150 rfl (by decide) ?_
                    refine kw_icmp_ge (tgt := 180) hC dX8_comes_152 rfl (by decide) (by omega) (by omega) ⟨fun c152 => ?_, fun c152 => ?_⟩
                    · refine kw_aload_n hC dX8_comes_180 rfl 0 rfl ?_
                      refine kg_30_19 hC w8 f157 dX8_comes_181 rfl (by decide) (by decide) ?_
                      refine kw_aload_n hC dX8_comes_184 rfl 0 rfl ?_
                      refine kg_30_20 hC w8 f151 dX8_comes_185 rfl (by decide) (by decide) ?_
                      refine kw_iload_n hC dX8_comes_188 rfl 2 rfl ?_
                      refine ks_59 hC dX8_comes_189 rfl (by decide) (by decide) (by omega) (by omega) ?_
                      refine kw_hv hfW148 (by unfold fC; omega) (fun S11 hfS11 hv11 ho11 => ?_)
                      have hvA := hv11
                      have hoA := ho11
                      have x21 : S11 30 0 20 = S 30 0 20 := (ho11 30 0 20 (by omega)).trans x20
                      refine kw_aload_n hC dX8_comes_190 rfl 0 rfl ?_
                      refine kw_dup hC dX8_comes_191 rfl rfl ?_
                      refine kg_30_20 hC w8 f151 dX8_comes_192 rfl (by decide) (by decide) ?_
                      refine kw_chi (z' := S 30 0 20) x21 ?_
                      refine kw_iconst hC dX8_comes_195 rfl ?_
                      refine kw_iadd hC dX8_comes_196 rfl ?_
                      refine kp_30_20 hC w8 f151 dX8_comes_197 rfl (by decide) (by decide) ?_
                      refine kw_hv hfS11 (by unfold fC; omega) (fun S12 hfS12 hv12 ho12 => ?_)
                      exact hR9.2.2.2 rfl _ _ _ dX8_comes_200 ⟨rfl, hfS12, hv12, p, ⟨by omega, by omega⟩, fun j j0 j1 => by rw [ho12 58 0 j (by omega), hoA 58 0 j (by omega)]; exact h2 j j0 j1, fun k k0 k1 => by rw [ho12 58 0 _ (by omega), hoA 58 0 _ (by omega)]; exact h3 k k0 (by omega), fun j j0 j1 => by rw [ho12 58 0 _ (by omega), hoA 58 0 _ (by omega)]; exact h1 j j0 j1⟩
                    · refine kw_aload_n hC dX8_comes_155 rfl 0 rfl ?_
                      refine kg_30_18 hC w8 f154 dX8_comes_156 rfl (by decide) (by decide) ?_
                      refine kw_bipush hC dX8_comes_159 rfl (by decide) ?_
                      refine kw_iload_n hC dX8_comes_161 rfl 3 rfl ?_
                      refine kw_imul hC dX8_comes_162 rfl ?_
                      refine kw_iload hC dX8_comes_163 rfl 5 rfl ?_
                      refine kw_iadd hC dX8_comes_165 rfl ?_
                      refine kw_aload_n hC dX8_comes_166 rfl 0 rfl ?_
                      refine kg_30_15 hC w8 f77 dX8_comes_167 rfl (by decide) (by decide) ?_
                      refine kw_iload hC dX8_comes_170 rfl 5 rfl ?_
                      refine ka_55 hC dX8_comes_172 rfl (by decide) (by decide) (by omega) (by omega) ?_
                      refine kw_nrl ?_
                      refine ks_58 hC dX8_comes_173 rfl (by decide) (by decide) (by omega) (by omega) ?_
                      refine kw_hv hfW148 (by unfold fC; omega) (fun S13 hfS13 hv13 ho13 => ?_)
                      refine kw_iinc (lv' := [(5, _), (0, _), (1, _), (2, _), (3, _), (4, _)]) hC dX8_comes_174 rfl 5 rfl (by decide) rfl ?_
                      refine kw_goto (tgt := 148) hC dX8_comes_177 rfl (by decide) ?_
                      refine kw_lv [1, 2, 3, 4, 5, 0] rfl ?_
                      exact ih148 (k + 1) S13 hfS13 (by omega) (by omega) ((ho13 30 0 20 (by omega)).trans x20) (fun j j0 j1 => (ho13 58 0 _ (by omega)).trans (h1 j j0 j1)) (fun j j0 j1 => (ho13 58 0 j (by omega)).trans (h2 j j0 j1)) (fun j j0 j1 => by rcases Decidable.em (j = k) with e | e; exact (by rw [e, hv13, e55 k]); exact (ho13 58 0 _ (by omega)).trans (h3 j j0 (by omega))) (by omega)
                refine kw_lv [1, 2, 3, 4, 5, 0] rfl ?_
                exact hL148 7 0 W113 hfW113 (by omega) (by omega) x20 (fun j j0 j1 => h1 j (by omega) j1) (fun j j0 j1 => h2 j (by omega) (by omega)) (fun j _ _ => by omega) (by omega)
              · refine kw_aload_n hC dX8_comes_122 rfl 0 rfl ?_
                refine kg_30_18 hC w8 f154 dX8_comes_123 rfl (by decide) (by decide) ?_
                refine kw_iload hC dX8_comes_126 rfl 5 rfl ?_
                refine kw_bipush hC dX8_comes_128 rfl (by decide) ?_
                refine kw_iadd hC dX8_comes_130 rfl ?_
                refine kw_aload_n hC dX8_comes_131 rfl 0 rfl ?_
                refine kg_30_18 hC w8 f154 dX8_comes_132 rfl (by decide) (by decide) ?_
                refine kw_iload hC dX8_comes_135 rfl 5 rfl ?_
                refine ka_58 hC dX8_comes_137 rfl (by decide) (by decide) (by omega) (by omega) ?_
                refine ks_58 hC dX8_comes_138 rfl (by decide) (by decide) (by omega) (by omega) ?_
                refine kw_hv hfW113 (by unfold fC; omega) (fun S14 hfS14 hv14 ho14 => ?_)
                refine kw_iinc (lv' := [(5, _), (0, _), (1, _), (2, _), (3, _), (4, _)]) hC dX8_comes_139 rfl 5 rfl (by decide) rfl ?_
                refine kw_goto (tgt := 113) hC dX8_comes_142 rfl (by decide) ?_
                refine kw_lv [1, 2, 3, 4, 5, 0] rfl ?_
                exact ih113 (x + -1) S14 hfS14 (by omega) (by omega) ((ho14 30 0 20 (by omega)).trans x20) (fun j j0 j1 => by rcases Decidable.em (j = x) with e | e; exact (by rw [e, hv14]; exact h2 x (by omega) (by omega)); exact (ho14 58 0 _ (by omega)).trans (h1 j (by omega) j1)) (fun j j0 j1 => (ho14 58 0 j (by omega)).trans (h2 j (by omega) (by omega))) (by omega)
          refine kw_lv [1, 2, 3, 4, 5, 0] rfl ?_
          exact hL113 2600 _ S hfS (by omega) (by omega) (by omega) (fun j _ _ => by omega) (fun _ _ _ => rfl) (by omega)
        · refine kw_iconst hC dX8_comes_18 rfl ?_
          refine kw_istore (lv' := [(5, _), (0, _), (1, _), (2, _), (3, _), (4, _)]) hC dX8_comes_19 rfl (by decide) rfl ?_
          have hL21 : ∀ (n21 : Nat) (k : Int), (0 ≤ k) → (k ≤ 5) → 5 - k < (n21 : Int) → Wk E g 6 S 21 [(0, vr g 30 0), (1, vi a), (2, vi b), (3, vi p), (4, vi z), (5, vi k)] [] := by
            intro n21
            induction n21 with
            | zero => intro k k0 k1 hm21; exact absurd hm21 (by omega)
            | succ n21 ih21 =>
              intro k k0 k1 hm21
              refine kw_iload hC dX8_comes_21 rfl 5 rfl ?_
              refine kw_iconst hC dX8_comes_23 rfl ?_
              refine kw_icmp_ge (tgt := 56) hC dX8_comes_24 rfl (by decide) (by omega) (by omega) ⟨fun c24 => ?_, fun c24 => ?_⟩
              · refine kw_aload_n hC dX8_comes_56 rfl 0 rfl ?_
                refine kg_30_18 hC w8 f154 dX8_comes_57 rfl (by decide) (by decide) ?_
                refine kw_bipush hC dX8_comes_60 rfl (by decide) ?_
                refine kw_iload_n hC dX8_comes_62 rfl 3 rfl ?_
                refine kw_imul hC dX8_comes_63 rfl ?_
                refine kw_iload hC dX8_comes_64 rfl 5 rfl ?_
                refine kw_iadd hC dX8_comes_66 rfl ?_
                refine ka_58 hC dX8_comes_67 rfl (by decide) (by decide) (by omega) (by omega) ?_
                refine kw_nrl ?_
                refine kw_aload_n hC dX8_comes_68 rfl 0 rfl ?_
                refine kg_30_15 hC w8 f77 dX8_comes_69 rfl (by decide) (by decide) ?_
                refine kw_iload hC dX8_comes_72 rfl 5 rfl ?_
                refine ka_55 hC dX8_comes_74 rfl (by decide) (by decide) (by omega) (by omega) ?_
                refine kw_nrl ?_
                refine kw_lcmp hC dX8_comes_75 rfl (nl_r _) (nl_r _) ?_
                refine kw_if_le (tgt := 83) hC dX8_comes_76 rfl (by decide) (cz_r _ _) ⟨fun c76 => ?_, fun c76 => ?_⟩
                · replace c76 := (cz_le _ _).mp c76
                  refine kw_iconst hC dX8_comes_83 rfl ?_
                  refine kw_istore (lv' := [(4, _), (0, _), (1, _), (2, _), (3, _), (5, _)]) hC dX8_comes_84 rfl (by decide) rfl ?_
                  refine kw_iload_n hC dX8_comes_86 rfl 4 rfl ?_
                  refine kw_iload hC dX8_comes_87 rfl 0 rfl ?_
                  refine kw_if_eq (tgt := 96) hC dX8_comes_89 rfl (by decide) (by omega) ⟨fun c89 => ?_, fun c89 => ?_⟩
                  · refine kw_iconst hC dX8_comes_96 rfl ?_
                    refine kw_iadd hC dX8_comes_97 rfl ?_
                    refine kw_istore_n (lv' := [(3, _), (4, _), (0, _), (1, _), (2, _), (5, _)]) hC dX8_comes_98 rfl (by decide) rfl ?_
                    refine kw_goto (tgt := 5) hC dX8_comes_99 rfl (by decide) ?_
                    refine kw_lv [2, 3, 4, 0, 1] rfl ?_
                    exact ih5 _ _ (by omega) (by omega) (by omega) (by omega)
                  · refine kw_iconst hC dX8_comes_92 rfl ?_
                    refine kw_goto (tgt := 97) hC dX8_comes_93 rfl (by decide) ?_
                    refine kw_iadd hC dX8_comes_97 rfl ?_
                    refine kw_istore_n (lv' := [(3, _), (4, _), (0, _), (1, _), (2, _), (5, _)]) hC dX8_comes_98 rfl (by decide) rfl ?_
                    refine kw_goto (tgt := 5) hC dX8_comes_99 rfl (by decide) ?_
                    refine kw_lv [2, 3, 4, 0, 1] rfl ?_
                    exact ih5 _ _ (by omega) (by omega) (by omega) (by omega)
                · replace c76 := (not_congr (cz_le _ _)).mp c76
                  refine kw_iconst hC dX8_comes_79 rfl ?_
                  refine kw_goto (tgt := 84) hC dX8_comes_80 rfl (by decide) ?_
                  refine kw_istore (lv' := [(4, _), (0, _), (1, _), (2, _), (3, _), (5, _)]) hC dX8_comes_84 rfl (by decide) rfl ?_
                  refine kw_iload_n hC dX8_comes_86 rfl 4 rfl ?_
                  refine kw_iload hC dX8_comes_87 rfl 0 rfl ?_
                  refine kw_if_eq (tgt := 96) hC dX8_comes_89 rfl (by decide) (by omega) ⟨fun c89 => ?_, fun c89 => ?_⟩
                  · refine kw_iconst hC dX8_comes_96 rfl ?_
                    refine kw_iadd hC dX8_comes_97 rfl ?_
                    refine kw_istore_n (lv' := [(3, _), (4, _), (0, _), (1, _), (2, _), (5, _)]) hC dX8_comes_98 rfl (by decide) rfl ?_
                    refine kw_goto (tgt := 5) hC dX8_comes_99 rfl (by decide) ?_
                    refine kw_lv [2, 3, 4, 0, 1] rfl ?_
                    exact ih5 _ _ (by omega) (by omega) (by omega) (by omega)
                  · refine kw_iconst hC dX8_comes_92 rfl ?_
                    refine kw_goto (tgt := 97) hC dX8_comes_93 rfl (by decide) ?_
                    refine kw_iadd hC dX8_comes_97 rfl ?_
                    refine kw_istore_n (lv' := [(3, _), (4, _), (0, _), (1, _), (2, _), (5, _)]) hC dX8_comes_98 rfl (by decide) rfl ?_
                    refine kw_goto (tgt := 5) hC dX8_comes_99 rfl (by decide) ?_
                    refine kw_lv [2, 3, 4, 0, 1] rfl ?_
                    exact ih5 _ _ (by omega) (by omega) (by omega) (by omega)
              · refine kw_aload_n hC dX8_comes_27 rfl 0 rfl ?_
                refine kg_30_18 hC w8 f154 dX8_comes_28 rfl (by decide) (by decide) ?_
                refine kw_bipush hC dX8_comes_31 rfl (by decide) ?_
                refine kw_iload_n hC dX8_comes_33 rfl 3 rfl ?_
                refine kw_imul hC dX8_comes_34 rfl ?_
                refine kw_iload hC dX8_comes_35 rfl 5 rfl ?_
                refine kw_iadd hC dX8_comes_37 rfl ?_
                refine ka_58 hC dX8_comes_38 rfl (by decide) (by decide) (by omega) (by omega) ?_
                refine kw_nrl ?_
                refine kw_aload_n hC dX8_comes_39 rfl 0 rfl ?_
                refine kg_30_15 hC w8 f77 dX8_comes_40 rfl (by decide) (by decide) ?_
                refine kw_iload hC dX8_comes_43 rfl 5 rfl ?_
                refine ka_55 hC dX8_comes_45 rfl (by decide) (by decide) (by omega) (by omega) ?_
                refine kw_nrl ?_
                refine kw_lcmp hC dX8_comes_46 rfl (nl_r _) (nl_r _) ?_
                refine kw_if_ne (tgt := 56) hC dX8_comes_47 rfl (by decide) (cz_r _ _) ⟨fun c47 => ?_, fun c47 => ?_⟩
                · replace c47 := (cz_ne _ _).mp c47
                  refine kw_aload_n hC dX8_comes_56 rfl 0 rfl ?_
                  refine kg_30_18 hC w8 f154 dX8_comes_57 rfl (by decide) (by decide) ?_
                  refine kw_bipush hC dX8_comes_60 rfl (by decide) ?_
                  refine kw_iload_n hC dX8_comes_62 rfl 3 rfl ?_
                  refine kw_imul hC dX8_comes_63 rfl ?_
                  refine kw_iload hC dX8_comes_64 rfl 5 rfl ?_
                  refine kw_iadd hC dX8_comes_66 rfl ?_
                  refine ka_58 hC dX8_comes_67 rfl (by decide) (by decide) (by omega) (by omega) ?_
                  refine kw_nrl ?_
                  refine kw_aload_n hC dX8_comes_68 rfl 0 rfl ?_
                  refine kg_30_15 hC w8 f77 dX8_comes_69 rfl (by decide) (by decide) ?_
                  refine kw_iload hC dX8_comes_72 rfl 5 rfl ?_
                  refine ka_55 hC dX8_comes_74 rfl (by decide) (by decide) (by omega) (by omega) ?_
                  refine kw_nrl ?_
                  refine kw_lcmp hC dX8_comes_75 rfl (nl_r _) (nl_r _) ?_
                  refine kw_if_le (tgt := 83) hC dX8_comes_76 rfl (by decide) (cz_r _ _) ⟨fun c76 => ?_, fun c76 => ?_⟩
                  · replace c76 := (cz_le _ _).mp c76
                    refine kw_iconst hC dX8_comes_83 rfl ?_
                    refine kw_istore (lv' := [(4, _), (0, _), (1, _), (2, _), (3, _), (5, _)]) hC dX8_comes_84 rfl (by decide) rfl ?_
                    refine kw_iload_n hC dX8_comes_86 rfl 4 rfl ?_
                    refine kw_iload hC dX8_comes_87 rfl 0 rfl ?_
                    refine kw_if_eq (tgt := 96) hC dX8_comes_89 rfl (by decide) (by omega) ⟨fun c89 => ?_, fun c89 => ?_⟩
                    · refine kw_iconst hC dX8_comes_96 rfl ?_
                      refine kw_iadd hC dX8_comes_97 rfl ?_
                      refine kw_istore_n (lv' := [(3, _), (4, _), (0, _), (1, _), (2, _), (5, _)]) hC dX8_comes_98 rfl (by decide) rfl ?_
                      refine kw_goto (tgt := 5) hC dX8_comes_99 rfl (by decide) ?_
                      refine kw_lv [2, 3, 4, 0, 1] rfl ?_
                      exact ih5 _ _ (by omega) (by omega) (by omega) (by omega)
                    · refine kw_iconst hC dX8_comes_92 rfl ?_
                      refine kw_goto (tgt := 97) hC dX8_comes_93 rfl (by decide) ?_
                      refine kw_iadd hC dX8_comes_97 rfl ?_
                      refine kw_istore_n (lv' := [(3, _), (4, _), (0, _), (1, _), (2, _), (5, _)]) hC dX8_comes_98 rfl (by decide) rfl ?_
                      refine kw_goto (tgt := 5) hC dX8_comes_99 rfl (by decide) ?_
                      refine kw_lv [2, 3, 4, 0, 1] rfl ?_
                      exact ih5 _ _ (by omega) (by omega) (by omega) (by omega)
                  · replace c76 := (not_congr (cz_le _ _)).mp c76
                    refine kw_iconst hC dX8_comes_79 rfl ?_
                    refine kw_goto (tgt := 84) hC dX8_comes_80 rfl (by decide) ?_
                    refine kw_istore (lv' := [(4, _), (0, _), (1, _), (2, _), (3, _), (5, _)]) hC dX8_comes_84 rfl (by decide) rfl ?_
                    refine kw_iload_n hC dX8_comes_86 rfl 4 rfl ?_
                    refine kw_iload hC dX8_comes_87 rfl 0 rfl ?_
                    refine kw_if_eq (tgt := 96) hC dX8_comes_89 rfl (by decide) (by omega) ⟨fun c89 => ?_, fun c89 => ?_⟩
                    · refine kw_iconst hC dX8_comes_96 rfl ?_
                      refine kw_iadd hC dX8_comes_97 rfl ?_
                      refine kw_istore_n (lv' := [(3, _), (4, _), (0, _), (1, _), (2, _), (5, _)]) hC dX8_comes_98 rfl (by decide) rfl ?_
                      refine kw_goto (tgt := 5) hC dX8_comes_99 rfl (by decide) ?_
                      refine kw_lv [2, 3, 4, 0, 1] rfl ?_
                      exact ih5 _ _ (by omega) (by omega) (by omega) (by omega)
                    · refine kw_iconst hC dX8_comes_92 rfl ?_
                      refine kw_goto (tgt := 97) hC dX8_comes_93 rfl (by decide) ?_
                      refine kw_iadd hC dX8_comes_97 rfl ?_
                      refine kw_istore_n (lv' := [(3, _), (4, _), (0, _), (1, _), (2, _), (5, _)]) hC dX8_comes_98 rfl (by decide) rfl ?_
                      refine kw_goto (tgt := 5) hC dX8_comes_99 rfl (by decide) ?_
                      refine kw_lv [2, 3, 4, 0, 1] rfl ?_
                      exact ih5 _ _ (by omega) (by omega) (by omega) (by omega)
                · replace c47 := (not_congr (cz_ne _ _)).mp c47
                  refine kw_iinc (lv' := [(5, _), (0, _), (1, _), (2, _), (3, _), (4, _)]) hC dX8_comes_50 rfl 5 rfl (by decide) rfl ?_
                  refine kw_goto (tgt := 21) hC dX8_comes_53 rfl (by decide) ?_
                  refine kw_lv [1, 2, 3, 4, 5, 0] rfl ?_
                  exact ih21 (k + 1) (by omega) (by omega) (by omega)
          refine kw_lv [1, 2, 3, 4, 5, 0] rfl ?_
          exact hL21 6 0 (by omega) (by omega) (by omega)
  refine kw_lv [2, 3, 4, 1, 0] rfl ?_
  exact hL5 900 a _ (by omega) (by omega) (by omega) (by omega)

set_option maxHeartbeats 4000000 in
set_option maxRecDepth 100000 in
theorem d_X8_findRoots {g : wG} (hD : wD g) {S : wSt} {a : Int} (a0 : 1 ≤ a) (a1 : a ≤ 40) (hRS : RI S) (l : Launch) : Kt l yX8_findRoots wsX8_findRoots ({ frames := 2, cells := 0, slots := 0, locals := 49 } : Room) g S [vr g 30 0, vi a] (pI (fun r S' => Fr fR S S' ∧ ((r = 0 ∨ r = 1) ∧ (0 ≤ S' 30 0 20 ∧ S' 30 0 20 ≤ 400) ∧ (0 ≤ S' 30 0 21 ∧ S' 30 0 21 ≤ 400)))) := by
  refine Kt.of (cc := cX8_findRoots) (nL := 7) (ret := (some .boolean)) (own := RX8) rfl hD (by decide) rfl (Nat.le_of_ble_eq_true rfl) ⟨rfl, rfl⟩ ?_
  intro E hC hR9
  have f11 : Cond.fieldLink RX8 11 "MirrorBenchModel" "mirrors" "I" ∈ wsX8_findRoots := by decide +kernel
  have f77 : Cond.fieldLink RX8 77 "MirrorBenchModel" "root" "[J" ∈ wsX8_findRoots := by decide +kernel
  have f151 : Cond.fieldLink RX8 151 "MirrorBenchModel" "many" "I" ∈ wsX8_findRoots := by decide +kernel
  have f154 : Cond.fieldLink RX8 154 "MirrorBenchModel" "found" "[J" ∈ wsX8_findRoots := by decide +kernel
  have f160 : Cond.fieldLink RX8 160 "MirrorBenchModel" "whole" "I" ∈ wsX8_findRoots := by decide +kernel
  have w8 : ∀ w ∈ wsX80, w ∈ wsX8_findRoots := by decide +kernel
  show Wk E g 7 S 0 [(0, vr g 30 0), (1, vi a)] []
  have hfS : Fr fR S S := Fr.rfl _ S
  have hRS := hRS.fr (hfS.mono (fun k i j h => by unfold fR at h; unfold tR; omega))
  have hnS := hRS.n
  have enS : S 30 0 0 = S 30 0 0 := hfS 30 0 0 (by unfold fR; omega)
  refine kw_aload_n hC dX8_findRoots_0 rfl 0 rfl ?_
  refine kw_iconst hC dX8_findRoots_1 rfl ?_
  refine kp_30_20 hC w8 f151 dX8_findRoots_2 rfl (by decide) (by decide) ?_
  refine kw_hv hfS (by unfold fR; omega) (fun S1 hfS1 hv1 ho1 => ?_)
  have hRS1 := hRS.fr (hfS1.mono (fun k i j h => by unfold fR at h; unfold tR; omega))
  have hnS1 := hRS1.n
  have enS1 : S1 30 0 0 = S 30 0 0 := hfS1 30 0 0 (by unfold fR; omega)
  have x20 := hv1
  refine kw_aload_n hC dX8_findRoots_5 rfl 0 rfl ?_
  refine kw_iconst hC dX8_findRoots_6 rfl ?_
  refine kp_30_21 hC w8 f160 dX8_findRoots_7 rfl (by decide) (by decide) ?_
  refine kw_hv hfS1 (by unfold fR; omega) (fun S2 hfS2 hv2 ho2 => ?_)
  have hRS2 := hRS.fr (hfS2.mono (fun k i j h => by unfold fR at h; unfold tR; omega))
  have hnS2 := hRS2.n
  have enS2 : S2 30 0 0 = S 30 0 0 := hfS2 30 0 0 (by unfold fR; omega)
  have e20_2 : S2 30 0 20 = S1 30 0 20 := ho2 30 0 20 (by omega)
  have x21 := hv2
  refine kw_iconst hC dX8_findRoots_10 rfl ?_
  refine kw_istore_n (lv' := [(2, _), (0, _), (1, _)]) hC dX8_findRoots_11 rfl (by decide) rfl ?_
  have hL12 : ∀ (n12 : Nat) (h : Int) (W12 : wSt), Fr fR S W12 → (1 ≤ h) → (h ≤ 41) → (0 ≤ W12 30 0 20) → (W12 30 0 20 ≤ 400) → (0 ≤ W12 30 0 21) → (W12 30 0 21 ≤ 400) → (h = 1 → W12 30 0 20 = 0) → 41 - h < (n12 : Int) → Wk E g 7 W12 12 [(0, vr g 30 0), (1, vi a), (2, vi h)] [] := by
    intro n12
    induction n12 with
    | zero => intro h W12 hfW12 h0 h1 m0 m1 w0 w1 hm1 hm12; exact absurd hm12 (by omega)
    | succ n12 ih12 =>
      intro h W12 hfW12 h0 h1 m0 m1 w0 w1 hm1 hm12
      have hRW12 := hRS.fr (hfW12.mono (fun k i j h => by unfold fR at h; unfold tR; omega))
      have hnW12 := hRW12.n
      have enW12 : W12 30 0 0 = S 30 0 0 := hfW12 30 0 0 (by unfold fR; omega)
      refine kw_iload_n hC dX8_findRoots_12 rfl 2 rfl ?_
      refine kw_iload_n hC dX8_findRoots_13 rfl 1 rfl ?_
      refine kw_icmp_gt (tgt := 189) hC dX8_findRoots_14 rfl (by decide) (by omega) (by omega) ⟨fun c14 => ?_, fun c14 => ?_⟩
      · refine kw_iconst hC dX8_findRoots_189 rfl ?_
        exact hR9.2.1 rfl _ _ _ _ dX8_findRoots_190 (by omega) ⟨_, rfl, hfW12, by omega, by omega, by omega⟩
      · refine kw_aload_n hC dX8_findRoots_17 rfl 0 rfl ?_
        refine kg_30_20 hC w8 f151 dX8_findRoots_18 rfl (by decide) (by decide) ?_
        obtain ⟨f, hff⟩ : ∃ z, z = W12 30 0 20 := ⟨_, rfl⟩
        rw [← hff]
        refine kw_istore_n (lv' := [(3, _), (0, _), (1, _), (2, _)]) hC dX8_findRoots_21 rfl (by decide) rfl ?_
        refine kw_iconst hC dX8_findRoots_22 rfl ?_
        refine kw_istore (lv' := [(4, _), (3, _), (0, _), (1, _), (2, _)]) hC dX8_findRoots_23 rfl (by decide) rfl ?_
        have hL25 : ∀ (n25 : Nat) (i : Int) (W25 : wSt), Fr fR S W25 → (0 ≤ i) → (i ≤ S 30 0 0) → (f ≤ W25 30 0 20) → (W25 30 0 20 ≤ 400) → (0 ≤ W25 30 0 21) → (W25 30 0 21 ≤ 400) → (h = 1 → W25 30 0 20 = i) → S 30 0 0 - i < (n25 : Int) → Wk E g 7 W25 25 [(0, vr g 30 0), (1, vi a), (2, vi h), (3, vi f), (4, vi i)] [] := by
          intro n25
          induction n25 with
          | zero => intro i W25 hfW25 i0 i1 m0 m1 w0 w1 hm1 hm25; exact absurd hm25 (by omega)
          | succ n25 ih25 =>
            intro i W25 hfW25 i0 i1 m0 m1 w0 w1 hm1 hm25
            have hRW25 := hRS.fr (hfW25.mono (fun k i j h => by unfold fR at h; unfold tR; omega))
            have hnW25 := hRW25.n
            have enW25 : W25 30 0 0 = S 30 0 0 := hfW25 30 0 0 (by unfold fR; omega)
            refine kw_iload hC dX8_findRoots_25 rfl 4 rfl ?_
            refine kw_aload_n hC dX8_findRoots_27 rfl 0 rfl ?_
            refine kg_30_0 hC w8 f11 dX8_findRoots_28 rfl (by decide) (by decide) ?_
            refine kw_icmp_ge (tgt := 57) hC dX8_findRoots_31 rfl (by decide) (by omega) (by omega) ⟨fun c31 => ?_, fun c31 => ?_⟩
            · refine kw_iconst hC dX8_findRoots_57 rfl ?_
              refine kw_istore (lv' := [(4, _), (0, _), (1, _), (2, _), (3, _)]) hC dX8_findRoots_58 rfl (by decide) rfl ?_
              have hL60 : ∀ (n60 : Nat) (n : Int) (W60 : wSt), Fr fR S W60 → (0 ≤ n) → (n ≤ f) → (f ≤ W60 30 0 20) → (W60 30 0 20 ≤ 400) → (0 ≤ W60 30 0 21) → (W60 30 0 21 ≤ 400) → f - n < (n60 : Int) → Wk E g 7 W60 60 [(0, vr g 30 0), (1, vi a), (2, vi h), (3, vi f), (4, vi n)] [] := by
                intro n60
                induction n60 with
                | zero => intro n W60 hfW60 n0 n1 m0 m1 w0 w1 hm60; exact absurd hm60 (by omega)
                | succ n60 ih60 =>
                  intro n W60 hfW60 n0 n1 m0 m1 w0 w1 hm60
                  have hRW60 := hRS.fr (hfW60.mono (fun k i j h => by unfold fR at h; unfold tR; omega))
                  have hnW60 := hRW60.n
                  have enW60 : W60 30 0 0 = S 30 0 0 := hfW60 30 0 0 (by unfold fR; omega)
                  refine kw_iload hC dX8_findRoots_60 rfl 4 rfl ?_
                  refine kw_iload_n hC dX8_findRoots_62 rfl 3 rfl ?_
                  refine kw_icmp_ge (tgt := 175) hC dX8_findRoots_63 rfl (by decide) (by omega) (by omega) ⟨fun c63 => ?_, fun c63 => ?_⟩
                  · refine kw_aload_n hC dX8_findRoots_175 rfl 0 rfl ?_
                    refine kw_aload_n hC dX8_findRoots_176 rfl 0 rfl ?_
                    refine kg_30_20 hC w8 f151 dX8_findRoots_177 rfl (by decide) (by decide) ?_
                    refine kp_30_21 hC w8 f160 dX8_findRoots_180 rfl (by decide) (by decide) ?_
                    refine kw_hv hfW60 (by unfold fR; omega) (fun S6 hfS6 hv6 ho6 => ?_)
                    have hRS6 := hRS.fr (hfS6.mono (fun k i j h => by unfold fR at h; unfold tR; omega))
                    have hnS6 := hRS6.n
                    have enS6 : S6 30 0 0 = S 30 0 0 := hfS6 30 0 0 (by unfold fR; omega)
                    have e20_6 : S6 30 0 20 = W60 30 0 20 := ho6 30 0 20 (by omega)
                    have x21 := hv6
                    refine kw_iinc (lv' := [(2, _), (0, _), (1, _), (3, _), (4, _)]) hC dX8_findRoots_183 rfl 2 rfl (by decide) rfl ?_
                    refine kw_goto (tgt := 12) hC dX8_findRoots_186 rfl (by decide) ?_
                    refine kw_lv [1, 2, 0] rfl ?_
                    exact ih12 (h + 1) S6 hfS6 (by omega) (by omega) (by omega) (by omega) (by omega) (by omega) (by omega) (by omega)
                  · refine kw_iconst hC dX8_findRoots_66 rfl ?_
                    refine kw_istore (lv' := [(5, _), (0, _), (1, _), (2, _), (3, _), (4, _)]) hC dX8_findRoots_67 rfl (by decide) rfl ?_
                    have hL69 : ∀ (n69 : Nat) (i : Int) (W69 : wSt), Fr fR S W69 → (0 ≤ i) → (i ≤ S 30 0 0) → (f ≤ W69 30 0 20) → (W69 30 0 20 ≤ 400) → (0 ≤ W69 30 0 21) → (W69 30 0 21 ≤ 400) → S 30 0 0 - i < (n69 : Int) → Wk E g 7 W69 69 [(0, vr g 30 0), (1, vi a), (2, vi h), (3, vi f), (4, vi n), (5, vi i)] [] := by
                      intro n69
                      induction n69 with
                      | zero => intro i W69 hfW69 i0 i1 m0 m1 w0 w1 hm69; exact absurd hm69 (by omega)
                      | succ n69 ih69 =>
                        intro i W69 hfW69 i0 i1 m0 m1 w0 w1 hm69
                        have hRW69 := hRS.fr (hfW69.mono (fun k i j h => by unfold fR at h; unfold tR; omega))
                        have hnW69 := hRW69.n
                        have enW69 : W69 30 0 0 = S 30 0 0 := hfW69 30 0 0 (by unfold fR; omega)
                        refine kw_iload hC dX8_findRoots_69 rfl 5 rfl ?_
                        refine kw_aload_n hC dX8_findRoots_71 rfl 0 rfl ?_
                        refine kg_30_0 hC w8 f11 dX8_findRoots_72 rfl (by decide) (by decide) ?_
                        refine kw_icmp_ge (tgt := 169) hC dX8_findRoots_75 rfl (by decide) (by omega) (by omega) ⟨fun c75 => ?_, fun c75 => ?_⟩
                        · refine kw_iinc (lv' := [(4, _), (0, _), (1, _), (2, _), (3, _), (5, _)]) hC dX8_findRoots_169 rfl 4 rfl (by decide) rfl ?_
                          refine kw_goto (tgt := 60) hC dX8_findRoots_172 rfl (by decide) ?_
                          refine kw_lv [1, 2, 3, 4, 0] rfl ?_
                          exact ih60 (n + 1) W69 hfW69 (by omega) (by omega) (by omega) (by omega) (by omega) (by omega) (by omega)
                        · refine kw_iconst hC dX8_findRoots_78 rfl ?_
                          refine kw_istore (lv' := [(6, _), (0, _), (1, _), (2, _), (3, _), (4, _), (5, _)]) hC dX8_findRoots_79 rfl (by decide) rfl ?_
                          have hL81 : ∀ (n81 : Nat) (k : Int) (W81 : wSt), Fr fR S W81 → (0 ≤ k) → (k ≤ 6) → (f ≤ W81 30 0 20) → (W81 30 0 20 ≤ 400) → (0 ≤ W81 30 0 21) → (W81 30 0 21 ≤ 400) → 6 - k < (n81 : Int) → Wk E g 7 W81 81 [(0, vr g 30 0), (1, vi a), (2, vi h), (3, vi f), (4, vi n), (5, vi i), (6, vi k)] [] := by
                            intro n81
                            induction n81 with
                            | zero => intro k W81 hfW81 k0 k1 m0 m1 w0 w1 hm81; exact absurd hm81 (by omega)
                            | succ n81 ih81 =>
                              intro k W81 hfW81 k0 k1 m0 m1 w0 w1 hm81
                              have hRW81 := hRS.fr (hfW81.mono (fun k i j h => by unfold fR at h; unfold tR; omega))
                              have hnW81 := hRW81.n
                              have enW81 : W81 30 0 0 = S 30 0 0 := hfW81 30 0 0 (by unfold fR; omega)
                              refine kw_iload hC dX8_findRoots_81 rfl 6 rfl ?_
                              refine kw_bipush hC dX8_findRoots_83 rfl (by decide) ?_
                              refine kw_icmp_ge (tgt := 114) hC dX8_findRoots_85 rfl (by decide) (by omega) (by omega) ⟨fun c85 => ?_, fun c85 => ?_⟩
                              · refine kw_aload_n hC dX8_findRoots_114 rfl 0 rfl ?_
                                refine kw_iload hC dX8_findRoots_115 rfl 5 rfl ?_
                                refine kw_callV hC (d_X8_turn hD (by omega) (by omega) hRW81) gX8_findRoots_X8_turn ⟨_, rfl⟩ rfl (by decide) (by decide) rfl ⟨rfl, rfl⟩ 1 (by decide +kernel) ⟨by decide, by decide⟩ rfl rfl (Nat.le_of_ble_eq_true rfl) dX8_findRoots_117 rfl (kd_v (fun S9 hp9 => ?_))
                                obtain ⟨hg9, hp9⟩ := hp9
                                have hfS9 : Fr fR S S9 := hfW81.trans (hg9.mono (fun k i j h => by unfold fT at h; unfold fR; omega))
                                have hRS9 := hRS.fr (hfS9.mono (fun k i j h => by unfold fR at h; unfold tR; omega))
                                have hnS9 := hRS9.n
                                have enS9 : S9 30 0 0 = S 30 0 0 := hfS9 30 0 0 (by unfold fR; omega)
                                obtain ⟨ht1, ht2, hgw, -⟩ := hp9
                                have e20_9 : S9 30 0 20 = W81 30 0 20 := hg9 30 0 20 (by unfold fT; omega)
                                have e21_9 : S9 30 0 21 = W81 30 0 21 := hg9 30 0 21 (by unfold fT; omega)
                                refine kw_aload_n hC dX8_findRoots_120 rfl 0 rfl ?_
                                refine kw_callV hC (d_X8_height hD (by omega) (by omega)) gX8_findRoots_X8_height ⟨_, rfl⟩ rfl (by decide) (by decide) rfl ⟨rfl, rfl⟩ 0 (by decide +kernel) ⟨by decide, by decide⟩ rfl rfl (Nat.le_of_ble_eq_true rfl) dX8_findRoots_121 rfl (kd_le ?_)
                                refine kw_nrl ?_
                                refine kw_iload_n hC dX8_findRoots_124 rfl 2 rfl ?_
                                refine kw_i2l hC dX8_findRoots_125 rfl (by omega) ?_
                                refine kw_lcmp hC dX8_findRoots_126 rfl (nl_r _) (by omega) ?_
                                refine kw_if_ne (tgt := 163) hC dX8_findRoots_127 rfl (by decide) (cz_r _ _) ⟨fun c127 => ?_, fun c127 => ?_⟩
                                · replace c127 := (cz_ne _ _).mp c127
                                  refine kw_iinc (lv' := [(5, _), (0, _), (1, _), (2, _), (3, _), (4, _), (6, _)]) hC dX8_findRoots_163 rfl 5 rfl (by decide) rfl ?_
                                  refine kw_goto (tgt := 69) hC dX8_findRoots_166 rfl (by decide) ?_
                                  refine kw_lv [1, 2, 3, 4, 5, 0] rfl ?_
                                  exact ih69 (i + 1) S9 hfS9 (by omega) (by omega) (by omega) (by omega) (by omega) (by omega) (by omega)
                                · replace c127 := (not_congr (cz_ne _ _)).mp c127
                                  refine kw_aload_n hC dX8_findRoots_130 rfl 0 rfl ?_
                                  refine kw_callV hC (d_X8_isAbove hD (by omega) (by omega)) gX8_findRoots_X8_isAbove ⟨_, rfl⟩ rfl (by decide) (by decide) rfl ⟨rfl, rfl⟩ 0 (by decide +kernel) ⟨by decide, by decide⟩ rfl rfl (Nat.le_of_ble_eq_true rfl) dX8_findRoots_131 rfl (kd_ie ?_)
                                  refine kw_ifeq_b (tgt := 163) hC dX8_findRoots_134 rfl (by decide) ⟨fun c134 => ?_, fun c134 => ?_⟩
                                  · refine kw_iinc (lv' := [(5, _), (0, _), (1, _), (2, _), (3, _), (4, _), (6, _)]) hC dX8_findRoots_163 rfl 5 rfl (by decide) rfl ?_
                                    refine kw_goto (tgt := 69) hC dX8_findRoots_166 rfl (by decide) ?_
                                    refine kw_lv [1, 2, 3, 4, 5, 0] rfl ?_
                                    exact ih69 (i + 1) S9 hfS9 (by omega) (by omega) (by omega) (by omega) (by omega) (by omega) (by omega)
                                  · refine kw_aload_n hC dX8_findRoots_137 rfl 0 rfl ?_
                                    refine kw_iload_n hC dX8_findRoots_138 rfl 3 rfl ?_
                                    refine kw_callV hC (d_X8_isKnown hD (by omega) (by omega) (by omega) (by omega)) gX8_findRoots_X8_isKnown ⟨_, rfl⟩ rfl (by decide) (by decide) rfl ⟨rfl, rfl⟩ 1 (by decide +kernel) ⟨by decide, by decide⟩ rfl rfl (Nat.le_of_ble_eq_true rfl) dX8_findRoots_139 rfl (kd_ie ?_)
                                    refine kw_ifne_b (tgt := 163) hC dX8_findRoots_142 rfl (by decide) ⟨fun c142 => ?_, fun c142 => ?_⟩
                                    · refine kw_iinc (lv' := [(5, _), (0, _), (1, _), (2, _), (3, _), (4, _), (6, _)]) hC dX8_findRoots_163 rfl 5 rfl (by decide) rfl ?_
                                      refine kw_goto (tgt := 69) hC dX8_findRoots_166 rfl (by decide) ?_
                                      refine kw_lv [1, 2, 3, 4, 5, 0] rfl ?_
                                      exact ih69 (i + 1) S9 hfS9 (by omega) (by omega) (by omega) (by omega) (by omega) (by omega) (by omega)
                                    · refine kw_aload_n hC dX8_findRoots_145 rfl 0 rfl ?_
                                      refine kg_30_20 hC w8 f151 dX8_findRoots_146 rfl (by decide) (by decide) ?_
                                      refine kw_sipush hC dX8_findRoots_149 rfl (by decide) ?_
                                      refine kw_icmp_ne (tgt := 157) hC dX8_findRoots_152 rfl (by decide) (by omega) (by omega) ⟨fun c152 => ?_, fun c152 => ?_⟩
                                      · refine kw_aload_n hC dX8_findRoots_157 rfl 0 rfl ?_
                                        refine kw_iload_n hC dX8_findRoots_158 rfl 3 rfl ?_
                                        refine kw_iload_n hC dX8_findRoots_159 rfl 2 rfl ?_
                                        refine kw_callV hC (d_X8_comes hD (by omega) (by omega) (by omega)) gX8_findRoots_X8_comes ⟨_, rfl⟩ rfl (by decide) (by decide) rfl ⟨rfl, rfl⟩ 2 (by decide +kernel) ⟨by decide, by decide⟩ rfl rfl (Nat.le_of_ble_eq_true rfl) dX8_findRoots_160 rfl (kd_v (fun S14 hp14 => ?_))
                                        obtain ⟨hg14, hp14⟩ := hp14
                                        have hfS14 : Fr fR S S14 := hfS9.trans (hg14.mono (fun k i j h => by unfold fC at h; unfold fR; omega))
                                        have hRS14 := hRS.fr (hfS14.mono (fun k i j h => by unfold fR at h; unfold tR; omega))
                                        have hnS14 := hRS14.n
                                        have enS14 : S14 30 0 0 = S 30 0 0 := hfS14 30 0 0 (by unfold fR; omega)
                                        obtain ⟨x20, -⟩ := hp14
                                        have e21_14 : S14 30 0 21 = S9 30 0 21 := hg14 30 0 21 (by unfold fC; omega)
                                        refine kw_iinc (lv' := [(5, _), (0, _), (1, _), (2, _), (3, _), (4, _), (6, _)]) hC dX8_findRoots_163 rfl 5 rfl (by decide) rfl ?_
                                        refine kw_goto (tgt := 69) hC dX8_findRoots_166 rfl (by decide) ?_
                                        refine kw_lv [1, 2, 3, 4, 5, 0] rfl ?_
                                        exact ih69 (i + 1) S14 hfS14 (by omega) (by omega) (by omega) (by omega) (by omega) (by omega) (by omega)
                                      · refine kw_iconst hC dX8_findRoots_155 rfl ?_
                                        exact hR9.2.1 rfl _ _ _ _ dX8_findRoots_156 (by omega) ⟨_, rfl, hfS9, by omega, by omega, by omega⟩
                              · refine kw_aload_n hC dX8_findRoots_88 rfl 0 rfl ?_
                                refine kg_30_15 hC w8 f77 dX8_findRoots_89 rfl (by decide) (by decide) ?_
                                refine kw_iload hC dX8_findRoots_92 rfl 6 rfl ?_
                                refine kw_aload_n hC dX8_findRoots_94 rfl 0 rfl ?_
                                refine kg_30_18 hC w8 f154 dX8_findRoots_95 rfl (by decide) (by decide) ?_
                                refine kw_bipush hC dX8_findRoots_98 rfl (by decide) ?_
                                refine kw_iload hC dX8_findRoots_100 rfl 4 rfl ?_
                                refine kw_imul hC dX8_findRoots_102 rfl ?_
                                refine kw_iload hC dX8_findRoots_103 rfl 6 rfl ?_
                                refine kw_iadd hC dX8_findRoots_105 rfl ?_
                                refine ka_58 hC dX8_findRoots_106 rfl (by decide) (by decide) (by omega) (by omega) ?_
                                refine ks_55 hC dX8_findRoots_107 rfl (by decide) (by decide) (by omega) (by omega) ?_
                                refine kw_hv hfW81 (by unfold fR; omega) (fun S15 hfS15 hv15 ho15 => ?_)
                                have hRS15 := hRS.fr (hfS15.mono (fun k i j h => by unfold fR at h; unfold tR; omega))
                                have hnS15 := hRS15.n
                                have enS15 : S15 30 0 0 = S 30 0 0 := hfS15 30 0 0 (by unfold fR; omega)
                                have e20_15 : S15 30 0 20 = W81 30 0 20 := ho15 30 0 20 (by omega)
                                have e21_15 : S15 30 0 21 = W81 30 0 21 := ho15 30 0 21 (by omega)
                                refine kw_iinc (lv' := [(6, _), (0, _), (1, _), (2, _), (3, _), (4, _), (5, _)]) hC dX8_findRoots_108 rfl 6 rfl (by decide) rfl ?_
                                refine kw_goto (tgt := 81) hC dX8_findRoots_111 rfl (by decide) ?_
                                refine kw_lv [1, 2, 3, 4, 5, 6, 0] rfl ?_
                                exact ih81 (k + 1) S15 hfS15 (by omega) (by omega) (by omega) (by omega) (by omega) (by omega) (by omega)
                          refine kw_lv [1, 2, 3, 4, 5, 6, 0] rfl ?_
                          exact hL81 7 0 W69 hfW69 (by omega) (by omega) (by omega) (by omega) (by omega) (by omega) (by omega)
                    refine kw_lv [1, 2, 3, 4, 5, 0] rfl ?_
                    exact hL69 7 0 W60 hfW60 (by omega) (by omega) (by omega) (by omega) (by omega) (by omega) (by omega)
              refine kw_lv [1, 2, 3, 4, 0] rfl ?_
              exact hL60 401 0 W25 hfW25 (by omega) (by omega) (by omega) (by omega) (by omega) (by omega) (by omega)
            · refine kw_iload_n hC dX8_findRoots_34 rfl 2 rfl ?_
              refine kw_iconst hC dX8_findRoots_35 rfl ?_
              refine kw_icmp_ne (tgt := 57) hC dX8_findRoots_36 rfl (by decide) (by omega) (by omega) ⟨fun c36 => ?_, fun c36 => ?_⟩
              · refine kw_iconst hC dX8_findRoots_57 rfl ?_
                refine kw_istore (lv' := [(4, _), (0, _), (1, _), (2, _), (3, _)]) hC dX8_findRoots_58 rfl (by decide) rfl ?_
                have hL60 : ∀ (n60 : Nat) (n : Int) (W60 : wSt), Fr fR S W60 → (0 ≤ n) → (n ≤ f) → (f ≤ W60 30 0 20) → (W60 30 0 20 ≤ 400) → (0 ≤ W60 30 0 21) → (W60 30 0 21 ≤ 400) → f - n < (n60 : Int) → Wk E g 7 W60 60 [(0, vr g 30 0), (1, vi a), (2, vi h), (3, vi f), (4, vi n)] [] := by
                  intro n60
                  induction n60 with
                  | zero => intro n W60 hfW60 n0 n1 m0 m1 w0 w1 hm60; exact absurd hm60 (by omega)
                  | succ n60 ih60 =>
                    intro n W60 hfW60 n0 n1 m0 m1 w0 w1 hm60
                    have hRW60 := hRS.fr (hfW60.mono (fun k i j h => by unfold fR at h; unfold tR; omega))
                    have hnW60 := hRW60.n
                    have enW60 : W60 30 0 0 = S 30 0 0 := hfW60 30 0 0 (by unfold fR; omega)
                    refine kw_iload hC dX8_findRoots_60 rfl 4 rfl ?_
                    refine kw_iload_n hC dX8_findRoots_62 rfl 3 rfl ?_
                    refine kw_icmp_ge (tgt := 175) hC dX8_findRoots_63 rfl (by decide) (by omega) (by omega) ⟨fun c63 => ?_, fun c63 => ?_⟩
                    · refine kw_aload_n hC dX8_findRoots_175 rfl 0 rfl ?_
                      refine kw_aload_n hC dX8_findRoots_176 rfl 0 rfl ?_
                      refine kg_30_20 hC w8 f151 dX8_findRoots_177 rfl (by decide) (by decide) ?_
                      refine kp_30_21 hC w8 f160 dX8_findRoots_180 rfl (by decide) (by decide) ?_
                      refine kw_hv hfW60 (by unfold fR; omega) (fun S18 hfS18 hv18 ho18 => ?_)
                      have hRS18 := hRS.fr (hfS18.mono (fun k i j h => by unfold fR at h; unfold tR; omega))
                      have hnS18 := hRS18.n
                      have enS18 : S18 30 0 0 = S 30 0 0 := hfS18 30 0 0 (by unfold fR; omega)
                      have e20_18 : S18 30 0 20 = W60 30 0 20 := ho18 30 0 20 (by omega)
                      have x21 := hv18
                      refine kw_iinc (lv' := [(2, _), (0, _), (1, _), (3, _), (4, _)]) hC dX8_findRoots_183 rfl 2 rfl (by decide) rfl ?_
                      refine kw_goto (tgt := 12) hC dX8_findRoots_186 rfl (by decide) ?_
                      refine kw_lv [1, 2, 0] rfl ?_
                      exact ih12 (h + 1) S18 hfS18 (by omega) (by omega) (by omega) (by omega) (by omega) (by omega) (by omega) (by omega)
                    · refine kw_iconst hC dX8_findRoots_66 rfl ?_
                      refine kw_istore (lv' := [(5, _), (0, _), (1, _), (2, _), (3, _), (4, _)]) hC dX8_findRoots_67 rfl (by decide) rfl ?_
                      have hL69 : ∀ (n69 : Nat) (i : Int) (W69 : wSt), Fr fR S W69 → (0 ≤ i) → (i ≤ S 30 0 0) → (f ≤ W69 30 0 20) → (W69 30 0 20 ≤ 400) → (0 ≤ W69 30 0 21) → (W69 30 0 21 ≤ 400) → S 30 0 0 - i < (n69 : Int) → Wk E g 7 W69 69 [(0, vr g 30 0), (1, vi a), (2, vi h), (3, vi f), (4, vi n), (5, vi i)] [] := by
                        intro n69
                        induction n69 with
                        | zero => intro i W69 hfW69 i0 i1 m0 m1 w0 w1 hm69; exact absurd hm69 (by omega)
                        | succ n69 ih69 =>
                          intro i W69 hfW69 i0 i1 m0 m1 w0 w1 hm69
                          have hRW69 := hRS.fr (hfW69.mono (fun k i j h => by unfold fR at h; unfold tR; omega))
                          have hnW69 := hRW69.n
                          have enW69 : W69 30 0 0 = S 30 0 0 := hfW69 30 0 0 (by unfold fR; omega)
                          refine kw_iload hC dX8_findRoots_69 rfl 5 rfl ?_
                          refine kw_aload_n hC dX8_findRoots_71 rfl 0 rfl ?_
                          refine kg_30_0 hC w8 f11 dX8_findRoots_72 rfl (by decide) (by decide) ?_
                          refine kw_icmp_ge (tgt := 169) hC dX8_findRoots_75 rfl (by decide) (by omega) (by omega) ⟨fun c75 => ?_, fun c75 => ?_⟩
                          · refine kw_iinc (lv' := [(4, _), (0, _), (1, _), (2, _), (3, _), (5, _)]) hC dX8_findRoots_169 rfl 4 rfl (by decide) rfl ?_
                            refine kw_goto (tgt := 60) hC dX8_findRoots_172 rfl (by decide) ?_
                            refine kw_lv [1, 2, 3, 4, 0] rfl ?_
                            exact ih60 (n + 1) W69 hfW69 (by omega) (by omega) (by omega) (by omega) (by omega) (by omega) (by omega)
                          · refine kw_iconst hC dX8_findRoots_78 rfl ?_
                            refine kw_istore (lv' := [(6, _), (0, _), (1, _), (2, _), (3, _), (4, _), (5, _)]) hC dX8_findRoots_79 rfl (by decide) rfl ?_
                            have hL81 : ∀ (n81 : Nat) (k : Int) (W81 : wSt), Fr fR S W81 → (0 ≤ k) → (k ≤ 6) → (f ≤ W81 30 0 20) → (W81 30 0 20 ≤ 400) → (0 ≤ W81 30 0 21) → (W81 30 0 21 ≤ 400) → 6 - k < (n81 : Int) → Wk E g 7 W81 81 [(0, vr g 30 0), (1, vi a), (2, vi h), (3, vi f), (4, vi n), (5, vi i), (6, vi k)] [] := by
                              intro n81
                              induction n81 with
                              | zero => intro k W81 hfW81 k0 k1 m0 m1 w0 w1 hm81; exact absurd hm81 (by omega)
                              | succ n81 ih81 =>
                                intro k W81 hfW81 k0 k1 m0 m1 w0 w1 hm81
                                have hRW81 := hRS.fr (hfW81.mono (fun k i j h => by unfold fR at h; unfold tR; omega))
                                have hnW81 := hRW81.n
                                have enW81 : W81 30 0 0 = S 30 0 0 := hfW81 30 0 0 (by unfold fR; omega)
                                refine kw_iload hC dX8_findRoots_81 rfl 6 rfl ?_
                                refine kw_bipush hC dX8_findRoots_83 rfl (by decide) ?_
                                refine kw_icmp_ge (tgt := 114) hC dX8_findRoots_85 rfl (by decide) (by omega) (by omega) ⟨fun c85 => ?_, fun c85 => ?_⟩
                                · refine kw_aload_n hC dX8_findRoots_114 rfl 0 rfl ?_
                                  refine kw_iload hC dX8_findRoots_115 rfl 5 rfl ?_
                                  refine kw_callV hC (d_X8_turn hD (by omega) (by omega) hRW81) gX8_findRoots_X8_turn ⟨_, rfl⟩ rfl (by decide) (by decide) rfl ⟨rfl, rfl⟩ 1 (by decide +kernel) ⟨by decide, by decide⟩ rfl rfl (Nat.le_of_ble_eq_true rfl) dX8_findRoots_117 rfl (kd_v (fun S21 hp21 => ?_))
                                  obtain ⟨hg21, hp21⟩ := hp21
                                  have hfS21 : Fr fR S S21 := hfW81.trans (hg21.mono (fun k i j h => by unfold fT at h; unfold fR; omega))
                                  have hRS21 := hRS.fr (hfS21.mono (fun k i j h => by unfold fR at h; unfold tR; omega))
                                  have hnS21 := hRS21.n
                                  have enS21 : S21 30 0 0 = S 30 0 0 := hfS21 30 0 0 (by unfold fR; omega)
                                  obtain ⟨ht1, ht2, hgw, -⟩ := hp21
                                  have e20_21 : S21 30 0 20 = W81 30 0 20 := hg21 30 0 20 (by unfold fT; omega)
                                  have e21_21 : S21 30 0 21 = W81 30 0 21 := hg21 30 0 21 (by unfold fT; omega)
                                  refine kw_aload_n hC dX8_findRoots_120 rfl 0 rfl ?_
                                  refine kw_callV hC (d_X8_height hD (by omega) (by omega)) gX8_findRoots_X8_height ⟨_, rfl⟩ rfl (by decide) (by decide) rfl ⟨rfl, rfl⟩ 0 (by decide +kernel) ⟨by decide, by decide⟩ rfl rfl (Nat.le_of_ble_eq_true rfl) dX8_findRoots_121 rfl (kd_le ?_)
                                  refine kw_nrl ?_
                                  refine kw_iload_n hC dX8_findRoots_124 rfl 2 rfl ?_
                                  refine kw_i2l hC dX8_findRoots_125 rfl (by omega) ?_
                                  refine kw_lcmp hC dX8_findRoots_126 rfl (nl_r _) (by omega) ?_
                                  refine kw_if_ne (tgt := 163) hC dX8_findRoots_127 rfl (by decide) (cz_r _ _) ⟨fun c127 => ?_, fun c127 => ?_⟩
                                  · replace c127 := (cz_ne _ _).mp c127
                                    refine kw_iinc (lv' := [(5, _), (0, _), (1, _), (2, _), (3, _), (4, _), (6, _)]) hC dX8_findRoots_163 rfl 5 rfl (by decide) rfl ?_
                                    refine kw_goto (tgt := 69) hC dX8_findRoots_166 rfl (by decide) ?_
                                    refine kw_lv [1, 2, 3, 4, 5, 0] rfl ?_
                                    exact ih69 (i + 1) S21 hfS21 (by omega) (by omega) (by omega) (by omega) (by omega) (by omega) (by omega)
                                  · replace c127 := (not_congr (cz_ne _ _)).mp c127
                                    refine kw_aload_n hC dX8_findRoots_130 rfl 0 rfl ?_
                                    refine kw_callV hC (d_X8_isAbove hD (by omega) (by omega)) gX8_findRoots_X8_isAbove ⟨_, rfl⟩ rfl (by decide) (by decide) rfl ⟨rfl, rfl⟩ 0 (by decide +kernel) ⟨by decide, by decide⟩ rfl rfl (Nat.le_of_ble_eq_true rfl) dX8_findRoots_131 rfl (kd_ie ?_)
                                    refine kw_ifeq_b (tgt := 163) hC dX8_findRoots_134 rfl (by decide) ⟨fun c134 => ?_, fun c134 => ?_⟩
                                    · refine kw_iinc (lv' := [(5, _), (0, _), (1, _), (2, _), (3, _), (4, _), (6, _)]) hC dX8_findRoots_163 rfl 5 rfl (by decide) rfl ?_
                                      refine kw_goto (tgt := 69) hC dX8_findRoots_166 rfl (by decide) ?_
                                      refine kw_lv [1, 2, 3, 4, 5, 0] rfl ?_
                                      exact ih69 (i + 1) S21 hfS21 (by omega) (by omega) (by omega) (by omega) (by omega) (by omega) (by omega)
                                    · refine kw_aload_n hC dX8_findRoots_137 rfl 0 rfl ?_
                                      refine kw_iload_n hC dX8_findRoots_138 rfl 3 rfl ?_
                                      refine kw_callV hC (d_X8_isKnown hD (by omega) (by omega) (by omega) (by omega)) gX8_findRoots_X8_isKnown ⟨_, rfl⟩ rfl (by decide) (by decide) rfl ⟨rfl, rfl⟩ 1 (by decide +kernel) ⟨by decide, by decide⟩ rfl rfl (Nat.le_of_ble_eq_true rfl) dX8_findRoots_139 rfl (kd_ie ?_)
                                      refine kw_ifne_b (tgt := 163) hC dX8_findRoots_142 rfl (by decide) ⟨fun c142 => ?_, fun c142 => ?_⟩
                                      · refine kw_iinc (lv' := [(5, _), (0, _), (1, _), (2, _), (3, _), (4, _), (6, _)]) hC dX8_findRoots_163 rfl 5 rfl (by decide) rfl ?_
                                        refine kw_goto (tgt := 69) hC dX8_findRoots_166 rfl (by decide) ?_
                                        refine kw_lv [1, 2, 3, 4, 5, 0] rfl ?_
                                        exact ih69 (i + 1) S21 hfS21 (by omega) (by omega) (by omega) (by omega) (by omega) (by omega) (by omega)
                                      · refine kw_aload_n hC dX8_findRoots_145 rfl 0 rfl ?_
                                        refine kg_30_20 hC w8 f151 dX8_findRoots_146 rfl (by decide) (by decide) ?_
                                        refine kw_sipush hC dX8_findRoots_149 rfl (by decide) ?_
                                        refine kw_icmp_ne (tgt := 157) hC dX8_findRoots_152 rfl (by decide) (by omega) (by omega) ⟨fun c152 => ?_, fun c152 => ?_⟩
                                        · refine kw_aload_n hC dX8_findRoots_157 rfl 0 rfl ?_
                                          refine kw_iload_n hC dX8_findRoots_158 rfl 3 rfl ?_
                                          refine kw_iload_n hC dX8_findRoots_159 rfl 2 rfl ?_
                                          refine kw_callV hC (d_X8_comes hD (by omega) (by omega) (by omega)) gX8_findRoots_X8_comes ⟨_, rfl⟩ rfl (by decide) (by decide) rfl ⟨rfl, rfl⟩ 2 (by decide +kernel) ⟨by decide, by decide⟩ rfl rfl (Nat.le_of_ble_eq_true rfl) dX8_findRoots_160 rfl (kd_v (fun S26 hp26 => ?_))
                                          obtain ⟨hg26, hp26⟩ := hp26
                                          have hfS26 : Fr fR S S26 := hfS21.trans (hg26.mono (fun k i j h => by unfold fC at h; unfold fR; omega))
                                          have hRS26 := hRS.fr (hfS26.mono (fun k i j h => by unfold fR at h; unfold tR; omega))
                                          have hnS26 := hRS26.n
                                          have enS26 : S26 30 0 0 = S 30 0 0 := hfS26 30 0 0 (by unfold fR; omega)
                                          obtain ⟨x20, -⟩ := hp26
                                          have e21_26 : S26 30 0 21 = S21 30 0 21 := hg26 30 0 21 (by unfold fC; omega)
                                          refine kw_iinc (lv' := [(5, _), (0, _), (1, _), (2, _), (3, _), (4, _), (6, _)]) hC dX8_findRoots_163 rfl 5 rfl (by decide) rfl ?_
                                          refine kw_goto (tgt := 69) hC dX8_findRoots_166 rfl (by decide) ?_
                                          refine kw_lv [1, 2, 3, 4, 5, 0] rfl ?_
                                          exact ih69 (i + 1) S26 hfS26 (by omega) (by omega) (by omega) (by omega) (by omega) (by omega) (by omega)
                                        · refine kw_iconst hC dX8_findRoots_155 rfl ?_
                                          exact hR9.2.1 rfl _ _ _ _ dX8_findRoots_156 (by omega) ⟨_, rfl, hfS21, by omega, by omega, by omega⟩
                                · refine kw_aload_n hC dX8_findRoots_88 rfl 0 rfl ?_
                                  refine kg_30_15 hC w8 f77 dX8_findRoots_89 rfl (by decide) (by decide) ?_
                                  refine kw_iload hC dX8_findRoots_92 rfl 6 rfl ?_
                                  refine kw_aload_n hC dX8_findRoots_94 rfl 0 rfl ?_
                                  refine kg_30_18 hC w8 f154 dX8_findRoots_95 rfl (by decide) (by decide) ?_
                                  refine kw_bipush hC dX8_findRoots_98 rfl (by decide) ?_
                                  refine kw_iload hC dX8_findRoots_100 rfl 4 rfl ?_
                                  refine kw_imul hC dX8_findRoots_102 rfl ?_
                                  refine kw_iload hC dX8_findRoots_103 rfl 6 rfl ?_
                                  refine kw_iadd hC dX8_findRoots_105 rfl ?_
                                  refine ka_58 hC dX8_findRoots_106 rfl (by decide) (by decide) (by omega) (by omega) ?_
                                  refine ks_55 hC dX8_findRoots_107 rfl (by decide) (by decide) (by omega) (by omega) ?_
                                  refine kw_hv hfW81 (by unfold fR; omega) (fun S27 hfS27 hv27 ho27 => ?_)
                                  have hRS27 := hRS.fr (hfS27.mono (fun k i j h => by unfold fR at h; unfold tR; omega))
                                  have hnS27 := hRS27.n
                                  have enS27 : S27 30 0 0 = S 30 0 0 := hfS27 30 0 0 (by unfold fR; omega)
                                  have e20_27 : S27 30 0 20 = W81 30 0 20 := ho27 30 0 20 (by omega)
                                  have e21_27 : S27 30 0 21 = W81 30 0 21 := ho27 30 0 21 (by omega)
                                  refine kw_iinc (lv' := [(6, _), (0, _), (1, _), (2, _), (3, _), (4, _), (5, _)]) hC dX8_findRoots_108 rfl 6 rfl (by decide) rfl ?_
                                  refine kw_goto (tgt := 81) hC dX8_findRoots_111 rfl (by decide) ?_
                                  refine kw_lv [1, 2, 3, 4, 5, 6, 0] rfl ?_
                                  exact ih81 (k + 1) S27 hfS27 (by omega) (by omega) (by omega) (by omega) (by omega) (by omega) (by omega)
                            refine kw_lv [1, 2, 3, 4, 5, 6, 0] rfl ?_
                            exact hL81 7 0 W69 hfW69 (by omega) (by omega) (by omega) (by omega) (by omega) (by omega) (by omega)
                      refine kw_lv [1, 2, 3, 4, 5, 0] rfl ?_
                      exact hL69 7 0 W60 hfW60 (by omega) (by omega) (by omega) (by omega) (by omega) (by omega) (by omega)
                refine kw_lv [1, 2, 3, 4, 0] rfl ?_
                exact hL60 401 0 W25 hfW25 (by omega) (by omega) (by omega) (by omega) (by omega) (by omega) (by omega)
              · refine kw_aload_n hC dX8_findRoots_39 rfl 0 rfl ?_
                refine kw_iload hC dX8_findRoots_40 rfl 4 rfl ?_
                refine kw_callV hC (d_X8_own hD (by omega)) gX8_findRoots_X8_own ⟨_, rfl⟩ rfl (by decide) (by decide) rfl ⟨rfl, rfl⟩ 1 (by decide +kernel) ⟨by decide, by decide⟩ rfl rfl (Nat.le_of_ble_eq_true rfl) dX8_findRoots_42 rfl (kd_v (fun S28 hp28 => ?_))
                obtain ⟨hg28, hp28⟩ := hp28
                have hfS28 : Fr fR S S28 := hfW25.trans (hg28.mono (fun k i j h => by unfold fO at h; unfold fR; omega))
                have hRS28 := hRS.fr (hfS28.mono (fun k i j h => by unfold fR at h; unfold tR; omega))
                have hnS28 := hRS28.n
                have enS28 : S28 30 0 0 = S 30 0 0 := hfS28 30 0 0 (by unfold fR; omega)
                have e20_28 : S28 30 0 20 = W25 30 0 20 := hg28 30 0 20 (by unfold fO; omega)
                have e21_28 : S28 30 0 21 = W25 30 0 21 := hg28 30 0 21 (by unfold fO; omega)
                refine kw_aload_n hC dX8_findRoots_45 rfl 0 rfl ?_
                refine kw_iload_n hC dX8_findRoots_46 rfl 3 rfl ?_
                refine kw_iconst hC dX8_findRoots_47 rfl ?_
                refine kw_callV hC (d_X8_comes hD (by omega) (by omega) (by omega)) gX8_findRoots_X8_comes ⟨_, rfl⟩ rfl (by decide) (by decide) rfl ⟨rfl, rfl⟩ 2 (by decide +kernel) ⟨by decide, by decide⟩ rfl rfl (Nat.le_of_ble_eq_true rfl) dX8_findRoots_48 rfl (kd_v (fun S29 hp29 => ?_))
                obtain ⟨hg29, hp29⟩ := hp29
                have hfS29 : Fr fR S S29 := hfS28.trans (hg29.mono (fun k i j h => by unfold fC at h; unfold fR; omega))
                have hRS29 := hRS.fr (hfS29.mono (fun k i j h => by unfold fR at h; unfold tR; omega))
                have hnS29 := hRS29.n
                have enS29 : S29 30 0 0 = S 30 0 0 := hfS29 30 0 0 (by unfold fR; omega)
                obtain ⟨x20, -⟩ := hp29
                have e21_29 : S29 30 0 21 = S28 30 0 21 := hg29 30 0 21 (by unfold fC; omega)
                refine kw_iinc (lv' := [(4, _), (0, _), (1, _), (2, _), (3, _)]) hC dX8_findRoots_51 rfl 4 rfl (by decide) rfl ?_
                refine kw_goto (tgt := 25) hC dX8_findRoots_54 rfl (by decide) ?_
                refine kw_lv [1, 2, 3, 4, 0] rfl ?_
                exact ih25 (i + 1) S29 hfS29 (by omega) (by omega) (by omega) (by omega) (by omega) (by omega) (by omega) (by omega)
        refine kw_lv [2, 3, 4, 1, 0] rfl ?_
        exact hL25 7 0 W12 hfW12 (by omega) (by omega) (by omega) (by omega) (by omega) (by omega) (by omega) (by omega)
  refine kw_lv [1, 2, 0] rfl ?_
  exact hL12 41 1 S2 hfS2 (by omega) (by omega) (by omega) (by omega) (by omega) (by omega) (by omega) (by omega)

set_option maxHeartbeats 4000000 in
set_option maxRecDepth 100000 in
theorem d_X8_roots {g : wG} (hD : wD g) {S : wSt} {a : Int} (ha : -2147483648 ≤ a ∧ a ≤ 2147483647) (hRS : RI S) (l : Launch) : Kt l yX8_roots wsX8_roots ({ frames := 3, cells := 0, slots := 0, locals := 75 } : Room) g S [vr g 30 0, vi a] (pI (fun _ S' => RI S' ∧ Fr tW S S')) := by
  refine Kt.of (cc := cX8_roots) (nL := 4) (ret := (some .int)) (own := RX8) rfl hD (by decide) rfl (Nat.le_of_ble_eq_true rfl) ⟨rfl, rfl⟩ ?_
  intro E hC hR9
  have f151 : Cond.fieldLink RX8 151 "MirrorBenchModel" "many" "I" ∈ wsX8_roots := by decide +kernel
  have f157 : Cond.fieldLink RX8 157 "MirrorBenchModel" "heights" "[I" ∈ wsX8_roots := by decide +kernel
  have l177 : Cond.constantLong RX8 177 (Int64.ofInt (40)) ∈ wsX8_roots := by decide +kernel
  have w8 : ∀ w ∈ wsX80, w ∈ wsX8_roots := by decide +kernel
  show Wk E g 4 S 0 [(0, vr g 30 0), (1, vi a)] []
  have hfS : Fr tR S S := Fr.rfl _ S
  have hRS := hRS.fr hfS
  have hnS := hRS.n
  have enS : S 30 0 0 = S 30 0 0 := hfS 30 0 0 (by unfold tR; omega)
  refine kw_iload_n hC dX8_roots_0 rfl 1 rfl ?_
  refine kw_i2l hC dX8_roots_1 rfl (by omega) ?_
  refine kw_lconst (z := 1) hC dX8_roots_2 rfl rfl ?_
  refine kw_ldc2 (z := 40) hC dX8_roots_3 rfl l177 ?_
  refine kw_callS hC (d_X8_in hD (by omega) (by omega) (by omega)) gX8_roots_X8_in rfl ⟨rfl, rfl⟩ 3 (by decide +kernel) ⟨by decide, by decide⟩ rfl rfl (Nat.le_of_ble_eq_true rfl) dX8_roots_6 rfl (kd_ie ?_)
  refine kw_ifne_b (tgt := 14) hC dX8_roots_9 rfl (by decide) ⟨fun c9 => ?_, fun c9 => ?_⟩
  · refine kw_aload_n hC dX8_roots_14 rfl 0 rfl ?_
    refine kw_iload_n hC dX8_roots_15 rfl 1 rfl ?_
    refine kw_callV hC (d_X8_findRoots hD (by omega) (by omega) hRS) gX8_roots_X8_findRoots ⟨_, rfl⟩ rfl (by decide) (by decide) rfl ⟨rfl, rfl⟩ 1 (by decide +kernel) ⟨by decide, by decide⟩ rfl rfl (Nat.le_of_ble_eq_true rfl) dX8_roots_16 rfl (kd_i (fun r2 S2 hp2 => ?_))
    obtain ⟨hg2, hp2⟩ := hp2
    have hfS2 : Fr tR S S2 := hfS.trans (hg2.mono (fun k i j h => by unfold fR at h; unfold tR; omega))
    have hRS2 := hRS.fr hfS2
    have hnS2 := hRS2.n
    have enS2 : S2 30 0 0 = S 30 0 0 := hfS2 30 0 0 (by unfold tR; omega)
    obtain ⟨hb2, hm2, hw2⟩ := hp2
    refine kw_if_ne (tgt := 25) hC dX8_roots_19 rfl (by decide) (by omega) ⟨fun c19 => ?_, fun c19 => ?_⟩
    · refine kw_iconst hC dX8_roots_25 rfl ?_
      refine kw_istore_n (lv' := [(2, _), (0, _), (1, _)]) hC dX8_roots_26 rfl (by decide) rfl ?_
      refine kw_iconst hC dX8_roots_27 rfl ?_
      refine kw_istore_n (lv' := [(3, _), (2, _), (0, _), (1, _)]) hC dX8_roots_28 rfl (by decide) rfl ?_
      have hL29 : ∀ (n29 : Nat) (x : Int) (z : Int), (0 ≤ x) → (x ≤ 400) → 400 - x < (n29 : Int) → Wk E g 4 S2 29 [(0, vr g 30 0), (1, vi a), (2, vi z), (3, vi x)] [] := by
        intro n29
        induction n29 with
        | zero => intro x z x0 x1 hm29; exact absurd hm29 (by omega)
        | succ n29 ih29 =>
          intro x z x0 x1 hm29
          refine kw_iload_n hC dX8_roots_29 rfl 3 rfl ?_
          refine kw_aload_n hC dX8_roots_30 rfl 0 rfl ?_
          refine kg_30_20 hC w8 f151 dX8_roots_31 rfl (by decide) (by decide) ?_
          refine kw_icmp_ge (tgt := 61) hC dX8_roots_34 rfl (by decide) (by omega) (by omega) ⟨fun c34 => ?_, fun c34 => ?_⟩
          · refine kw_iload_n hC dX8_roots_61 rfl 2 rfl ?_
            exact hR9.1 rfl _ _ _ _ dX8_roots_62 (by first | exact ⟨_, rfl, hp9.2.1, (tR_tW hfS2).trans (fV_tW hp9.2.2.1)⟩ | exact ⟨_, rfl, hRS2, tR_tW hfS2⟩)
          · refine kw_iload_n hC dX8_roots_37 rfl 2 rfl ?_
            refine kw_aload_n hC dX8_roots_38 rfl 0 rfl ?_
            refine kg_30_19 hC w8 f157 dX8_roots_39 rfl (by decide) (by decide) ?_
            refine kw_iload_n hC dX8_roots_42 rfl 3 rfl ?_
            refine ka_59 hC dX8_roots_43 rfl (by decide) (by decide) (by omega) (by omega) ?_
            refine kw_nri ?_
            refine kw_iload_n hC dX8_roots_44 rfl 1 rfl ?_
            refine kw_icmp_ne (tgt := 52) hC dX8_roots_45 rfl (by decide) (ni_r _) (by omega) ⟨fun c45 => ?_, fun c45 => ?_⟩
            · refine kw_iconst hC dX8_roots_52 rfl ?_
              refine kw_iadd hC dX8_roots_53 rfl ?_
              refine kw_istore_n (lv' := [(2, _), (0, _), (1, _), (3, _)]) hC dX8_roots_54 rfl (by decide) rfl ?_
              refine kw_iinc (lv' := [(3, _), (2, _), (0, _), (1, _)]) hC dX8_roots_55 rfl 3 rfl (by decide) rfl ?_
              refine kw_goto (tgt := 29) hC dX8_roots_58 rfl (by decide) ?_
              refine kw_lv [2, 3, 1, 0] rfl ?_
              exact ih29 (x + 1) _ (by omega) (by omega) (by omega)
            · refine kw_iconst hC dX8_roots_48 rfl ?_
              refine kw_goto (tgt := 53) hC dX8_roots_49 rfl (by decide) ?_
              refine kw_iadd hC dX8_roots_53 rfl ?_
              refine kw_istore_n (lv' := [(2, _), (0, _), (1, _), (3, _)]) hC dX8_roots_54 rfl (by decide) rfl ?_
              refine kw_iinc (lv' := [(3, _), (2, _), (0, _), (1, _)]) hC dX8_roots_55 rfl 3 rfl (by decide) rfl ?_
              refine kw_goto (tgt := 29) hC dX8_roots_58 rfl (by decide) ?_
              refine kw_lv [2, 3, 1, 0] rfl ?_
              exact ih29 (x + 1) _ (by omega) (by omega) (by omega)
      refine kw_lv [2, 3, 1, 0] rfl ?_
      exact hL29 401 0 _ (by omega) (by omega) (by omega)
    · refine kw_bipush hC dX8_roots_22 rfl (by decide) ?_
      exact hR9.1 rfl _ _ _ _ dX8_roots_24 (by first | exact ⟨_, rfl, hp9.2.1, (tR_tW hfS2).trans (fV_tW hp9.2.2.1)⟩ | exact ⟨_, rfl, hRS2, tR_tW hfS2⟩)
  · refine kw_iconst hC dX8_roots_12 rfl ?_
    exact hR9.1 rfl _ _ _ _ dX8_roots_13 (by first | exact ⟨_, rfl, hp9.2.1, (tR_tW hfS).trans (fV_tW hp9.2.2.1)⟩ | exact ⟨_, rfl, hRS, tR_tW hfS⟩)

set_option maxHeartbeats 4000000 in
set_option maxRecDepth 100000 in
theorem d_X8_root {g : wG} (hD : wD g) {S : wSt} {a b : Int} (ha : -2147483648 ≤ a ∧ a ≤ 2147483647) (hb : -2147483648 ≤ b ∧ b ≤ 2147483647) (hRS : RI S) (l : Launch) : Kt l yX8_root wsX8_root ({ frames := 3, cells := 0, slots := 0, locals := 75 } : Room) g S [vr g 30 0, vi a, vi b] (pI (fun _ S' => RI S' ∧ Fr tW S S')) := by
  refine Kt.of (cc := cX8_root) (nL := 4) (ret := (some .int)) (own := RX8) rfl hD (by decide) rfl (Nat.le_of_ble_eq_true rfl) ⟨rfl, rfl⟩ ?_
  intro E hC hR9
  have f154 : Cond.fieldLink RX8 154 "MirrorBenchModel" "found" "[J" ∈ wsX8_root := by decide +kernel
  have f160 : Cond.fieldLink RX8 160 "MirrorBenchModel" "whole" "I" ∈ wsX8_root := by decide +kernel
  have w8 : ∀ w ∈ wsX80, w ∈ wsX8_root := by decide +kernel
  show Wk E g 4 S 0 [(0, vr g 30 0), (1, vi a), (2, vi b)] []
  have hfS : Fr tR S S := Fr.rfl _ S
  have hRS := hRS.fr hfS
  have hnS := hRS.n
  have enS : S 30 0 0 = S 30 0 0 := hfS 30 0 0 (by unfold tR; omega)
  refine kw_aload_n hC dX8_root_0 rfl 0 rfl ?_
  refine kw_iload_n hC dX8_root_1 rfl 2 rfl ?_
  refine kw_i2l hC dX8_root_2 rfl (by omega) ?_
  refine kw_callV hC (d_X8_isMirror hD (by omega) (by omega) (by omega)) gX8_root_X8_isMirror ⟨_, rfl⟩ rfl (by decide) (by decide) rfl ⟨rfl, rfl⟩ 1 (by decide +kernel) ⟨by decide, by decide⟩ rfl rfl (Nat.le_of_ble_eq_true rfl) dX8_root_3 rfl (kd_ie ?_)
  refine kw_ifeq_b (tgt := 13) hC dX8_root_6 rfl (by decide) ⟨fun c6 => ?_, fun c6 => ?_⟩
  · refine kw_iconst hC dX8_root_13 rfl ?_
    exact hR9.1 rfl _ _ _ _ dX8_root_14 (by first | exact ⟨_, rfl, hp9.2.1, (tR_tW hfS).trans (fV_tW hp9.2.2.1)⟩ | exact ⟨_, rfl, hRS, tR_tW hfS⟩)
  · refine kw_iload_n hC dX8_root_9 rfl 1 rfl ?_
    refine kw_if_ge (tgt := 15) hC dX8_root_10 rfl (by decide) (by omega) ⟨fun c10 => ?_, fun c10 => ?_⟩
    · refine kw_aload_n hC dX8_root_15 rfl 0 rfl ?_
      refine kw_bipush hC dX8_root_16 rfl (by decide) ?_
      refine kw_callV hC (d_X8_findRoots hD (by omega) (by omega) hRS) gX8_root_X8_findRoots ⟨_, rfl⟩ rfl (by decide) (by decide) rfl ⟨rfl, rfl⟩ 1 (by decide +kernel) ⟨by decide, by decide⟩ rfl rfl (Nat.le_of_ble_eq_true rfl) dX8_root_18 rfl (kd_i (fun r3 S3 hp3 => ?_))
      obtain ⟨hg3, hp3⟩ := hp3
      have hfS3 : Fr tR S S3 := hfS.trans (hg3.mono (fun k i j h => by unfold fR at h; unfold tR; omega))
      have hRS3 := hRS.fr hfS3
      have hnS3 := hRS3.n
      have enS3 : S3 30 0 0 = S 30 0 0 := hfS3 30 0 0 (by unfold tR; omega)
      obtain ⟨hb3, hm3, hw3⟩ := hp3
      refine kw_istore_n (lv' := [(3, _), (0, _), (1, _), (2, _)]) hC dX8_root_21 rfl (by decide) rfl ?_
      refine kw_iload_n hC dX8_root_22 rfl 2 rfl ?_
      refine kw_aload_n hC dX8_root_23 rfl 1 rfl ?_
      refine kg_30_21 hC w8 f160 dX8_root_24 rfl (by decide) (by decide) ?_
      refine kw_icmp_ge (tgt := 45) hC dX8_root_27 rfl (by decide) (by omega) (by omega) ⟨fun c27 => ?_, fun c27 => ?_⟩
      · refine kw_iconst hC dX8_root_45 rfl ?_
        exact hR9.1 rfl _ _ _ _ dX8_root_46 (by first | exact ⟨_, rfl, hp9.2.1, (tR_tW hfS3).trans (fV_tW hp9.2.2.1)⟩ | exact ⟨_, rfl, hRS3, tR_tW hfS3⟩)
      · refine kw_aload_n hC dX8_root_30 rfl 1 rfl ?_
        refine kg_30_18 hC w8 f154 dX8_root_31 rfl (by decide) (by decide) ?_
        refine kw_bipush hC dX8_root_34 rfl (by decide) ?_
        refine kw_iload_n hC dX8_root_36 rfl 2 rfl ?_
        refine kw_imul hC dX8_root_37 rfl ?_
        refine kw_iload_n hC dX8_root_38 rfl 3 rfl ?_
        refine kw_iadd hC dX8_root_39 rfl ?_
        refine ka_58 hC dX8_root_40 rfl (by decide) (by decide) (by omega) (by omega) ?_
        refine kw_l2i hC dX8_root_41 rfl ?_
        refine kw_goto (tgt := 46) hC dX8_root_42 rfl (by decide) ?_
        exact hR9.1 rfl _ _ _ _ dX8_root_46 (by first | exact ⟨_, rfl, hp9.2.1, (tR_tW hfS3).trans (fV_tW hp9.2.2.1)⟩ | exact ⟨_, rfl, hRS3, tR_tW hfS3⟩)
    · refine kw_iconst hC dX8_root_13 rfl ?_
      exact hR9.1 rfl _ _ _ _ dX8_root_14 (by first | exact ⟨_, rfl, hp9.2.1, (tR_tW hfS).trans (fV_tW hp9.2.2.1)⟩ | exact ⟨_, rfl, hRS, tR_tW hfS⟩)

set_option maxHeartbeats 4000000 in
set_option maxRecDepth 100000 in
theorem d_X8_closes {g : wG} (hD : wD g) {S : wSt} (hRS : RI S) (l : Launch) : Kt l yX8_closes wsX8_closes ({ frames := 2, cells := 0, slots := 0, locals := 49 } : Room) g S [vr g 30 0] (pI (fun r S' => Fr fR S S' ∧ (0 ≤ r ∧ r ≤ 61 ∧ (r ≤ 60 → NoB (mxz (S 42 0)) (S 30 0 0).toNat)))) := by
  refine Kt.of (cc := cX8_closes) (nL := 4) (ret := (some .int)) (own := RX8) rfl hD (by decide) rfl (Nat.le_of_ble_eq_true rfl) ⟨rfl, rfl⟩ ?_
  intro E hC hR9
  have f11 : Cond.fieldLink RX8 11 "MirrorBenchModel" "mirrors" "I" ∈ wsX8_closes := by decide +kernel
  have f77 : Cond.fieldLink RX8 77 "MirrorBenchModel" "root" "[J" ∈ wsX8_closes := by decide +kernel
  have f151 : Cond.fieldLink RX8 151 "MirrorBenchModel" "many" "I" ∈ wsX8_closes := by decide +kernel
  have f154 : Cond.fieldLink RX8 154 "MirrorBenchModel" "found" "[J" ∈ wsX8_closes := by decide +kernel
  have w8 : ∀ w ∈ wsX80, w ∈ wsX8_closes := by decide +kernel
  show Wk E g 4 S 0 [(0, vr g 30 0)] []
  have hfS : Fr fR S S := Fr.rfl _ S
  have hRS := hRS.fr (hfS.mono (fun k i j h => by unfold fR at h; unfold tR; omega))
  have hnS := hRS.n
  have enS : S 30 0 0 = S 30 0 0 := hfS 30 0 0 (by unfold fR; omega)
  refine kw_aload_n hC dX8_closes_0 rfl 0 rfl ?_
  refine kw_iconst hC dX8_closes_1 rfl ?_
  refine kp_30_20 hC w8 f151 dX8_closes_2 rfl (by decide) (by decide) ?_
  refine kw_hv hfS (by unfold fR; omega) (fun S1 hfS1 hv1 ho1 => ?_)
  have hRS1 := hRS.fr (hfS1.mono (fun k i j h => by unfold fR at h; unfold tR; omega))
  have hnS1 := hRS1.n
  have enS1 : S1 30 0 0 = S 30 0 0 := hfS1 30 0 0 (by unfold fR; omega)
  refine kw_iconst hC dX8_closes_5 rfl ?_
  refine kw_istore_n (lv' := [(1, _), (0, _)]) hC dX8_closes_6 rfl (by decide) rfl ?_
  have hL7 : ∀ (n7 : Nat) (i : Int) (W7 : wSt), Fr fR S W7 → (0 ≤ i) → (i ≤ S 30 0 0) → (W7 30 0 20 = i) → (∀ p k, 0 ≤ p → p < i → 0 ≤ k → k < 6 → W7 58 0 (6 * p + k) = if k = p then 1 else 0) → S 30 0 0 - i < (n7 : Int) → Wk E g 4 W7 7 [(0, vr g 30 0), (1, vi i)] [] := by
    intro n7
    induction n7 with
    | zero => intro i W7 hfW7 i0 i1 x20 hown hm7; exact absurd hm7 (by omega)
    | succ n7 ih7 =>
      intro i W7 hfW7 i0 i1 x20 hown hm7
      have hRW7 := hRS.fr (hfW7.mono (fun k i j h => by unfold fR at h; unfold tR; omega))
      have hnW7 := hRW7.n
      have enW7 : W7 30 0 0 = S 30 0 0 := hfW7 30 0 0 (by unfold fR; omega)
      refine kw_iload_n hC dX8_closes_7 rfl 1 rfl ?_
      refine kw_aload_n hC dX8_closes_8 rfl 0 rfl ?_
      refine kg_30_0 hC w8 f11 dX8_closes_9 rfl (by decide) (by decide) ?_
      refine kw_icmp_ge (tgt := 35) hC dX8_closes_12 rfl (by decide) (by omega) (by omega) ⟨fun c12 => ?_, fun c12 => ?_⟩
      · obtain rfl : i = S 30 0 0 := by omega
        have hcb0 : CB S W7 0 0 := ⟨by omega, hown, fun j j0 j1 => by have := hown (j / 6) (j % 6) (by omega) (by omega) (by omega) (by omega); rw [show 6 * (j / 6) + j % 6 = j by omega] at this; rw [this]; split <;> exact nl_e (by omega), fun _ => ⟨fun p i _ _ _ _ => by omega, fun i _ _ => by omega⟩⟩
        refine kw_iconst hC dX8_closes_35 rfl ?_
        refine kw_istore_n (lv' := [(1, _), (0, _)]) hC dX8_closes_36 rfl (by decide) rfl ?_
        have hL37 : ∀ (n37 : Nat) (n : Int) (W37 : wSt), Fr fR S W37 → (0 ≤ n) → (n ≤ 61) → (n ≤ W37 30 0 20) → (CB S W37 n 0) → 61 - n < (n37 : Int) → Wk E g 4 W37 37 [(0, vr g 30 0), (1, vi n)] [] := by
          intro n37
          induction n37 with
          | zero => intro n W37 hfW37 n0 n61 n1 hcb hm37; exact absurd hm37 (by omega)
          | succ n37 ih37 =>
            intro n W37 hfW37 n0 n61 n1 hcb hm37
            have hRW37 := hRS.fr (hfW37.mono (fun k i j h => by unfold fR at h; unfold tR; omega))
            have hnW37 := hRW37.n
            have enW37 : W37 30 0 0 = S 30 0 0 := hfW37 30 0 0 (by unfold fR; omega)
            have hcb1 := hcb.1
            refine kw_iload_n hC dX8_closes_37 rfl 1 rfl ?_
            refine kw_aload_n hC dX8_closes_38 rfl 0 rfl ?_
            refine kg_30_20 hC w8 f151 dX8_closes_39 rfl (by decide) (by decide) ?_
            refine kw_icmp_ge (tgt := 145) hC dX8_closes_42 rfl (by decide) (by omega) (by omega) ⟨fun c42 => ?_, fun c42 => ?_⟩
            · refine kw_aload_n hC dX8_closes_145 rfl 0 rfl ?_
              refine kg_30_20 hC w8 f151 dX8_closes_146 rfl (by decide) (by decide) ?_
              exact hR9.1 rfl _ _ _ _ dX8_closes_149 ⟨_, rfl, hfW37, by omega, by omega, fun q => hcb.noB hRS.set (by omega) q⟩
            · refine kw_aload_n hC dX8_closes_45 rfl 0 rfl ?_
              refine kg_30_20 hC w8 f151 dX8_closes_46 rfl (by decide) (by decide) ?_
              refine kw_bipush hC dX8_closes_49 rfl (by decide) ?_
              refine kw_icmp_ge (tgt := 145) hC dX8_closes_51 rfl (by decide) (by omega) (by omega) ⟨fun c51 => ?_, fun c51 => ?_⟩
              · refine kw_aload_n hC dX8_closes_145 rfl 0 rfl ?_
                refine kg_30_20 hC w8 f151 dX8_closes_146 rfl (by decide) (by decide) ?_
                exact hR9.1 rfl _ _ _ _ dX8_closes_149 ⟨_, rfl, hfW37, by omega, by omega, fun q => hcb.noB hRS.set (by omega) q⟩
              · refine kw_iconst hC dX8_closes_54 rfl ?_
                refine kw_istore_n (lv' := [(2, _), (0, _), (1, _)]) hC dX8_closes_55 rfl (by decide) rfl ?_
                have hL56 : ∀ (n56 : Nat) (i : Int) (W56 : wSt), Fr fR S W56 → (0 ≤ i) → (i ≤ S 30 0 0) → (n < W56 30 0 20) → (CB S W56 n i) → S 30 0 0 - i < (n56 : Int) → Wk E g 4 W56 56 [(0, vr g 30 0), (1, vi n), (2, vi i)] [] := by
                  intro n56
                  induction n56 with
                  | zero => intro i W56 hfW56 i0 i1 n1 hcb hm56; exact absurd hm56 (by omega)
                  | succ n56 ih56 =>
                    intro i W56 hfW56 i0 i1 n1 hcb hm56
                    have hRW56 := hRS.fr (hfW56.mono (fun k i j h => by unfold fR at h; unfold tR; omega))
                    have hnW56 := hRW56.n
                    have enW56 : W56 30 0 0 = S 30 0 0 := hfW56 30 0 0 (by unfold fR; omega)
                    have hcb1 := hcb.1
                    refine kw_iload_n hC dX8_closes_56 rfl 2 rfl ?_
                    refine kw_aload_n hC dX8_closes_57 rfl 0 rfl ?_
                    refine kg_30_0 hC w8 f11 dX8_closes_58 rfl (by decide) (by decide) ?_
                    refine kw_icmp_ge (tgt := 139) hC dX8_closes_61 rfl (by decide) (by omega) (by omega) ⟨fun c61 => ?_, fun c61 => ?_⟩
                    · have hcbN : CB S W56 (n + 1) 0 := by first | exact hcb.next (by omega) | exact hcb.early (by omega)
                      refine kw_iinc (lv' := [(1, _), (0, _), (2, _)]) hC dX8_closes_139 rfl 1 rfl (by decide) rfl ?_
                      refine kw_goto (tgt := 37) hC dX8_closes_142 rfl (by decide) ?_
                      refine kw_lv [1, 0] rfl ?_
                      exact ih37 (n + 1) W56 hfW56 (by omega) (by omega) (by omega) hcbN (by omega)
                    · refine kw_aload_n hC dX8_closes_64 rfl 0 rfl ?_
                      refine kg_30_20 hC w8 f151 dX8_closes_65 rfl (by decide) (by decide) ?_
                      refine kw_bipush hC dX8_closes_68 rfl (by decide) ?_
                      refine kw_icmp_ge (tgt := 139) hC dX8_closes_70 rfl (by decide) (by omega) (by omega) ⟨fun c70 => ?_, fun c70 => ?_⟩
                      · have hcbN : CB S W56 (n + 1) 0 := by first | exact hcb.next (by omega) | exact hcb.early (by omega)
                        refine kw_iinc (lv' := [(1, _), (0, _), (2, _)]) hC dX8_closes_139 rfl 1 rfl (by decide) rfl ?_
                        refine kw_goto (tgt := 37) hC dX8_closes_142 rfl (by decide) ?_
                        refine kw_lv [1, 0] rfl ?_
                        exact ih37 (n + 1) W56 hfW56 (by omega) (by omega) (by omega) hcbN (by omega)
                      · refine kw_iconst hC dX8_closes_73 rfl ?_
                        refine kw_istore_n (lv' := [(3, _), (0, _), (1, _), (2, _)]) hC dX8_closes_74 rfl (by decide) rfl ?_
                        have hL75 : ∀ (n75 : Nat) (k : Int) (W75 : wSt), Fr fR S W75 → (0 ≤ k) → (k ≤ 6) → (n < W75 30 0 20) → (W75 30 0 20 ≤ 60) → (CB S W75 n i) → (∀ j, 0 ≤ j → j < k → W75 55 0 j = W75 58 0 (6 * n + j)) → 6 - k < (n75 : Int) → Wk E g 4 W75 75 [(0, vr g 30 0), (1, vi n), (2, vi i), (3, vi k)] [] := by
                          intro n75
                          induction n75 with
                          | zero => intro k W75 hfW75 k0 k1 n1 c70b hcb hk hm75; exact absurd hm75 (by omega)
                          | succ n75 ih75 =>
                            intro k W75 hfW75 k0 k1 n1 c70b hcb hk hm75
                            have hRW75 := hRS.fr (hfW75.mono (fun k i j h => by unfold fR at h; unfold tR; omega))
                            have hnW75 := hRW75.n
                            have enW75 : W75 30 0 0 = S 30 0 0 := hfW75 30 0 0 (by unfold fR; omega)
                            have hcb1 := hcb.1
                            refine kw_iload_n hC dX8_closes_75 rfl 3 rfl ?_
                            refine kw_bipush hC dX8_closes_76 rfl (by decide) ?_
                            refine kw_icmp_ge (tgt := 104) hC dX8_closes_78 rfl (by decide) (by omega) (by omega) ⟨fun c78 => ?_, fun c78 => ?_⟩
                            · refine kw_aload_n hC dX8_closes_104 rfl 0 rfl ?_
                              refine kw_iload_n hC dX8_closes_105 rfl 2 rfl ?_
                              refine kw_callV hC (d_X8_turn hD (by omega) (by omega) hRW75) gX8_closes_X8_turn ⟨_, rfl⟩ rfl (by decide) (by decide) rfl ⟨rfl, rfl⟩ 1 (by decide +kernel) ⟨by decide, by decide⟩ rfl rfl (Nat.le_of_ble_eq_true rfl) dX8_closes_106 rfl (kd_v (fun S8 hp8 => ?_))
                              obtain ⟨hg8, hp8⟩ := hp8
                              have hfS8 : Fr fR S S8 := hfW75.trans (hg8.mono (fun k i j h => by unfold fT at h; unfold fR; omega))
                              have hRS8 := hRS.fr (hfS8.mono (fun k i j h => by unfold fR at h; unfold tR; omega))
                              have hnS8 := hRS8.n
                              have enS8 : S8 30 0 0 = S 30 0 0 := hfS8 30 0 0 (by unfold fR; omega)
                              obtain ⟨ht1, ht2, -, -⟩ := hp8
                              have e20_8 : S8 30 0 20 = W75 30 0 20 := hg8 30 0 20 (by unfold fT; omega)
                              replace hcb := hcb.eq (W' := S8) (fun j => hg8 58 0 j (by unfold fT; omega)) e20_8
                              have hRx : ∀ k, 0 ≤ k → k < 6 → S8 55 0 k = twv (S 42 0) (S 30 0 0) (fun k => S8 58 0 (6 * n + k)) i k := trn_twv (W := W75) (funext fun j => hfW75 42 0 j (by unfold fR; omega)) enW75 hnS (by omega) (by omega) ht1 ht2 (fun k k0 k1 => by rw [hk k k0 (by omega)]; exact (hg8 58 0 _ (by unfold fT; omega)).symm)
                              refine kw_aload_n hC dX8_closes_109 rfl 0 rfl ?_
                              refine kw_callV hC (d_X8_isAbove hD (by omega) (by omega)) gX8_closes_X8_isAbove ⟨_, rfl⟩ rfl (by decide) (by decide) rfl ⟨rfl, rfl⟩ 0 (by decide +kernel) ⟨by decide, by decide⟩ rfl rfl (Nat.le_of_ble_eq_true rfl) dX8_closes_110 rfl (kd_ie ?_)
                              refine kw_ifeq_b (tgt := 133) hC dX8_closes_113 rfl (by decide) ⟨fun c113 => ?_, fun c113 => ?_⟩
                              · replace hcb := hcb.low (by omega) hRx (by rw [enS8] at c113; exact c113)
                                replace hcb := hcb
                                refine kw_iinc (lv' := [(2, _), (0, _), (1, _), (3, _)]) hC dX8_closes_133 rfl 2 rfl (by decide) rfl ?_
                                refine kw_goto (tgt := 56) hC dX8_closes_136 rfl (by decide) ?_
                                refine kw_lv [1, 2, 0] rfl ?_
                                exact ih56 (i + 1) S8 hfS8 (by omega) (by omega) (by omega) hcb (by omega)
                              · refine kw_aload_n hC dX8_closes_116 rfl 0 rfl ?_
                                refine kw_iconst hC dX8_closes_117 rfl ?_
                                refine kw_callV hC (d_X8_isKnown hD (by omega) (by omega) (by omega) (by omega)) gX8_closes_X8_isKnown ⟨_, rfl⟩ rfl (by decide) (by decide) rfl ⟨rfl, rfl⟩ 1 (by decide +kernel) ⟨by decide, by decide⟩ rfl rfl (Nat.le_of_ble_eq_true rfl) dX8_closes_118 rfl (kd_ie ?_)
                                refine kw_ifne_b (tgt := 133) hC dX8_closes_121 rfl (by decide) ⟨fun c121 => ?_, fun c121 => ?_⟩
                                · replace hcb := hcb.known hRx c121
                                  replace hcb := hcb
                                  refine kw_iinc (lv' := [(2, _), (0, _), (1, _), (3, _)]) hC dX8_closes_133 rfl 2 rfl (by decide) rfl ?_
                                  refine kw_goto (tgt := 56) hC dX8_closes_136 rfl (by decide) ?_
                                  refine kw_lv [1, 2, 0] rfl ?_
                                  exact ih56 (i + 1) S8 hfS8 (by omega) (by omega) (by omega) hcb (by omega)
                                · refine kw_aload_n hC dX8_closes_124 rfl 0 rfl ?_
                                  refine kw_aload_n hC dX8_closes_125 rfl 0 rfl ?_
                                  refine kg_30_20 hC w8 f151 dX8_closes_126 rfl (by decide) (by decide) ?_
                                  refine kw_iconst hC dX8_closes_129 rfl ?_
                                  refine kw_callV hC (d_X8_comes hD (by omega) (by omega) (by omega)) gX8_closes_X8_comes ⟨_, rfl⟩ rfl (by decide) (by decide) rfl ⟨rfl, rfl⟩ 2 (by decide +kernel) ⟨by decide, by decide⟩ rfl rfl (Nat.le_of_ble_eq_true rfl) dX8_closes_130 rfl (kd_v (fun S11 hp11 => ?_))
                                  obtain ⟨hg11, hp11⟩ := hp11
                                  have hfS11 : Fr fR S S11 := hfS8.trans (hg11.mono (fun k i j h => by unfold fC at h; unfold fR; omega))
                                  have hRS11 := hRS.fr (hfS11.mono (fun k i j h => by unfold fR at h; unfold tR; omega))
                                  have hnS11 := hRS11.n
                                  have enS11 : S11 30 0 0 = S 30 0 0 := hfS11 30 0 0 (by unfold fR; omega)
                                  obtain ⟨y20, p, hp2, hf2, hv2, -⟩ := hp11
                                  obtain rfl : p = S8 30 0 20 := by omega
                                  replace hcb := hcb.new (W' := S11) hnS n0 (by omega) i0 (by omega) hRx y20 (by omega) hf2 hv2
                                  replace hcb := hcb
                                  refine kw_iinc (lv' := [(2, _), (0, _), (1, _), (3, _)]) hC dX8_closes_133 rfl 2 rfl (by decide) rfl ?_
                                  refine kw_goto (tgt := 56) hC dX8_closes_136 rfl (by decide) ?_
                                  refine kw_lv [1, 2, 0] rfl ?_
                                  exact ih56 (i + 1) S11 hfS11 (by omega) (by omega) (by omega) hcb (by omega)
                            · refine kw_aload_n hC dX8_closes_81 rfl 0 rfl ?_
                              refine kg_30_15 hC w8 f77 dX8_closes_82 rfl (by decide) (by decide) ?_
                              refine kw_iload_n hC dX8_closes_85 rfl 3 rfl ?_
                              refine kw_aload_n hC dX8_closes_86 rfl 0 rfl ?_
                              refine kg_30_18 hC w8 f154 dX8_closes_87 rfl (by decide) (by decide) ?_
                              refine kw_bipush hC dX8_closes_90 rfl (by decide) ?_
                              refine kw_iload_n hC dX8_closes_92 rfl 1 rfl ?_
                              refine kw_imul hC dX8_closes_93 rfl ?_
                              refine kw_iload_n hC dX8_closes_94 rfl 3 rfl ?_
                              refine kw_iadd hC dX8_closes_95 rfl ?_
                              refine ka_58 hC dX8_closes_96 rfl (by decide) (by decide) (by omega) (by omega) ?_
                              refine ks_55 hC dX8_closes_97 rfl (by decide) (by decide) (by omega) (by omega) ?_
                              refine kw_hv hfW75 (by unfold fR; omega) (fun S12 hfS12 hv12 ho12 => ?_)
                              have hRS12 := hRS.fr (hfS12.mono (fun k i j h => by unfold fR at h; unfold tR; omega))
                              have hnS12 := hRS12.n
                              have enS12 : S12 30 0 0 = S 30 0 0 := hfS12 30 0 0 (by unfold fR; omega)
                              have e20_12 : S12 30 0 20 = W75 30 0 20 := ho12 30 0 20 (by omega)
                              replace hcb := hcb.eq (W' := S12) (fun j => ho12 58 0 j (by omega)) e20_12
                              refine kw_iinc (lv' := [(3, _), (0, _), (1, _), (2, _)]) hC dX8_closes_98 rfl 3 rfl (by decide) rfl ?_
                              refine kw_goto (tgt := 75) hC dX8_closes_101 rfl (by decide) ?_
                              refine kw_lv [1, 2, 3, 0] rfl ?_
                              exact ih75 (k + 1) S12 hfS12 (by omega) (by omega) (by omega) (by omega) hcb (fun j j0 j1 => by rw [ho12 58 0 _ (by omega)]; rcases Decidable.em (j = k) with e | e; exact (by rw [e]; exact hv12); exact (ho12 55 0 j (by omega)).trans (hk j j0 (by omega))) (by omega)
                        refine kw_lv [1, 2, 3, 0] rfl ?_
                        exact hL75 7 0 W56 hfW56 (by omega) (by omega) (by omega) (by omega) hcb (fun j _ _ => by omega) (by omega)
                refine kw_lv [1, 2, 0] rfl ?_
                exact hL56 7 0 W37 hfW37 (by omega) (by omega) (by omega) hcb (by omega)
        refine kw_lv [1, 0] rfl ?_
        exact hL37 62 0 W7 hfW7 (by omega) (by omega) (by omega) hcb0 (by omega)
      · refine kw_aload_n hC dX8_closes_15 rfl 0 rfl ?_
        refine kw_iload_n hC dX8_closes_16 rfl 1 rfl ?_
        refine kw_callV hC (d_X8_own hD (by omega)) gX8_closes_X8_own ⟨_, rfl⟩ rfl (by decide) (by decide) rfl ⟨rfl, rfl⟩ 1 (by decide +kernel) ⟨by decide, by decide⟩ rfl rfl (Nat.le_of_ble_eq_true rfl) dX8_closes_17 rfl (kd_v (fun S13 hp13 => ?_))
        obtain ⟨hg13, hp13⟩ := hp13
        have hfS13 : Fr fR S S13 := hfW7.trans (hg13.mono (fun k i j h => by unfold fO at h; unfold fR; omega))
        have hRS13 := hRS.fr (hfS13.mono (fun k i j h => by unfold fR at h; unfold tR; omega))
        have hnS13 := hRS13.n
        have enS13 : S13 30 0 0 = S 30 0 0 := hfS13 30 0 0 (by unfold fR; omega)
        have e20_13 : S13 30 0 20 = W7 30 0 20 := hg13 30 0 20 (by unfold fO; omega)
        have hr55 := hp13
        have hgO := hg13
        refine kw_aload_n hC dX8_closes_20 rfl 0 rfl ?_
        refine kw_aload_n hC dX8_closes_21 rfl 0 rfl ?_
        refine kg_30_20 hC w8 f151 dX8_closes_22 rfl (by decide) (by decide) ?_
        refine kw_chi (z' := i) (e20_13.trans x20) ?_
        refine kw_iconst hC dX8_closes_25 rfl ?_
        refine kw_callV hC (d_X8_comes hD (by omega) (by omega) (by omega)) gX8_closes_X8_comes ⟨_, rfl⟩ rfl (by decide) (by decide) rfl ⟨rfl, rfl⟩ 2 (by decide +kernel) ⟨by decide, by decide⟩ rfl rfl (Nat.le_of_ble_eq_true rfl) dX8_closes_26 rfl (kd_v (fun S14 hp14 => ?_))
        obtain ⟨hg14, hp14⟩ := hp14
        have hfS14 : Fr fR S S14 := hfS13.trans (hg14.mono (fun k i j h => by unfold fC at h; unfold fR; omega))
        have hRS14 := hRS.fr (hfS14.mono (fun k i j h => by unfold fR at h; unfold tR; omega))
        have hnS14 := hRS14.n
        have enS14 : S14 30 0 0 = S 30 0 0 := hfS14 30 0 0 (by unfold fR; omega)
        obtain ⟨y20, p, hp2, hf2, hv2, -⟩ := hp14
        obtain rfl : i = p := by omega
        have hown2 : ∀ q k, 0 ≤ q → q < i + 1 → 0 ≤ k → k < 6 → S14 58 0 (6 * q + k) = if k = q then 1 else 0 := fun q k q0 q1 k0 k1 => by rcases Decidable.em (q = i) with e | e; exact (by rw [e, hv2 k k0 k1, hr55 k k0 k1]; split <;> exact nl_e (by omega)); exact (by rw [hf2 _ (by omega) (by omega), hgO 58 0 _ (by unfold fO; omega)]; exact hown q k q0 (by omega) k0 k1)
        refine kw_iinc (lv' := [(1, _), (0, _)]) hC dX8_closes_29 rfl 1 rfl (by decide) rfl ?_
        refine kw_goto (tgt := 7) hC dX8_closes_32 rfl (by decide) ?_
        refine kw_lv [1, 0] rfl ?_
        exact ih7 (i + 1) S14 hfS14 (by omega) (by omega) (by omega) hown2 (by omega)
  refine kw_lv [1, 0] rfl ?_
  exact hL7 7 0 S1 hfS1 (by omega) (by omega) hv1 (fun p k _ _ _ _ => by omega) (by omega)

set_option maxHeartbeats 4000000 in
set_option maxRecDepth 100000 in
theorem d_X8_ends {g : wG} (hD : wD g) {S : wSt} (hRS : RI S) (l : Launch) : Kt l yX8_ends wsX8_ends ({ frames := 3, cells := 0, slots := 0, locals := 72 } : Room) g S [vr g 30 0] (pI (fun r S' => Fr fR S S' ∧ ((r = -2 ∨ 0 ≤ r) ∧ r ≤ 60 ∧ (0 ≤ r → NoB (mxz (S 42 0)) (S 30 0 0).toNat)))) := by
  refine Kt.of (cc := cX8_ends) (nL := 2) (ret := (some .int)) (own := RX8) rfl hD (by decide) rfl (Nat.le_of_ble_eq_true rfl) ⟨rfl, rfl⟩ ?_
  intro E hC hR9
  show Wk E g 2 S 0 [(0, vr g 30 0)] []
  have hfS : Fr fR S S := Fr.rfl _ S
  have hRS := hRS.fr (hfS.mono (fun k i j h => by unfold fR at h; unfold tR; omega))
  have hnS := hRS.n
  have enS : S 30 0 0 = S 30 0 0 := hfS 30 0 0 (by unfold fR; omega)
  refine kw_aload_n hC dX8_ends_0 rfl 0 rfl ?_
  refine kw_callV hC (d_X8_closes hD hRS) gX8_ends_X8_closes ⟨_, rfl⟩ rfl (by decide) (by decide) rfl ⟨rfl, rfl⟩ 0 (by decide +kernel) ⟨by decide, by decide⟩ rfl rfl (Nat.le_of_ble_eq_true rfl) dX8_ends_1 rfl (kd_i (fun r1 S1 hp1 => ?_))
  obtain ⟨hg1, hp1⟩ := hp1
  have hfS1 : Fr fR S S1 := hfS.trans hg1
  have hRS1 := hRS.fr (hfS1.mono (fun k i j h => by unfold fR at h; unfold tR; omega))
  have hnS1 := hRS1.n
  have enS1 : S1 30 0 0 = S 30 0 0 := hfS1 30 0 0 (by unfold fR; omega)
  obtain ⟨q0, q1, hq⟩ := hp1
  refine kw_istore_n (lv' := [(1, _), (0, _)]) hC dX8_ends_4 rfl (by decide) rfl ?_
  refine kw_iload_n hC dX8_ends_5 rfl 0 rfl ?_
  refine kw_bipush hC dX8_ends_6 rfl (by decide) ?_
  refine kw_icmp_le (tgt := 16) hC dX8_ends_8 rfl (by decide) (by omega) (by omega) ⟨fun c8 => ?_, fun c8 => ?_⟩
  · refine kw_iload_n hC dX8_ends_16 rfl 0 rfl ?_
    exact hR9.1 rfl _ _ _ _ dX8_ends_17 ⟨_, rfl, hfS1, by omega, by omega, fun q => hq (by omega)⟩
  · refine kw_bipush hC dX8_ends_11 rfl (by decide) ?_
    refine kw_goto (tgt := 17) hC dX8_ends_13 rfl (by decide) ?_
    exact hR9.1 rfl _ _ _ _ dX8_ends_17 ⟨_, rfl, hfS1, by omega, by omega, fun q => hq (by omega)⟩

set_option maxHeartbeats 4000000 in
set_option maxRecDepth 100000 in
theorem d_X8_addWeight {g : wG} (hD : wD g) {S : wSt} (m0 : 0 ≤ S 30 0 23) (m1 : S 30 0 23 ≤ 1999) (rg62 : ∀ j, 0 ≤ j → j < 6 * S 30 0 23 → -2147483648 ≤ S 62 0 j ∧ S 62 0 j ≤ 2147483647) (rg64 : ∀ k, 0 ≤ k → k < 6 → -2147483648 ≤ S 64 0 k ∧ S 64 0 k ≤ 2147483647) (l : Launch) : Kt l yX8_addWeight wsX8_addWeight ({ frames := 0, cells := 0, slots := 0, locals := 0 } : Room) g S [vr g 30 0] (pV (fun S' => Fr fB S S' ∧ ((S' = S ∧ ∃ p, 0 ≤ p ∧ p < S 30 0 23 ∧ ∀ k, 0 ≤ k → k < 6 → S 62 0 (6 * p + k) = S 64 0 k) ∨ (S' 30 0 23 = S 30 0 23 + 1 ∧ (∀ p, 0 ≤ p → p < S 30 0 23 → ∃ k, 0 ≤ k ∧ k < 6 ∧ S 62 0 (6 * p + k) ≠ S 64 0 k) ∧ (∀ j, 0 ≤ j → j < 6 * S 30 0 23 → S' 62 0 j = S 62 0 j) ∧ ∀ k, 0 ≤ k → k < 6 → S' 62 0 (6 * S 30 0 23 + k) = S 64 0 k)))) := by
  refine Kt.of (cc := cX8_addWeight) (nL := 4) (ret := none) (own := RX8) rfl hD (by decide) rfl (Nat.le_of_ble_eq_true rfl) ⟨rfl, rfl⟩ ?_
  intro E hC hR9
  have f186 : Cond.fieldLink RX8 186 "MirrorBenchModel" "weightMany" "I" ∈ wsX8_addWeight := by decide +kernel
  have f189 : Cond.fieldLink RX8 189 "MirrorBenchModel" "weights" "[I" ∈ wsX8_addWeight := by decide +kernel
  have f192 : Cond.fieldLink RX8 192 "MirrorBenchModel" "weight" "[I" ∈ wsX8_addWeight := by decide +kernel
  have w8 : ∀ w ∈ wsX80, w ∈ wsX8_addWeight := by decide +kernel
  show Wk E g 4 S 0 [(0, vr g 30 0)] []
  have hfS : Fr fB S S := Fr.rfl _ S
  refine kw_iconst hC dX8_addWeight_0 rfl ?_
  refine kw_istore_n (lv' := [(1, _), (0, _)]) hC dX8_addWeight_1 rfl (by decide) rfl ?_
  have hL2 : ∀ (n2 : Nat) (i : Int), (0 ≤ i) → (i ≤ S 30 0 23) → (∀ p, 0 ≤ p → p < i → ∃ k, 0 ≤ k ∧ k < 6 ∧ S 62 0 (6 * p + k) ≠ S 64 0 k) → S 30 0 23 - i < (n2 : Int) → Wk E g 4 S 2 [(0, vr g 30 0), (1, vi i)] [] := by
    intro n2
    induction n2 with
    | zero => intro i i0 i1 hno hm2; exact absurd hm2 (by omega)
    | succ n2 ih2 =>
      intro i i0 i1 hno hm2
      refine kw_iload_n hC dX8_addWeight_2 rfl 1 rfl ?_
      refine kw_aload_n hC dX8_addWeight_3 rfl 0 rfl ?_
      refine kg_30_23 hC w8 f186 dX8_addWeight_4 rfl (by decide) (by decide) ?_
      refine kw_icmp_ge (tgt := 67) hC dX8_addWeight_7 rfl (by decide) (by omega) (by omega) ⟨fun c7 => ?_, fun c7 => ?_⟩
      · refine kw_iconst hC dX8_addWeight_67 rfl ?_
        refine kw_istore_n (lv' := [(1, _), (0, _)]) hC dX8_addWeight_68 rfl (by decide) rfl ?_
        have hL69 : ∀ (n69 : Nat) (x : Int) (W69 : wSt), Fr fB S W69 → (0 ≤ x) → (x ≤ 6) → (W69 30 0 23 = S 30 0 23) → (∀ j, 0 ≤ j → j < 6 * S 30 0 23 → W69 62 0 j = S 62 0 j) → (∀ k, 0 ≤ k → k < x → W69 62 0 (6 * S 30 0 23 + k) = S 64 0 k) → 6 - x < (n69 : Int) → Wk E g 4 W69 69 [(0, vr g 30 0), (1, vi x)] [] := by
          intro n69
          induction n69 with
          | zero => intro x W69 hfW69 x0 x1 q23 h1 h2 hm69; exact absurd hm69 (by omega)
          | succ n69 ih69 =>
            intro x W69 hfW69 x0 x1 q23 h1 h2 hm69
            have e64 : ∀ j, W69 64 0 j = S 64 0 j := fun j => hfW69 64 0 j (by unfold fB; omega)
            refine kw_iload_n hC dX8_addWeight_69 rfl 1 rfl ?_
            refine kw_bipush hC dX8_addWeight_70 rfl (by decide) ?_
            refine kw_icmp_ge (tgt := 101) hC dX8_addWeight_72 rfl (by decide) (by omega) (by omega) ⟨fun c72 => ?_, fun c72 => ?_⟩
            · refine kw_aload_n hC dX8_addWeight_101 rfl 0 rfl ?_
              refine kw_dup hC dX8_addWeight_102 rfl rfl ?_
              refine kg_30_23 hC w8 f186 dX8_addWeight_103 rfl (by decide) (by decide) ?_
              refine kw_chi (z' := S 30 0 23) q23 ?_
              refine kw_iconst hC dX8_addWeight_106 rfl ?_
              refine kw_iadd hC dX8_addWeight_107 rfl ?_
              refine kp_30_23 hC w8 f186 dX8_addWeight_108 rfl (by decide) (by decide) ?_
              refine kw_hv hfW69 (by unfold fB; omega) (fun S3 hfS3 hv3 ho3 => ?_)
              exact hR9.2.2.2 rfl _ _ _ dX8_addWeight_111 ⟨rfl, hfS3, Or.inr ⟨hv3, fun p p0 p1 => hno p p0 (by omega), fun j j0 j1 => (ho3 62 0 j (by omega)).trans (h1 j j0 j1), fun k k0 k1 => (ho3 62 0 _ (by omega)).trans (h2 k k0 (by omega))⟩⟩
            · refine kw_aload_n hC dX8_addWeight_75 rfl 0 rfl ?_
              refine kg_30_22 hC w8 f189 dX8_addWeight_76 rfl (by decide) (by decide) ?_
              refine kw_bipush hC dX8_addWeight_79 rfl (by decide) ?_
              refine kw_aload_n hC dX8_addWeight_81 rfl 0 rfl ?_
              refine kg_30_23 hC w8 f186 dX8_addWeight_82 rfl (by decide) (by decide) ?_
              refine kw_chi (z' := S 30 0 23) q23 ?_
              refine kw_imul hC dX8_addWeight_85 rfl ?_
              refine kw_iload_n hC dX8_addWeight_86 rfl 1 rfl ?_
              refine kw_iadd hC dX8_addWeight_87 rfl ?_
              refine kw_aload_n hC dX8_addWeight_88 rfl 0 rfl ?_
              refine kg_30_24 hC w8 f192 dX8_addWeight_89 rfl (by decide) (by decide) ?_
              refine kw_iload_n hC dX8_addWeight_92 rfl 1 rfl ?_
              refine ka_64 hC dX8_addWeight_93 rfl (by decide) (by decide) (by omega) (by omega) ?_
              refine ks_62 hC dX8_addWeight_94 rfl (by decide) (by decide) (by omega) (by omega) ?_
              refine kw_hv hfW69 (by unfold fB; omega) (fun S4 hfS4 hv4 ho4 => ?_)
              refine kw_iinc (lv' := [(1, _), (0, _)]) hC dX8_addWeight_95 rfl 1 rfl (by decide) rfl ?_
              refine kw_goto (tgt := 69) hC dX8_addWeight_98 rfl (by decide) ?_
              refine kw_lv [1, 0] rfl ?_
              exact ih69 (x + 1) S4 hfS4 (by omega) (by omega) ((ho4 30 0 23 (by omega)).trans q23) (fun j j0 j1 => (ho4 62 0 j (by omega)).trans (h1 j j0 j1)) (fun j j0 j1 => by rcases Decidable.em (j = x) with e | e; exact (by rw [e, hv4]; exact e64 x); exact (ho4 62 0 _ (by omega)).trans (h2 j j0 (by omega))) (by omega)
        refine kw_lv [1, 0] rfl ?_
        exact hL69 7 0 S hfS (by omega) (by omega) rfl (fun _ _ _ => rfl) (fun k _ _ => by omega) (by omega)
      · have hi9 : i < S 30 0 23 := by omega
        refine kw_iconst hC dX8_addWeight_10 rfl ?_
        refine kw_chi (z' := bz (∀ j, 0 ≤ j → j < 0 → S 62 0 (6 * i + j) = S 64 0 j)) (bz_t (fun j _ _ => by omega)).symm ?_
        refine kw_istore_n (lv' := [(2, _), (0, _), (1, _)]) hC dX8_addWeight_11 rfl (by decide) rfl ?_
        refine kw_iconst hC dX8_addWeight_12 rfl ?_
        refine kw_istore_n (lv' := [(3, _), (2, _), (0, _), (1, _)]) hC dX8_addWeight_13 rfl (by decide) rfl ?_
        have hL14 : ∀ (n14 : Nat) (k : Int), (0 ≤ k) → (k ≤ 6) → (i < S 30 0 23) → 6 - k < (n14 : Int) → Wk E g 4 S 14 [(0, vr g 30 0), (1, vi i), (2, vi (bz (∀ j, 0 ≤ j → j < k → S 62 0 (6 * i + j) = S 64 0 j))), (3, vi k)] [] := by
          intro n14
          induction n14 with
          | zero => intro k k0 k1 i2 hm14; exact absurd hm14 (by omega)
          | succ n14 ih14 =>
            intro k k0 k1 i2 hm14
            refine kw_iload_n hC dX8_addWeight_14 rfl 3 rfl ?_
            refine kw_bipush hC dX8_addWeight_15 rfl (by decide) ?_
            refine kw_icmp_ge (tgt := 56) hC dX8_addWeight_17 rfl (by decide) (by omega) (by omega) ⟨fun c17 => ?_, fun c17 => ?_⟩
            · refine kw_iload_n hC dX8_addWeight_56 rfl 2 rfl ?_
              refine kw_ifeq_b (tgt := 61) hC dX8_addWeight_57 rfl (by decide) ⟨fun c57 => ?_, fun c57 => ?_⟩
              · refine kw_iinc (lv' := [(1, _), (0, _), (2, _), (3, _)]) hC dX8_addWeight_61 rfl 1 rfl (by decide) rfl ?_
                refine kw_goto (tgt := 2) hC dX8_addWeight_64 rfl (by decide) ?_
                refine kw_lv [1, 0] rfl ?_
                exact ih2 (i + 1) (by omega) (by omega) (fun p p0 p1 => by rcases Decidable.em (p = i) with e | e; exact (by rw [e]; exact Classical.byContradiction fun q => c57 (fun j j0 j1 => Classical.byContradiction fun q2 => q ⟨j, j0, by omega, q2⟩)); exact hno p p0 (by omega)) (by omega)
              · exact hR9.2.2.2 rfl _ _ _ dX8_addWeight_60 ⟨rfl, Fr.rfl _ S, Or.inl ⟨rfl, i, i0, i2, fun j j0 j1 => c57 j j0 (by first | omega | exact absurd c57 c21)⟩⟩
            · refine kw_iload_n hC dX8_addWeight_20 rfl 2 rfl ?_
              refine kw_ifeq_b (tgt := 56) hC dX8_addWeight_21 rfl (by decide) ⟨fun c21 => ?_, fun c21 => ?_⟩
              · refine kw_iload_n hC dX8_addWeight_56 rfl 2 rfl ?_
                refine kw_ifeq_b (tgt := 61) hC dX8_addWeight_57 rfl (by decide) ⟨fun c57 => ?_, fun c57 => ?_⟩
                · refine kw_iinc (lv' := [(1, _), (0, _), (2, _), (3, _)]) hC dX8_addWeight_61 rfl 1 rfl (by decide) rfl ?_
                  refine kw_goto (tgt := 2) hC dX8_addWeight_64 rfl (by decide) ?_
                  refine kw_lv [1, 0] rfl ?_
                  exact ih2 (i + 1) (by omega) (by omega) (fun p p0 p1 => by rcases Decidable.em (p = i) with e | e; exact (by rw [e]; exact Classical.byContradiction fun q => c57 (fun j j0 j1 => Classical.byContradiction fun q2 => q ⟨j, j0, by omega, q2⟩)); exact hno p p0 (by omega)) (by omega)
                · exact hR9.2.2.2 rfl _ _ _ dX8_addWeight_60 ⟨rfl, Fr.rfl _ S, Or.inl ⟨rfl, i, i0, i2, fun j j0 j1 => c57 j j0 (by first | omega | exact absurd c57 c21)⟩⟩
              · refine kw_aload_n hC dX8_addWeight_24 rfl 0 rfl ?_
                refine kg_30_22 hC w8 f189 dX8_addWeight_25 rfl (by decide) (by decide) ?_
                refine kw_bipush hC dX8_addWeight_28 rfl (by decide) ?_
                refine kw_iload_n hC dX8_addWeight_30 rfl 1 rfl ?_
                refine kw_imul hC dX8_addWeight_31 rfl ?_
                refine kw_iload_n hC dX8_addWeight_32 rfl 3 rfl ?_
                refine kw_iadd hC dX8_addWeight_33 rfl ?_
                refine ka_62 hC dX8_addWeight_34 rfl (by decide) (by decide) (by omega) (by omega) ?_
                have rga := rg62 (6 * i + k) (by omega) (by omega)
                refine kw_aload_n hC dX8_addWeight_35 rfl 0 rfl ?_
                refine kg_30_24 hC w8 f192 dX8_addWeight_36 rfl (by decide) (by decide) ?_
                refine kw_iload_n hC dX8_addWeight_39 rfl 3 rfl ?_
                refine ka_64 hC dX8_addWeight_40 rfl (by decide) (by decide) (by omega) (by omega) ?_
                have rgb := rg64 k (by omega) (by omega)
                refine kw_icmp_ne (tgt := 48) hC dX8_addWeight_41 rfl (by decide) (by omega) (by omega) ⟨fun c41 => ?_, fun c41 => ?_⟩
                · refine kw_iconst hC dX8_addWeight_48 rfl ?_
                  refine kw_chi (z' := bz (∀ j, 0 ≤ j → j < k + 1 → S 62 0 (6 * i + j) = S 64 0 j)) (by first | exact (bz_f (fun q => c41 (q k k0 (by omega)))).symm | exact (bz_t (fun j j0 j1 => by rcases Decidable.em (j = k) with e | e; exact (by rw [e]; omega); exact c21 j j0 (by omega))).symm) ?_
                  refine kw_istore_n (lv' := [(2, _), (0, _), (1, _), (3, _)]) hC dX8_addWeight_49 rfl (by decide) rfl ?_
                  refine kw_iinc (lv' := [(3, _), (2, _), (0, _), (1, _)]) hC dX8_addWeight_50 rfl 3 rfl (by decide) rfl ?_
                  refine kw_goto (tgt := 14) hC dX8_addWeight_53 rfl (by decide) ?_
                  refine kw_lv [2, 3, 1, 0] rfl ?_
                  exact ih14 (k + 1) (by omega) (by omega) (by omega) (by omega)
                · refine kw_iconst hC dX8_addWeight_44 rfl ?_
                  refine kw_goto (tgt := 49) hC dX8_addWeight_45 rfl (by decide) ?_
                  refine kw_chi (z' := bz (∀ j, 0 ≤ j → j < k + 1 → S 62 0 (6 * i + j) = S 64 0 j)) (by first | exact (bz_f (fun q => c41 (q k k0 (by omega)))).symm | exact (bz_t (fun j j0 j1 => by rcases Decidable.em (j = k) with e | e; exact (by rw [e]; omega); exact c21 j j0 (by omega))).symm) ?_
                  refine kw_istore_n (lv' := [(2, _), (0, _), (1, _), (3, _)]) hC dX8_addWeight_49 rfl (by decide) rfl ?_
                  refine kw_iinc (lv' := [(3, _), (2, _), (0, _), (1, _)]) hC dX8_addWeight_50 rfl 3 rfl (by decide) rfl ?_
                  refine kw_goto (tgt := 14) hC dX8_addWeight_53 rfl (by decide) ?_
                  refine kw_lv [2, 3, 1, 0] rfl ?_
                  exact ih14 (k + 1) (by omega) (by omega) (by omega) (by omega)
        refine kw_lv [2, 3, 1, 0] rfl ?_
        exact hL14 7 0 (by omega) (by omega) (by omega) (by omega)
  refine kw_lv [1, 0] rfl ?_
  exact hL2 2000 0 (by omega) (by omega) (fun p _ _ => by omega) (by omega)

theorem mul_rg8 {x y : Int} (hx : -8 ≤ x ∧ x ≤ 8) (hy : 0 ≤ y ∧ y ≤ 4) : -32 ≤ x * y ∧ x * y ≤ 32 := by
  have h : y = 0 ∨ y = 1 ∨ y = 2 ∨ y = 3 ∨ y = 4 := by omega
  rcases h with rfl | rfl | rfl | rfl | rfl <;> omega

set_option maxHeartbeats 4000000 in
set_option maxRecDepth 100000 in
theorem d_X8_orbit {g : wG} (hD : wD g) {S : wSt} {a : Int} (a0 : 0 ≤ a) (a1 : a < S 30 0 0) (hRS : RI S) (hB : NoB (mxz (S 42 0)) (S 30 0 0).toNat) (l : Launch) : Kt l yX8_orbit wsX8_orbit ({ frames := 1, cells := 0, slots := 0, locals := 23 } : Room) g S [vr g 30 0, vi a] (pI (fun r S' => Fr fD S S' ∧ (0 ≤ r ∧ r ≤ 720))) := by
  refine Kt.of (cc := cX8_orbit) (nL := 7) (ret := (some .int)) (own := RX8) rfl hD (by decide) rfl (Nat.le_of_ble_eq_true rfl) ⟨rfl, rfl⟩ ?_
  intro E hC hR9
  have f17 : Cond.fieldLink RX8 17 "MirrorBenchModel" "meets" "[I" ∈ wsX8_orbit := by decide +kernel
  have f186 : Cond.fieldLink RX8 186 "MirrorBenchModel" "weightMany" "I" ∈ wsX8_orbit := by decide +kernel
  have f189 : Cond.fieldLink RX8 189 "MirrorBenchModel" "weights" "[I" ∈ wsX8_orbit := by decide +kernel
  have f192 : Cond.fieldLink RX8 192 "MirrorBenchModel" "weight" "[I" ∈ wsX8_orbit := by decide +kernel
  have w8 : ∀ w ∈ wsX80, w ∈ wsX8_orbit := by decide +kernel
  show Wk E g 7 S 0 [(0, vr g 30 0), (1, vi a)] []
  have hfS : Fr fD S S := Fr.rfl _ S
  have hRS := hRS.fr (hfS.mono (fun k i j h => by unfold fD at h; unfold tR; omega))
  have hnS := hRS.n
  have enS : S 30 0 0 = S 30 0 0 := hfS 30 0 0 (by unfold fD; omega)
  obtain ⟨L, hLl, hLo, hLc, hLz, hLr⟩ := weights_of hRS.set.mok (by omega) hB (last := a.toNat) (by omega)
  refine kw_aload_n hC dX8_orbit_0 rfl 0 rfl ?_
  refine kw_iconst hC dX8_orbit_1 rfl ?_
  refine kp_30_23 hC w8 f186 dX8_orbit_2 rfl (by decide) (by decide) ?_
  refine kw_hv hfS (by unfold fD; omega) (fun S1 hfS1 hv1 ho1 => ?_)
  have hRS1 := hRS.fr (hfS1.mono (fun k i j h => by unfold fD at h; unfold tR; omega))
  have hnS1 := hRS1.n
  have enS1 : S1 30 0 0 = S 30 0 0 := hfS1 30 0 0 (by unfold fD; omega)
  refine kw_iconst hC dX8_orbit_5 rfl ?_
  refine kw_istore_n (lv' := [(2, _), (0, _), (1, _)]) hC dX8_orbit_6 rfl (by decide) rfl ?_
  have hL7 : ∀ (n7 : Nat) (x : Int) (W7 : wSt), Fr fD S W7 → (0 ≤ x) → (x ≤ 6) → (W7 30 0 23 = 0) → (∀ k, 0 ≤ k → k < x → W7 64 0 k = if k = a then 1 else 0) → 6 - x < (n7 : Int) → Wk E g 7 W7 7 [(0, vr g 30 0), (1, vi a), (2, vi x)] [] := by
    intro n7
    induction n7 with
    | zero => intro x W7 hfW7 x0 x1 q23 hk hm7; exact absurd hm7 (by omega)
    | succ n7 ih7 =>
      intro x W7 hfW7 x0 x1 q23 hk hm7
      have hRW7 := hRS.fr (hfW7.mono (fun k i j h => by unfold fD at h; unfold tR; omega))
      have hnW7 := hRW7.n
      have enW7 : W7 30 0 0 = S 30 0 0 := hfW7 30 0 0 (by unfold fD; omega)
      refine kw_iload_n hC dX8_orbit_7 rfl 2 rfl ?_
      refine kw_bipush hC dX8_orbit_8 rfl (by decide) ?_
      refine kw_icmp_ge (tgt := 35) hC dX8_orbit_10 rfl (by decide) (by omega) (by omega) ⟨fun c10 => ?_, fun c10 => ?_⟩
      · refine kw_aload_n hC dX8_orbit_35 rfl 0 rfl ?_
        refine kw_callV hC (d_X8_addWeight hD (by omega) (by omega) (fun j _ _ => by omega) (fun k k0 k1 => by have := hk k k0 (by omega); split at this <;> omega)) gX8_orbit_X8_addWeight ⟨_, rfl⟩ rfl (by decide) (by decide) rfl ⟨rfl, rfl⟩ 0 (by decide +kernel) ⟨by decide, by decide⟩ rfl rfl (Nat.le_of_ble_eq_true rfl) dX8_orbit_36 rfl (kd_v (fun S3 hp3 => ?_))
        obtain ⟨hg3, hp3⟩ := hp3
        have hfS3 : Fr fD S S3 := hfW7.trans (hg3.mono (fun k i j h => by unfold fB at h; unfold fD; omega))
        have hRS3 := hRS.fr (hfS3.mono (fun k i j h => by unfold fD at h; unfold tR; omega))
        have hnS3 := hRS3.n
        have enS3 : S3 30 0 0 = S 30 0 0 := hfS3 30 0 0 (by unfold fD; omega)
        obtain ⟨hwk, hpos⟩ : WK L (S3 62 0) (S3 30 0 23) ∧ 0 ≤ S3 30 0 23 := by rcases hp3 with ⟨-, p, p0, p1, -⟩ | ⟨q1, -, -, q4⟩; omega; refine ⟨?_, by omega⟩; rw [q1, q23]; exact WK.add (f := W7 62 0) (many := 0) ⟨fun p _ _ => by omega, fun p q _ _ _ => by omega⟩ (by omega) (fun j _ _ => by omega) (by rw [v6_own a0 (by omega) (fun k k0 k1 => by have := q4 k k0 k1; rw [q23] at this; rw [this]; exact hk k k0 (by omega))]; exact hLo) (fun p _ _ => by omega)
        refine kw_iconst hC dX8_orbit_39 rfl ?_
        refine kw_istore_n (lv' := [(2, _), (0, _), (1, _)]) hC dX8_orbit_40 rfl (by decide) rfl ?_
        have hL41 : ∀ (n41 : Nat) (n : Int) (W41 : wSt), Fr fD S W41 → (0 ≤ n) → (n ≤ 720) → (n ≤ W41 30 0 23) → (WK L (W41 62 0) (W41 30 0 23)) → 720 - n < (n41 : Int) → Wk E g 7 W41 41 [(0, vr g 30 0), (1, vi a), (2, vi n)] [] := by
          intro n41
          induction n41 with
          | zero => intro n W41 hfW41 n0 n7 n1 hwk hm41; exact absurd hm41 (by omega)
          | succ n41 ih41 =>
            intro n W41 hfW41 n0 n7 n1 hwk hm41
            have hRW41 := hRS.fr (hfW41.mono (fun k i j h => by unfold fD at h; unfold tR; omega))
            have hnW41 := hRW41.n
            have enW41 : W41 30 0 0 = S 30 0 0 := hfW41 30 0 0 (by unfold fD; omega)
            have hlen := hwk.len
            refine kw_iload_n hC dX8_orbit_41 rfl 2 rfl ?_
            refine kw_aload_n hC dX8_orbit_42 rfl 0 rfl ?_
            refine kg_30_23 hC w8 f186 dX8_orbit_43 rfl (by decide) (by decide) ?_
            refine kw_icmp_ge (tgt := 164) hC dX8_orbit_46 rfl (by decide) (by omega) (by omega) ⟨fun c46 => ?_, fun c46 => ?_⟩
            · refine kw_aload_n hC dX8_orbit_164 rfl 0 rfl ?_
              refine kg_30_23 hC w8 f186 dX8_orbit_165 rfl (by decide) (by decide) ?_
              exact hR9.1 rfl _ _ _ _ dX8_orbit_168 ⟨_, rfl, hfW41, by omega, by omega⟩
            · refine kw_iconst hC dX8_orbit_49 rfl ?_
              refine kw_istore_n (lv' := [(3, _), (0, _), (1, _), (2, _)]) hC dX8_orbit_50 rfl (by decide) rfl ?_
              have hL51 : ∀ (n51 : Nat) (i : Int) (W51 : wSt), Fr fD S W51 → (0 ≤ i) → (i ≤ a + 1) → (n < W51 30 0 23) → (WK L (W51 62 0) (W51 30 0 23)) → a + 1 - i < (n51 : Int) → Wk E g 7 W51 51 [(0, vr g 30 0), (1, vi a), (2, vi n), (3, vi i)] [] := by
                intro n51
                induction n51 with
                | zero => intro i W51 hfW51 i0 i1 n1 hwk hm51; exact absurd hm51 (by omega)
                | succ n51 ih51 =>
                  intro i W51 hfW51 i0 i1 n1 hwk hm51
                  have hRW51 := hRS.fr (hfW51.mono (fun k i j h => by unfold fD at h; unfold tR; omega))
                  have hnW51 := hRW51.n
                  have enW51 : W51 30 0 0 = S 30 0 0 := hfW51 30 0 0 (by unfold fD; omega)
                  have hlen := hwk.len
                  refine kw_iload_n hC dX8_orbit_51 rfl 3 rfl ?_
                  refine kw_iload_n hC dX8_orbit_52 rfl 1 rfl ?_
                  refine kw_icmp_gt (tgt := 158) hC dX8_orbit_53 rfl (by decide) (by omega) (by omega) ⟨fun c53 => ?_, fun c53 => ?_⟩
                  · refine kw_iinc (lv' := [(2, _), (0, _), (1, _), (3, _)]) hC dX8_orbit_158 rfl 2 rfl (by decide) rfl ?_
                    refine kw_goto (tgt := 41) hC dX8_orbit_161 rfl (by decide) ?_
                    refine kw_lv [1, 2, 0] rfl ?_
                    exact ih41 (n + 1) W51 hfW51 (by omega) (by omega) (by omega) hwk (by omega)
                  · refine kw_aload_n hC dX8_orbit_56 rfl 0 rfl ?_
                    refine kg_30_22 hC w8 f189 dX8_orbit_57 rfl (by decide) (by decide) ?_
                    refine kw_bipush hC dX8_orbit_60 rfl (by decide) ?_
                    refine kw_iload_n hC dX8_orbit_62 rfl 2 rfl ?_
                    refine kw_imul hC dX8_orbit_63 rfl ?_
                    refine kw_iload_n hC dX8_orbit_64 rfl 3 rfl ?_
                    refine kw_iadd hC dX8_orbit_65 rfl ?_
                    obtain ⟨b, hb⟩ : ∃ z, z = W51 62 0 (6 * n + i) := ⟨_, rfl⟩
                    refine ka_62 hC dX8_orbit_66 rfl (by decide) (by decide) (by omega) (by omega) ?_
                    rw [← hb]
                    refine kw_istore (lv' := [(4, _), (0, _), (1, _), (2, _), (3, _)]) hC dX8_orbit_67 rfl (by decide) rfl ?_
                    refine kw_iconst hC dX8_orbit_69 rfl ?_
                    refine kw_istore (lv' := [(5, _), (4, _), (0, _), (1, _), (2, _), (3, _)]) hC dX8_orbit_70 rfl (by decide) rfl ?_
                    have hL72 : ∀ (n72 : Nat) (k : Int) (W72 : wSt), Fr fD S W72 → (0 ≤ k) → (k ≤ 6) → (n < W72 30 0 23) → (WK L (W72 62 0) (W72 30 0 23)) → (b = W72 62 0 (6 * n + i)) → (∀ j, 0 ≤ j → j < k → W72 64 0 j = W72 62 0 (6 * n + j) + (if a < j then 0 else if j = i then -2 * b else b * S 42 0 (6 * j + i))) → 6 - k < (n72 : Int) → Wk E g 7 W72 72 [(0, vr g 30 0), (1, vi a), (2, vi n), (3, vi i), (4, vi b), (5, vi k)] [] := by
                      intro n72
                      induction n72 with
                      | zero => intro k W72 hfW72 k0 k1 n1 hwk hb hk hm72; exact absurd hm72 (by omega)
                      | succ n72 ih72 =>
                        intro k W72 hfW72 k0 k1 n1 hwk hb hk hm72
                        have hRW72 := hRS.fr (hfW72.mono (fun k i j h => by unfold fD at h; unfold tR; omega))
                        have hnW72 := hRW72.n
                        have enW72 : W72 30 0 0 = S 30 0 0 := hfW72 30 0 0 (by unfold fD; omega)
                        have hlen := hwk.len
                        refine kw_iload hC dX8_orbit_72 rfl 5 rfl ?_
                        refine kw_bipush hC dX8_orbit_74 rfl (by decide) ?_
                        refine kw_icmp_ge (tgt := 148) hC dX8_orbit_76 rfl (by decide) (by omega) (by omega) ⟨fun c76 => ?_, fun c76 => ?_⟩
                        · refine kw_aload_n hC dX8_orbit_148 rfl 0 rfl ?_
                          refine kw_callV hC (d_X8_addWeight hD (by omega) (by omega) (fun j j0 j1 => by have := hwk.rg hLr j j0 j1; omega) (fun q q0 q1 => by have h8 := hk q q0 (by omega); have h9 := hwk.rg hLr (6 * n + q) (by omega) (by omega); have h10 := hwk.rg hLr (6 * n + i) (by omega) (by omega); rw [← hb] at h10; have h11 := hRS.mt q i q0 q1 (by omega) (by omega); have h12 := mul_rg8 h10 h11; split at h8; omega; split at h8 <;> omega)) gX8_orbit_X8_addWeight ⟨_, rfl⟩ rfl (by decide) (by decide) rfl ⟨rfl, rfl⟩ 0 (by decide +kernel) ⟨by decide, by decide⟩ rfl rfl (Nat.le_of_ble_eq_true rfl) dX8_orbit_149 rfl (kd_v (fun S7 hp7 => ?_))
                          obtain ⟨hg7, hp7⟩ := hp7
                          have hfS7 : Fr fD S S7 := hfW72.trans (hg7.mono (fun k i j h => by unfold fB at h; unfold fD; omega))
                          have hRS7 := hRS.fr (hfS7.mono (fun k i j h => by unfold fD at h; unfold tR; omega))
                          have hnS7 := hRS7.n
                          have enS7 : S7 30 0 0 = S 30 0 0 := hfS7 30 0 0 (by unfold fD; omega)
                          obtain ⟨hwk, hgr⟩ : WK L (S7 62 0) (S7 30 0 23) ∧ W72 30 0 23 ≤ S7 30 0 23 := by rcases hp7 with ⟨q1, -⟩ | ⟨q1, q2, q3, q4⟩; exact (by rw [q1]; exact ⟨hwk, Int.le_refl _⟩); refine ⟨?_, by omega⟩; rw [q1]; exact hwk.add (by omega) q3 (orb_new hLc hLz (hwk.1 n n0 n1) a0 (by omega) i0 (by omega) hb (fun q q0 q2 => by rw [q4 q q0 q2]; exact hk q q0 (by omega))) (fun p p0 p1 => by obtain ⟨k, k0, k1, hk9⟩ := q2 p p0 p1; exact ⟨k, k0, k1, by rw [q4 k k0 k1]; exact hk9⟩)
                          have hlen2 := hwk.len
                          refine kw_iinc (lv' := [(3, _), (0, _), (1, _), (2, _), (4, _), (5, _)]) hC dX8_orbit_152 rfl 3 rfl (by decide) rfl ?_
                          refine kw_goto (tgt := 51) hC dX8_orbit_155 rfl (by decide) ?_
                          refine kw_lv [1, 2, 3, 0] rfl ?_
                          exact ih51 (i + 1) S7 hfS7 (by omega) (by omega) (by omega) hwk (by omega)
                        · refine kw_iload hC dX8_orbit_79 rfl 5 rfl ?_
                          refine kw_iload_n hC dX8_orbit_81 rfl 1 rfl ?_
                          refine kw_icmp_le (tgt := 89) hC dX8_orbit_82 rfl (by decide) (by omega) (by omega) ⟨fun c82 => ?_, fun c82 => ?_⟩
                          · refine kw_iload hC dX8_orbit_89 rfl 5 rfl ?_
                            refine kw_iload_n hC dX8_orbit_91 rfl 3 rfl ?_
                            refine kw_icmp_ne (tgt := 103) hC dX8_orbit_92 rfl (by decide) (by omega) (by omega) ⟨fun c92 => ?_, fun c92 => ?_⟩
                            · refine kw_iload hC dX8_orbit_103 rfl 4 rfl ?_
                              refine kw_aload_n hC dX8_orbit_105 rfl 0 rfl ?_
                              refine kg_30_2 hC w8 f17 dX8_orbit_106 rfl (by decide) (by decide) ?_
                              refine kw_bipush hC dX8_orbit_109 rfl (by decide) ?_
                              refine kw_iload hC dX8_orbit_111 rfl 5 rfl ?_
                              refine kw_imul hC dX8_orbit_113 rfl ?_
                              refine kw_iload_n hC dX8_orbit_114 rfl 3 rfl ?_
                              refine kw_iadd hC dX8_orbit_115 rfl ?_
                              refine ka_42 hC dX8_orbit_116 rfl (by decide) (by decide) (by omega) (by omega) ?_
                              refine kw_chi (z' := S 42 0 (6 * k + i)) (hfW72 42 0 _ (by unfold fD; omega)) ?_
                              refine kw_imul hC dX8_orbit_117 rfl ?_
                              refine kw_chi (z' := (if a < k then 0 else if k = i then -2 * b else b * S 42 0 (6 * k + i))) (by first | rw [if_pos (by omega)] | rw [if_neg (by omega), if_pos (by omega)] | rw [if_neg (by omega), if_neg (by omega)]) ?_
                              refine kw_istore (lv' := [(6, _), (0, _), (1, _), (2, _), (3, _), (4, _), (5, _)]) hC dX8_orbit_118 rfl (by decide) rfl ?_
                              refine kw_aload_n hC dX8_orbit_120 rfl 1 rfl ?_
                              refine kg_30_24 hC w8 f192 dX8_orbit_121 rfl (by decide) (by decide) ?_
                              refine kw_iload hC dX8_orbit_124 rfl 6 rfl ?_
                              refine kw_aload_n hC dX8_orbit_126 rfl 1 rfl ?_
                              refine kg_30_22 hC w8 f189 dX8_orbit_127 rfl (by decide) (by decide) ?_
                              refine kw_bipush hC dX8_orbit_130 rfl (by decide) ?_
                              refine kw_iload_n hC dX8_orbit_132 rfl 3 rfl ?_
                              refine kw_imul hC dX8_orbit_133 rfl ?_
                              refine kw_iload hC dX8_orbit_134 rfl 6 rfl ?_
                              refine kw_iadd hC dX8_orbit_136 rfl ?_
                              refine ka_62 hC dX8_orbit_137 rfl (by decide) (by decide) (by omega) (by omega) ?_
                              refine kw_iload hC dX8_orbit_138 rfl 0 rfl ?_
                              refine kw_iadd hC dX8_orbit_140 rfl ?_
                              refine ks_64 hC dX8_orbit_141 rfl (by decide) (by decide) (by omega) (by omega) ?_
                              refine kw_hv hfW72 (by unfold fD; omega) (fun S10 hfS10 hv10 ho10 => ?_)
                              have hRS10 := hRS.fr (hfS10.mono (fun k i j h => by unfold fD at h; unfold tR; omega))
                              have hnS10 := hRS10.n
                              have enS10 : S10 30 0 0 = S 30 0 0 := hfS10 30 0 0 (by unfold fD; omega)
                              have hwk9 : WK L (S10 62 0) (S10 30 0 23) := by rw [ho10 30 0 23 (by omega)]; exact hwk.keep (fun j _ _ => ho10 62 0 j (by omega))
                              have e23_10 : S10 30 0 23 = W72 30 0 23 := ho10 30 0 23 (by omega)
                              refine kw_iinc (lv' := [(5, _), (6, _), (0, _), (1, _), (2, _), (3, _), (4, _)]) hC dX8_orbit_142 rfl 6 rfl (by decide) rfl ?_
                              refine kw_goto (tgt := 72) hC dX8_orbit_145 rfl (by decide) ?_
                              refine kw_lv [2, 3, 4, 5, 6, 0] rfl ?_
                              exact ih72 (k + 1) S10 hfS10 (by omega) (by omega) (by omega) hwk9 (hb.trans (ho10 62 0 _ (by omega)).symm) (fun j j0 j1 => by rw [ho10 62 0 _ (by omega)]; rcases Decidable.em (j = k) with e | e; exact (by rw [e]; exact hv10); exact (ho10 64 0 j (by omega)).trans (hk j j0 (by omega))) (by omega)
                            · refine kw_bipush hC dX8_orbit_95 rfl (by decide) ?_
                              refine kw_iload hC dX8_orbit_97 rfl 4 rfl ?_
                              refine kw_imul hC dX8_orbit_99 rfl ?_
                              refine kw_goto (tgt := 118) hC dX8_orbit_100 rfl (by decide) ?_
                              refine kw_chi (z' := (if a < k then 0 else if k = i then -2 * b else b * S 42 0 (6 * k + i))) (by first | rw [if_pos (by omega)] | rw [if_neg (by omega), if_pos (by omega)] | rw [if_neg (by omega), if_neg (by omega)]) ?_
                              refine kw_istore (lv' := [(6, _), (0, _), (1, _), (2, _), (3, _), (4, _), (5, _)]) hC dX8_orbit_118 rfl (by decide) rfl ?_
                              refine kw_aload_n hC dX8_orbit_120 rfl 1 rfl ?_
                              refine kg_30_24 hC w8 f192 dX8_orbit_121 rfl (by decide) (by decide) ?_
                              refine kw_iload hC dX8_orbit_124 rfl 6 rfl ?_
                              refine kw_aload_n hC dX8_orbit_126 rfl 1 rfl ?_
                              refine kg_30_22 hC w8 f189 dX8_orbit_127 rfl (by decide) (by decide) ?_
                              refine kw_bipush hC dX8_orbit_130 rfl (by decide) ?_
                              refine kw_iload_n hC dX8_orbit_132 rfl 3 rfl ?_
                              refine kw_imul hC dX8_orbit_133 rfl ?_
                              refine kw_iload hC dX8_orbit_134 rfl 6 rfl ?_
                              refine kw_iadd hC dX8_orbit_136 rfl ?_
                              refine ka_62 hC dX8_orbit_137 rfl (by decide) (by decide) (by omega) (by omega) ?_
                              refine kw_iload hC dX8_orbit_138 rfl 0 rfl ?_
                              refine kw_iadd hC dX8_orbit_140 rfl ?_
                              refine ks_64 hC dX8_orbit_141 rfl (by decide) (by decide) (by omega) (by omega) ?_
                              refine kw_hv hfW72 (by unfold fD; omega) (fun S11 hfS11 hv11 ho11 => ?_)
                              have hRS11 := hRS.fr (hfS11.mono (fun k i j h => by unfold fD at h; unfold tR; omega))
                              have hnS11 := hRS11.n
                              have enS11 : S11 30 0 0 = S 30 0 0 := hfS11 30 0 0 (by unfold fD; omega)
                              have hwk9 : WK L (S11 62 0) (S11 30 0 23) := by rw [ho11 30 0 23 (by omega)]; exact hwk.keep (fun j _ _ => ho11 62 0 j (by omega))
                              have e23_11 : S11 30 0 23 = W72 30 0 23 := ho11 30 0 23 (by omega)
                              refine kw_iinc (lv' := [(5, _), (6, _), (0, _), (1, _), (2, _), (3, _), (4, _)]) hC dX8_orbit_142 rfl 6 rfl (by decide) rfl ?_
                              refine kw_goto (tgt := 72) hC dX8_orbit_145 rfl (by decide) ?_
                              refine kw_lv [2, 3, 4, 5, 6, 0] rfl ?_
                              exact ih72 (k + 1) S11 hfS11 (by omega) (by omega) (by omega) hwk9 (hb.trans (ho11 62 0 _ (by omega)).symm) (fun j j0 j1 => by rw [ho11 62 0 _ (by omega)]; rcases Decidable.em (j = k) with e | e; exact (by rw [e]; exact hv11); exact (ho11 64 0 j (by omega)).trans (hk j j0 (by omega))) (by omega)
                          · refine kw_iconst hC dX8_orbit_85 rfl ?_
                            refine kw_goto (tgt := 118) hC dX8_orbit_86 rfl (by decide) ?_
                            refine kw_chi (z' := (if a < k then 0 else if k = i then -2 * b else b * S 42 0 (6 * k + i))) (by first | rw [if_pos (by omega)] | rw [if_neg (by omega), if_pos (by omega)] | rw [if_neg (by omega), if_neg (by omega)]) ?_
                            refine kw_istore (lv' := [(6, _), (0, _), (1, _), (2, _), (3, _), (4, _), (5, _)]) hC dX8_orbit_118 rfl (by decide) rfl ?_
                            refine kw_aload_n hC dX8_orbit_120 rfl 1 rfl ?_
                            refine kg_30_24 hC w8 f192 dX8_orbit_121 rfl (by decide) (by decide) ?_
                            refine kw_iload hC dX8_orbit_124 rfl 6 rfl ?_
                            refine kw_aload_n hC dX8_orbit_126 rfl 1 rfl ?_
                            refine kg_30_22 hC w8 f189 dX8_orbit_127 rfl (by decide) (by decide) ?_
                            refine kw_bipush hC dX8_orbit_130 rfl (by decide) ?_
                            refine kw_iload_n hC dX8_orbit_132 rfl 3 rfl ?_
                            refine kw_imul hC dX8_orbit_133 rfl ?_
                            refine kw_iload hC dX8_orbit_134 rfl 6 rfl ?_
                            refine kw_iadd hC dX8_orbit_136 rfl ?_
                            refine ka_62 hC dX8_orbit_137 rfl (by decide) (by decide) (by omega) (by omega) ?_
                            refine kw_iload hC dX8_orbit_138 rfl 0 rfl ?_
                            refine kw_iadd hC dX8_orbit_140 rfl ?_
                            refine ks_64 hC dX8_orbit_141 rfl (by decide) (by decide) (by omega) (by omega) ?_
                            refine kw_hv hfW72 (by unfold fD; omega) (fun S12 hfS12 hv12 ho12 => ?_)
                            have hRS12 := hRS.fr (hfS12.mono (fun k i j h => by unfold fD at h; unfold tR; omega))
                            have hnS12 := hRS12.n
                            have enS12 : S12 30 0 0 = S 30 0 0 := hfS12 30 0 0 (by unfold fD; omega)
                            have hwk9 : WK L (S12 62 0) (S12 30 0 23) := by rw [ho12 30 0 23 (by omega)]; exact hwk.keep (fun j _ _ => ho12 62 0 j (by omega))
                            have e23_12 : S12 30 0 23 = W72 30 0 23 := ho12 30 0 23 (by omega)
                            refine kw_iinc (lv' := [(5, _), (6, _), (0, _), (1, _), (2, _), (3, _), (4, _)]) hC dX8_orbit_142 rfl 6 rfl (by decide) rfl ?_
                            refine kw_goto (tgt := 72) hC dX8_orbit_145 rfl (by decide) ?_
                            refine kw_lv [2, 3, 4, 5, 6, 0] rfl ?_
                            exact ih72 (k + 1) S12 hfS12 (by omega) (by omega) (by omega) hwk9 (hb.trans (ho12 62 0 _ (by omega)).symm) (fun j j0 j1 => by rw [ho12 62 0 _ (by omega)]; rcases Decidable.em (j = k) with e | e; exact (by rw [e]; exact hv12); exact (ho12 64 0 j (by omega)).trans (hk j j0 (by omega))) (by omega)
                    refine kw_lv [2, 3, 4, 5, 1, 0] rfl ?_
                    exact hL72 7 0 W51 hfW51 (by omega) (by omega) (by omega) hwk (by omega) (fun j _ _ => by omega) (by omega)
              refine kw_lv [1, 2, 3, 0] rfl ?_
              exact hL51 8 0 W41 hfW41 (by omega) (by omega) (by omega) hwk (by omega)
        refine kw_lv [1, 2, 0] rfl ?_
        exact hL41 721 0 S3 hfS3 (by omega) (by omega) (by omega) hwk (by omega)
      · refine kw_aload_n hC dX8_orbit_13 rfl 0 rfl ?_
        refine kg_30_24 hC w8 f192 dX8_orbit_14 rfl (by decide) (by decide) ?_
        refine kw_iload_n hC dX8_orbit_17 rfl 2 rfl ?_
        refine kw_iload_n hC dX8_orbit_18 rfl 2 rfl ?_
        refine kw_iload_n hC dX8_orbit_19 rfl 1 rfl ?_
        refine kw_icmp_ne (tgt := 27) hC dX8_orbit_20 rfl (by decide) (by omega) (by omega) ⟨fun c20 => ?_, fun c20 => ?_⟩
        · refine kw_iconst hC dX8_orbit_27 rfl ?_
          refine ks_64 hC dX8_orbit_28 rfl (by decide) (by decide) (by omega) (by omega) ?_
          refine kw_hv hfW7 (by unfold fD; omega) (fun S14 hfS14 hv14 ho14 => ?_)
          have hRS14 := hRS.fr (hfS14.mono (fun k i j h => by unfold fD at h; unfold tR; omega))
          have hnS14 := hRS14.n
          have enS14 : S14 30 0 0 = S 30 0 0 := hfS14 30 0 0 (by unfold fD; omega)
          refine kw_iinc (lv' := [(2, _), (0, _), (1, _)]) hC dX8_orbit_29 rfl 2 rfl (by decide) rfl ?_
          refine kw_goto (tgt := 7) hC dX8_orbit_32 rfl (by decide) ?_
          refine kw_lv [1, 2, 0] rfl ?_
          exact ih7 (x + 1) S14 hfS14 (by omega) (by omega) ((ho14 30 0 23 (by omega)).trans q23) (ext_p (fun k z => z = if k = a then 1 else 0) hk (fun k hj => ho14 64 0 k (by omega)) (by rw [hv14]; split <;> omega)) (by omega)
        · refine kw_iconst hC dX8_orbit_23 rfl ?_
          refine kw_goto (tgt := 28) hC dX8_orbit_24 rfl (by decide) ?_
          refine ks_64 hC dX8_orbit_28 rfl (by decide) (by decide) (by omega) (by omega) ?_
          refine kw_hv hfW7 (by unfold fD; omega) (fun S15 hfS15 hv15 ho15 => ?_)
          have hRS15 := hRS.fr (hfS15.mono (fun k i j h => by unfold fD at h; unfold tR; omega))
          have hnS15 := hRS15.n
          have enS15 : S15 30 0 0 = S 30 0 0 := hfS15 30 0 0 (by unfold fD; omega)
          refine kw_iinc (lv' := [(2, _), (0, _), (1, _)]) hC dX8_orbit_29 rfl 2 rfl (by decide) rfl ?_
          refine kw_goto (tgt := 7) hC dX8_orbit_32 rfl (by decide) ?_
          refine kw_lv [1, 2, 0] rfl ?_
          exact ih7 (x + 1) S15 hfS15 (by omega) (by omega) ((ho15 30 0 23 (by omega)).trans q23) (ext_p (fun k z => z = if k = a then 1 else 0) hk (fun k hj => ho15 64 0 k (by omega)) (by rw [hv15]; split <;> omega)) (by omega)
  refine kw_lv [1, 2, 0] rfl ?_
  exact hL7 7 0 S1 hfS1 (by omega) (by omega) hv1 (fun k _ _ => by omega) (by omega)

theorem NoB_eq {S W : wSt} (h : NoB (mxz (S 42 0)) (S 30 0 0).toNat) (e42 : ∀ j, W 42 0 j = S 42 0 j) (e0 : W 30 0 0 = S 30 0 0) : NoB (mxz (W 42 0)) (W 30 0 0).toNat := by
  rw [e0, show W 42 0 = S 42 0 from funext e42]
  exact h

set_option maxHeartbeats 4000000 in
set_option maxRecDepth 100000 in
theorem d_X8_count {g : wG} (hD : wD g) {S : wSt} (hRS : RI S) (l : Launch) : Kt l yX8_count wsX8_count ({ frames := 4, cells := 0, slots := 0, locals := 93 } : Room) g S [vr g 30 0] (pL (fun _ S' => RI S' ∧ Fr tW S S')) := by
  refine Kt.of (cc := cX8_count) (nL := 4) (ret := (some .long)) (own := RX8) rfl hD (by decide) rfl (Nat.le_of_ble_eq_true rfl) ⟨rfl, rfl⟩ ?_
  intro E hC hR9
  have f11 : Cond.fieldLink RX8 11 "MirrorBenchModel" "mirrors" "I" ∈ wsX8_count := by decide +kernel
  have l201 : Cond.constantLong RX8 201 (Int64.ofInt (-2)) ∈ wsX8_count := by decide +kernel
  have w8 : ∀ w ∈ wsX80, w ∈ wsX8_count := by decide +kernel
  show Wk E g 4 S 0 [(0, vr g 30 0)] []
  have hfS : Fr tR S S := Fr.rfl _ S
  have hRS := hRS.fr hfS
  have hnS := hRS.n
  have enS : S 30 0 0 = S 30 0 0 := hfS 30 0 0 (by unfold tR; omega)
  refine kw_aload_n hC dX8_count_0 rfl 0 rfl ?_
  refine kw_callV hC (d_X8_ends hD hRS) gX8_count_X8_ends ⟨_, rfl⟩ rfl (by decide) (by decide) rfl ⟨rfl, rfl⟩ 0 (by decide +kernel) ⟨by decide, by decide⟩ rfl rfl (Nat.le_of_ble_eq_true rfl) dX8_count_1 rfl (kd_i (fun r1 S1 hp1 => ?_))
  obtain ⟨hg1, hp1⟩ := hp1
  have hfS1 : Fr tR S S1 := hfS.trans (hg1.mono (fun k i j h => by unfold fR at h; unfold tR; omega))
  have hRS1 := hRS.fr hfS1
  have hnS1 := hRS1.n
  have enS1 : S1 30 0 0 = S 30 0 0 := hfS1 30 0 0 (by unfold tR; omega)
  obtain ⟨hb1, hle1, hNB⟩ := hp1
  refine kw_if_ge (tgt := 11) hC dX8_count_4 rfl (by decide) (by omega) ⟨fun c4 => ?_, fun c4 => ?_⟩
  · refine kw_lconst (z := 1) hC dX8_count_11 rfl rfl ?_
    refine kw_lstore_n (lv' := [(1, _), (0, _)]) hC dX8_count_12 rfl (by decide) rfl ?_
    refine kw_iconst hC dX8_count_13 rfl ?_
    refine kw_istore_n (lv' := [(3, _), (1, _), (0, _)]) hC dX8_count_14 rfl (by decide) rfl ?_
    have hL15 : ∀ (n15 : Nat) (i : Int) (z : Int) (W15 : wSt), Fr tR S W15 → (0 ≤ i) → (i ≤ S 30 0 0) → S 30 0 0 - i < (n15 : Int) → Wk E g 4 W15 15 [(0, vr g 30 0), (1, vl z), (3, vi i)] [] := by
      intro n15
      induction n15 with
      | zero => intro i z W15 hfW15 i0 i1 hm15; exact absurd hm15 (by omega)
      | succ n15 ih15 =>
        intro i z W15 hfW15 i0 i1 hm15
        have hRW15 := hRS.fr hfW15
        have hnW15 := hRW15.n
        have enW15 : W15 30 0 0 = S 30 0 0 := hfW15 30 0 0 (by unfold tR; omega)
        refine kw_iload_n hC dX8_count_15 rfl 2 rfl ?_
        refine kw_aload_n hC dX8_count_16 rfl 0 rfl ?_
        refine kg_30_0 hC w8 f11 dX8_count_17 rfl (by decide) (by decide) ?_
        refine kw_icmp_ge (tgt := 38) hC dX8_count_20 rfl (by decide) (by omega) (by omega) ⟨fun c20 => ?_, fun c20 => ?_⟩
        · refine kw_lload_n hC dX8_count_38 rfl 1 rfl ?_
          exact hR9.2.2.1 rfl _ _ _ _ dX8_count_39 (by first | exact ⟨_, rfl, hp9.2.1, (tR_tW hfW15).trans (fV_tW hp9.2.2.1)⟩ | exact ⟨_, rfl, hRW15, tR_tW hfW15⟩)
        · refine kw_lload_n hC dX8_count_23 rfl 1 rfl ?_
          refine kw_aload_n hC dX8_count_24 rfl 0 rfl ?_
          refine kw_iload_n hC dX8_count_25 rfl 2 rfl ?_
          refine kw_callV hC (d_X8_orbit hD (by omega) (by omega) hRW15 (NoB_eq (hNB (by omega)) (fun j => hfW15 42 0 j (by unfold tR; omega)) (hfW15 30 0 0 (by unfold tR; omega)))) gX8_count_X8_orbit ⟨_, rfl⟩ rfl (by decide) (by decide) rfl ⟨rfl, rfl⟩ 1 (by decide +kernel) ⟨by decide, by decide⟩ rfl rfl (Nat.le_of_ble_eq_true rfl) dX8_count_26 rfl (kd_i (fun r4 S4 hp4 => ?_))
          obtain ⟨hg4, hp4⟩ := hp4
          have hfS4 : Fr tR S S4 := hfW15.trans (hg4.mono (fun k i j h => by unfold fD at h; unfold tR; omega))
          have hRS4 := hRS.fr hfS4
          have hnS4 := hRS4.n
          have enS4 : S4 30 0 0 = S 30 0 0 := hfS4 30 0 0 (by unfold tR; omega)
          have hr4 := hp4
          refine kw_i2l hC dX8_count_29 rfl (by omega) ?_
          refine kw_lmul hC dX8_count_30 rfl ?_
          refine kw_lstore_n (lv' := [(1, _), (0, _), (3, _)]) hC dX8_count_31 rfl (by decide) rfl ?_
          refine kw_iinc (lv' := [(3, _), (1, _), (0, _)]) hC dX8_count_32 rfl 2 rfl (by decide) rfl ?_
          refine kw_goto (tgt := 15) hC dX8_count_35 rfl (by decide) ?_
          refine kw_lv [2, 1, 0] rfl ?_
          exact ih15 (i + 1) _ S4 hfS4 (by omega) (by omega) (by omega)
    refine kw_lv [2, 1, 0] rfl ?_
    exact hL15 7 0 _ S1 hfS1 (by omega) (by omega) (by omega)
  · refine kw_ldc2 (z := -2) hC dX8_count_7 rfl l201 ?_
    exact hR9.2.2.1 rfl _ _ _ _ dX8_count_10 (by first | exact ⟨_, rfl, hp9.2.1, (tR_tW hfS1).trans (fV_tW hp9.2.2.1)⟩ | exact ⟨_, rfl, hRS1, tR_tW hfS1⟩)

set_option maxHeartbeats 4000000 in
set_option maxRecDepth 100000 in
theorem d_X8_longest {g : wG} (hD : wD g) {S : wSt} {a : Int} (ha : -2147483648 ≤ a ∧ a ≤ 2147483647) (hRS : RI S) (l : Launch) : Kt l yX8_longest wsX8_longest ({ frames := 4, cells := 0, slots := 0, locals := 93 } : Room) g S [vr g 30 0, vi a] (pI (fun _ S' => RI S' ∧ Fr tW S S')) := by
  refine Kt.of (cc := cX8_longest) (nL := 5) (ret := (some .int)) (own := RX8) rfl hD (by decide) rfl (Nat.le_of_ble_eq_true rfl) ⟨rfl, rfl⟩ ?_
  intro E hC hR9
  have f11 : Cond.fieldLink RX8 11 "MirrorBenchModel" "mirrors" "I" ∈ wsX8_longest := by decide +kernel
  have f57 : Cond.fieldLink RX8 57 "MirrorBenchModel" "wMany" "I" ∈ wsX8_longest := by decide +kernel
  have f60 : Cond.fieldLink RX8 60 "MirrorBenchModel" "w" "[I" ∈ wsX8_longest := by decide +kernel
  have f81 : Cond.fieldLink RX8 81 "MirrorBenchModel" "isGreat" "Z" ∈ wsX8_longest := by decide +kernel
  have f92 : Cond.fieldLink RX8 92 "MirrorBenchModel" "rMany" "I" ∈ wsX8_longest := by decide +kernel
  have f95 : Cond.fieldLink RX8 95 "MirrorBenchModel" "r" "[I" ∈ wsX8_longest := by decide +kernel
  have f110 : Cond.fieldLink RX8 110 "MirrorBenchModel" "fMany" "I" ∈ wsX8_longest := by decide +kernel
  have f116 : Cond.fieldLink RX8 116 "MirrorBenchModel" "f" "[I" ∈ wsX8_longest := by decide +kernel
  have w8 : ∀ w ∈ wsX80, w ∈ wsX8_longest := by decide +kernel
  show Wk E g 5 S 0 [(0, vr g 30 0), (1, vi a)] []
  have hfS : Fr tR S S := Fr.rfl _ S
  have hRS := hRS.fr hfS
  have hnS := hRS.n
  have enS : S 30 0 0 = S 30 0 0 := hfS 30 0 0 (by unfold tR; omega)
  refine kw_iload_n hC dX8_longest_0 rfl 1 rfl ?_
  refine kw_callS hC (d_X8_isSlot hD (by omega)) gX8_longest_X8_isSlot rfl ⟨rfl, rfl⟩ 1 (by decide +kernel) ⟨by decide, by decide⟩ rfl rfl (Nat.le_of_ble_eq_true rfl) dX8_longest_1 rfl (kd_ie ?_)
  refine kw_ifne_b (tgt := 9) hC dX8_longest_4 rfl (by decide) ⟨fun c4 => ?_, fun c4 => ?_⟩
  · refine kw_aload_n hC dX8_longest_9 rfl 0 rfl ?_
    refine kw_callV hC (d_X8_ends hD hRS) gX8_longest_X8_ends ⟨_, rfl⟩ rfl (by decide) (by decide) rfl ⟨rfl, rfl⟩ 0 (by decide +kernel) ⟨by decide, by decide⟩ rfl rfl (Nat.le_of_ble_eq_true rfl) dX8_longest_10 rfl (kd_i (fun r2 S2 hp2 => ?_))
    obtain ⟨hg2, hp2⟩ := hp2
    have hfS2 : Fr tR S S2 := hfS.trans (hg2.mono (fun k i j h => by unfold fR at h; unfold tR; omega))
    have hRS2 := hRS.fr hfS2
    have hnS2 := hRS2.n
    have enS2 : S2 30 0 0 = S 30 0 0 := hfS2 30 0 0 (by unfold tR; omega)
    obtain ⟨hb2, hle2, hNB⟩ := hp2
    refine kw_if_ge (tgt := 19) hC dX8_longest_13 rfl (by decide) (by omega) ⟨fun c13 => ?_, fun c13 => ?_⟩
    · obtain ⟨L, hL⟩ := roots_of hRS.set.mok (by omega) (hNB (by omega))
      refine kw_aload_n hC dX8_longest_19 rfl 0 rfl ?_
      refine kw_iconst hC dX8_longest_20 rfl ?_
      refine kp_30_8 hC w8 f92 dX8_longest_21 rfl (by decide) (by decide) ?_
      refine kw_hv hfS2 (by unfold tR; omega) (fun S4 hfS4 hv4 ho4 => ?_)
      have hRS4 := hRS.fr hfS4
      have hnS4 := hRS4.n
      have enS4 : S4 30 0 0 = S 30 0 0 := hfS4 30 0 0 (by unfold tR; omega)
      have x8 := hv4
      refine kw_aload_n hC dX8_longest_24 rfl 0 rfl ?_
      refine kw_iconst hC dX8_longest_25 rfl ?_
      refine kp_30_16 hC w8 f81 dX8_longest_26 rfl (by decide) (by decide) (by omega) ?_
      refine kw_hv hfS4 (by unfold tR; omega) (fun S5 hfS5 hv5 ho5 => ?_)
      have hRS5 := hRS.fr hfS5
      have hnS5 := hRS5.n
      have enS5 : S5 30 0 0 = S 30 0 0 := hfS5 30 0 0 (by unfold tR; omega)
      have y8 : S5 30 0 8 = 0 := (ho5 30 0 8 (by omega)).trans x8
      have x16 := hv5
      refine kw_iconst hC dX8_longest_29 rfl ?_
      refine kw_istore_n (lv' := [(2, _), (0, _), (1, _)]) hC dX8_longest_30 rfl (by decide) rfl ?_
      have hL31 : ∀ (n31 : Nat) (s : Int) (W31 : wSt), Fr tR S W31 → (0 ≤ s) → (s ≤ S 30 0 0) → (W31 30 0 16 = 0) → (WV (W31 47 0) (W31 30 0 8) (W31 30 0 0)) → (0 ≤ W31 30 0 8) → (W31 30 0 8 ≤ 36) → (RdL (mxz (S 42 0)) (S 30 0 0).toNat (wl (W31 47 0) (W31 30 0 8).toNat)) → (s ≤ 6) → 7 * (36 - W31 30 0 8) + 6 - s < (n31 : Int) → Wk E g 5 W31 31 [(0, vr g 30 0), (1, vi a), (2, vi s)] [] := by
        intro n31
        induction n31 with
        | zero => intro s W31 hfW31 s0 s1 hg0 hrv r0 r1 hrd s6 hm31; exact absurd hm31 (by omega)
        | succ n31 ih31 =>
          intro s W31 hfW31 s0 s1 hg0 hrv r0 r1 hrd s6 hm31
          have hRW31 := hRS.fr hfW31
          have hnW31 := hRW31.n
          have enW31 : W31 30 0 0 = S 30 0 0 := hfW31 30 0 0 (by unfold tR; omega)
          have enX := enW31
          refine kw_iload_n hC dX8_longest_31 rfl 2 rfl ?_
          refine kw_aload_n hC dX8_longest_32 rfl 0 rfl ?_
          refine kg_30_0 hC w8 f11 dX8_longest_33 rfl (by decide) (by decide) ?_
          refine kw_icmp_ge (tgt := 78) hC dX8_longest_36 rfl (by decide) (by omega) (by omega) ⟨fun c36 => ?_, fun c36 => ?_⟩
          · refine kw_aload_n hC dX8_longest_78 rfl 0 rfl ?_
            refine kw_callV hC (d_X8_formOfR hD hRW31 hrv (by omega) (by omega)) gX8_longest_X8_formOfR ⟨_, rfl⟩ rfl (by decide) (by decide) rfl ⟨rfl, rfl⟩ 0 (by decide +kernel) ⟨by decide, by decide⟩ rfl rfl (Nat.le_of_ble_eq_true rfl) dX8_longest_79 rfl (kd_i (fun r7 S7 hp7 => ?_))
            obtain ⟨hg7, hp7⟩ := hp7
            have hfS7 : Fr tR S S7 := hfW31.trans (hg7.mono (fun k i j h => by unfold fF at h; unfold tR; omega))
            have hRS7 := hRS.fr hfS7
            have hnS7 := hRS7.n
            have enS7 : S7 30 0 0 = S 30 0 0 := hfS7 30 0 0 (by unfold tR; omega)
            obtain ⟨hb7, ⟨f0, f1⟩, hfv, hgf⟩ := hp7
            replace hfv : WV (S7 49 0) (S7 30 0 10) (S7 30 0 0) := hfv.eq (fun _ _ _ => rfl) rfl (by omega)
            obtain ⟨rZ, hrZ⟩ : ∃ z, z = r7 := ⟨_, rfl⟩
            rw [← hrZ]
            refine kw_istore_n (lv' := [(3, _), (0, _), (1, _), (2, _)]) hC dX8_longest_82 rfl (by decide) rfl ?_
            refine kw_aload_n hC dX8_longest_83 rfl 1 rfl ?_
            refine kw_aload_n hC dX8_longest_84 rfl 1 rfl ?_
            refine kg_30_10 hC w8 f110 dX8_longest_85 rfl (by decide) (by decide) ?_
            refine kp_30_14 hC w8 f57 dX8_longest_88 rfl (by decide) (by decide) ?_
            refine kw_hv hfS7 (by unfold tR; omega) (fun S8 hfS8 hv8 ho8 => ?_)
            have hRS8 := hRS.fr hfS8
            have hnS8 := hRS8.n
            have enS8 : S8 30 0 0 = S 30 0 0 := hfS8 30 0 0 (by unfold tR; omega)
            have x14 := hv8
            have e10_8 : S8 30 0 10 = S7 30 0 10 := ho8 30 0 10 (by omega)
            replace hfv : WV (S8 49 0) (S8 30 0 10) (S8 30 0 0) := hfv.eq (fun j _ _ => ho8 49 0 j (by omega)) e10_8 (ho8 30 0 0 (by omega))
            refine kw_iconst hC dX8_longest_91 rfl ?_
            refine kw_istore (lv' := [(4, _), (3, _), (0, _), (1, _), (2, _)]) hC dX8_longest_92 rfl (by decide) rfl ?_
            have hL94 : ∀ (n94 : Nat) (x : Int) (W94 : wSt), Fr tR S W94 → (0 ≤ x) → (x ≤ W94 30 0 10) → (W94 30 0 14 = W94 30 0 10) → (0 ≤ W94 30 0 10) → (W94 30 0 10 ≤ 100) → (WV (W94 53 0) x (W94 30 0 0)) → (WV (W94 49 0) (W94 30 0 10) (W94 30 0 0)) → W94 30 0 10 - x < (n94 : Int) → Wk E g 5 W94 94 [(0, vr g 30 0), (1, vi a), (2, vi s), (3, vi rZ), (4, vi x)] [] := by
              intro n94
              induction n94 with
              | zero => intro x W94 hfW94 x0 x1 q14 f0 f1 hx hfv hm94; exact absurd hm94 (by omega)
              | succ n94 ih94 =>
                intro x W94 hfW94 x0 x1 q14 f0 f1 hx hfv hm94
                have hRW94 := hRS.fr hfW94
                have hnW94 := hRW94.n
                have enW94 : W94 30 0 0 = S 30 0 0 := hfW94 30 0 0 (by unfold tR; omega)
                refine kw_iload hC dX8_longest_94 rfl 4 rfl ?_
                refine kw_aload_n hC dX8_longest_96 rfl 0 rfl ?_
                refine kg_30_10 hC w8 f110 dX8_longest_97 rfl (by decide) (by decide) ?_
                refine kw_icmp_ge (tgt := 123) hC dX8_longest_100 rfl (by decide) (by omega) (by omega) ⟨fun c100 => ?_, fun c100 => ?_⟩
                · have hwv : WV (W94 53 0) (W94 30 0 14) (W94 30 0 0) := hx.eq (fun _ _ _ => rfl) (by omega) rfl
                  refine kw_aload_n hC dX8_longest_123 rfl 0 rfl ?_
                  refine kw_iload_n hC dX8_longest_124 rfl 1 rfl ?_
                  refine kw_callV hC (d_X8_store hD (by omega) (by omega) hRW94 hwv (by omega) (by omega)) gX8_longest_X8_store ⟨_, rfl⟩ rfl (by decide) (by decide) rfl ⟨rfl, rfl⟩ 1 (by decide +kernel) ⟨by decide, by decide⟩ rfl rfl (Nat.le_of_ble_eq_true rfl) dX8_longest_125 rfl (kd_i (fun r9 Sz hp9 => ?_))
                  exact hR9.1 rfl _ _ _ _ dX8_longest_128 (by first | exact ⟨_, rfl, hp9.2.1, (tR_tW hfW94).trans (fV_tW hp9.2.2.1)⟩ | exact ⟨_, rfl, hRW94, tR_tW hfW94⟩)
                · refine kw_aload_n hC dX8_longest_103 rfl 0 rfl ?_
                  refine kg_30_13 hC w8 f60 dX8_longest_104 rfl (by decide) (by decide) ?_
                  refine kw_iload hC dX8_longest_107 rfl 4 rfl ?_
                  refine kw_aload_n hC dX8_longest_109 rfl 0 rfl ?_
                  refine kg_30_9 hC w8 f116 dX8_longest_110 rfl (by decide) (by decide) ?_
                  refine kw_iload hC dX8_longest_113 rfl 4 rfl ?_
                  refine ka_49 hC dX8_longest_115 rfl (by decide) (by decide) (by omega) (by omega) ?_
                  have hvx := hfv x (by omega) (by omega)
                  refine ks_53 hC dX8_longest_116 rfl (by decide) (by decide) (by omega) (by omega) ?_
                  refine kw_hv hfW94 (by unfold tR; omega) (fun S10 hfS10 hv10 ho10 => ?_)
                  have hRS10 := hRS.fr hfS10
                  have hnS10 := hRS10.n
                  have enS10 : S10 30 0 0 = S 30 0 0 := hfS10 30 0 0 (by unfold tR; omega)
                  have e10_10 : S10 30 0 10 = W94 30 0 10 := ho10 30 0 10 (by omega)
                  replace hfv : WV (S10 49 0) (S10 30 0 10) (S10 30 0 0) := hfv.eq (fun j _ _ => ho10 49 0 j (by omega)) e10_10 (ho10 30 0 0 (by omega))
                  have e14_10 : S10 30 0 14 = W94 30 0 14 := ho10 30 0 14 (by omega)
                  have hx9 : WV (S10 53 0) (x + 1) (S10 30 0 0) := (hx.add (fun j hj => ho10 53 0 j (by omega)) (by rw [hv10]; exact hvx)).eq (fun _ _ _ => rfl) rfl (ho10 30 0 0 (by omega))
                  refine kw_iinc (lv' := [(4, _), (0, _), (1, _), (2, _), (3, _)]) hC dX8_longest_117 rfl 4 rfl (by decide) rfl ?_
                  refine kw_goto (tgt := 94) hC dX8_longest_120 rfl (by decide) ?_
                  refine kw_lv [1, 2, 3, 4, 0] rfl ?_
                  exact ih94 (x + 1) S10 hfS10 (by omega) (by omega) (by omega) (by omega) (by omega) hx9 hfv (by omega)
            refine kw_lv [2, 3, 4, 1, 0] rfl ?_
            exact hL94 101 0 S8 hfS8 (by omega) (by omega) (by omega) (by omega) (by omega) (fun j _ _ => by omega) hfv (by omega)
          · refine kw_aload_n hC dX8_longest_39 rfl 0 rfl ?_
            refine kw_iload_n hC dX8_longest_40 rfl 2 rfl ?_
            refine kw_callV hC (d_X8_behind hD (by omega) hRW31 hrv (by omega) (by omega) (by omega)) gX8_longest_X8_behind ⟨_, rfl⟩ rfl (by decide) (by decide) rfl ⟨rfl, rfl⟩ 1 (by decide +kernel) ⟨by decide, by decide⟩ rfl rfl (Nat.le_of_ble_eq_true rfl) dX8_longest_41 rfl (kd_i (fun r11 S11 hp11 => ?_))
            obtain ⟨hg11, hp11⟩ := hp11
            have hfS11 : Fr tR S S11 := hfW31.trans (hg11.mono (fun k i j h => by unfold fT at h; unfold tR; omega))
            have hRS11 := hRS.fr hfS11
            have hnS11 := hRS11.n
            have enS11 : S11 30 0 0 = S 30 0 0 := hfS11 30 0 0 (by unfold tR; omega)
            obtain ⟨⟨k011, k111⟩, hgw, hT11⟩ := hp11
            have e42 : ∀ j, W31 42 0 j = S 42 0 j := fun j => hfW31 42 0 j (by unfold tR; omega)
            have e47 : ∀ j, S11 47 0 j = W31 47 0 j := fun j => hg11 47 0 j (by unfold fT; omega)
            have hT2 := hT11 L (by rw [show W31 42 0 = S 42 0 from funext e42, enX]; exact hL) (by omega) (by omega) hg0
            rw [show W31 42 0 = S 42 0 from funext e42, enX] at hT2
            have e8_11 : S11 30 0 8 = W31 30 0 8 := hg11 30 0 8 (by unfold fT; omega)
            replace hrv : WV (S11 47 0) (S11 30 0 8) (S11 30 0 0) := hrv.eq (fun j _ _ => hg11 47 0 j (by unfold fT; omega)) e8_11 (hg11 30 0 0 (by unfold fT; omega))
            have e8_X := e8_11
            replace hrd : RdL (mxz (S 42 0)) (S 30 0 0).toNat (wl (S11 47 0) (S11 30 0 8).toNat) := by rw [show S11 47 0 = W31 47 0 from funext e47, e8_11]; exact hrd
            refine kw_if_ge (tgt := 72) hC dX8_longest_44 rfl (by decide) (by omega) ⟨fun c44 => ?_, fun c44 => ?_⟩
            · refine kw_iinc (lv' := [(2, _), (0, _), (1, _)]) hC dX8_longest_72 rfl 2 rfl (by decide) rfl ?_
              refine kw_goto (tgt := 31) hC dX8_longest_75 rfl (by decide) ?_
              refine kw_lv [1, 2, 0] rfl ?_
              exact ih31 _ S11 hfS11 (by omega) (by omega) (by omega) hrv (by omega) (by omega) hrd (by omega) (by omega)
            · refine kw_aload_n hC dX8_longest_47 rfl 0 rfl ?_
              refine kg_30_7 hC w8 f95 dX8_longest_48 rfl (by decide) (by decide) ?_
              refine kw_aload_n hC dX8_longest_51 rfl 0 rfl ?_
              refine kg_30_8 hC w8 f92 dX8_longest_52 rfl (by decide) (by decide) ?_
              refine kw_iload_n hC dX8_longest_55 rfl 2 rfl ?_
              refine ks_47 hC dX8_longest_56 rfl (by decide) (by decide) (by omega) (by omega) ?_
              refine kw_hv hfS11 (by unfold tR; omega) (fun S13 hfS13 hv13 ho13 => ?_)
              have hRS13 := hRS.fr hfS13
              have hnS13 := hRS13.n
              have enS13 : S13 30 0 0 = S 30 0 0 := hfS13 30 0 0 (by unfold tR; omega)
              have hvA := hv13
              have hoA := ho13
              have e8_Y : S13 30 0 8 = S11 30 0 8 := ho13 30 0 8 (by omega)
              have e8_13 : S13 30 0 8 = S11 30 0 8 := ho13 30 0 8 (by omega)
              have e1613 : S13 30 0 16 = S11 30 0 16 := ho13 30 0 16 (by omega)
              have hr7 : WV (S13 47 0) (S11 30 0 8 + 1) (S13 30 0 0) := (hrv.add (fun j hj => ho13 47 0 j (by omega)) (by rw [hv13]; omega)).eq (fun _ _ _ => rfl) rfl (ho13 30 0 0 (by omega))
              have hrd9 : RdL (mxz (S 42 0)) (S 30 0 0).toNat (wl (S13 47 0) (S11 30 0 8 + 1).toNat) := RdL_add (by omega) hrd (fun j hj => ho13 47 0 j (by omega)) hv13 (by have h9 := hT2.2 (by omega); rw [show S11 47 0 = W31 47 0 from funext e47, e8_X]; exact h9)
              have hl9 := RdL.len (fun i hi => hRS.set.mok.z i hi) hL (wl_mem (fun k hk => by have := hr7 k (by omega) (by omega); omega)) hrd9
              rw [wl_len] at hl9
              refine kw_aload_n hC dX8_longest_57 rfl 0 rfl ?_
              refine kw_dup hC dX8_longest_58 rfl rfl ?_
              refine kg_30_8 hC w8 f92 dX8_longest_59 rfl (by decide) (by decide) ?_
              refine kw_iconst hC dX8_longest_62 rfl ?_
              refine kw_iadd hC dX8_longest_63 rfl ?_
              refine kp_30_8 hC w8 f92 dX8_longest_64 rfl (by decide) (by decide) ?_
              refine kw_hv hfS13 (by unfold tR; omega) (fun S14 hfS14 hv14 ho14 => ?_)
              have hRS14 := hRS.fr hfS14
              have hnS14 := hRS14.n
              have enS14 : S14 30 0 0 = S 30 0 0 := hfS14 30 0 0 (by unfold tR; omega)
              have x8 := hv14
              have y16 : S14 30 0 16 = S13 30 0 16 := ho14 30 0 16 (by omega)
              have hrv : WV (S14 47 0) (S14 30 0 8) (S14 30 0 0) := hr7.eq (fun j _ _ => ho14 47 0 j (by omega)) (by omega) (ho14 30 0 0 (by omega))
              have hrd : RdL (mxz (S 42 0)) (S 30 0 0).toNat (wl (S14 47 0) (S14 30 0 8).toNat) := by rw [show S14 47 0 = S13 47 0 from funext (fun j => ho14 47 0 j (by omega)), x8, e8_Y]; exact hrd9
              refine kw_iconst hC dX8_longest_67 rfl ?_
              refine kw_istore_n (lv' := [(2, _), (0, _), (1, _)]) hC dX8_longest_68 rfl (by decide) rfl ?_
              refine kw_goto (tgt := 31) hC dX8_longest_69 rfl (by decide) ?_
              refine kw_lv [1, 2, 0] rfl ?_
              exact ih31 _ S14 hfS14 (by omega) (by omega) (by omega) hrv (by omega) (by omega) hrd (by omega) (by omega)
      refine kw_lv [1, 2, 0] rfl ?_
      exact hL31 300 0 S5 hfS5 (by omega) (by omega) (by omega) (fun j _ _ => by omega) (by omega) (by omega) (by rw [y8]; exact fun k hk => by simp [wl] at hk) (by omega) (by omega)
    · refine kw_bipush hC dX8_longest_16 rfl (by decide) ?_
      exact hR9.1 rfl _ _ _ _ dX8_longest_18 (by first | exact ⟨_, rfl, hp9.2.1, (tR_tW hfS2).trans (fV_tW hp9.2.2.1)⟩ | exact ⟨_, rfl, hRS2, tR_tW hfS2⟩)
  · refine kw_iconst hC dX8_longest_7 rfl ?_
    exact hR9.1 rfl _ _ _ _ dX8_longest_8 (by first | exact ⟨_, rfl, hp9.2.1, (tR_tW hfS).trans (fV_tW hp9.2.2.1)⟩ | exact ⟨_, rfl, hRS, tR_tW hfS⟩)

def fI (k : Nat) (i j : Int) : Prop := k = 55 ∨ k = 47 ∨ k = 49 ∨ (k = 30 ∧ (j = 16 ∨ j = 8 ∨ j = 10))

set_option maxHeartbeats 4000000 in
set_option maxRecDepth 100000 in
theorem d_X8_isForm {g : wG} (hD : wD g) {S : wSt} (hRS : RI S) (hw : WV (S 53 0) (S 30 0 14) (S 30 0 0)) (m0 : 0 ≤ S 30 0 14) (m1 : S 30 0 14 ≤ 200) (l : Launch) : Kt l yX8_isForm wsX8_isForm ({ frames := 4, cells := 0, slots := 0, locals := 93 } : Room) g S [vr g 30 0] (pI (fun r S' => Fr fI S S' ∧ (r = 0 ∨ r = 1))) := by
  refine Kt.of (cc := cX8_isForm) (nL := 3) (ret := (some .boolean)) (own := RX8) rfl hD (by decide) rfl (Nat.le_of_ble_eq_true rfl) ⟨rfl, rfl⟩ ?_
  intro E hC hR9
  have f57 : Cond.fieldLink RX8 57 "MirrorBenchModel" "wMany" "I" ∈ wsX8_isForm := by decide +kernel
  have f60 : Cond.fieldLink RX8 60 "MirrorBenchModel" "w" "[I" ∈ wsX8_isForm := by decide +kernel
  have f92 : Cond.fieldLink RX8 92 "MirrorBenchModel" "rMany" "I" ∈ wsX8_isForm := by decide +kernel
  have f110 : Cond.fieldLink RX8 110 "MirrorBenchModel" "fMany" "I" ∈ wsX8_isForm := by decide +kernel
  have f116 : Cond.fieldLink RX8 116 "MirrorBenchModel" "f" "[I" ∈ wsX8_isForm := by decide +kernel
  have w8 : ∀ w ∈ wsX80, w ∈ wsX8_isForm := by decide +kernel
  show Wk E g 3 S 0 [(0, vr g 30 0)] []
  have hfS : Fr fI S S := Fr.rfl _ S
  have hRS := hRS.fr (hfS.mono (fun k i j h => by unfold fI at h; unfold tR; omega))
  have hnS := hRS.n
  have enS : S 30 0 0 = S 30 0 0 := hfS 30 0 0 (by unfold fI; omega)
  refine kw_aload_n hC dX8_isForm_0 rfl 0 rfl ?_
  refine kw_callV hC (d_X8_shortOf hD hRS hw m0 m1) gX8_isForm_X8_shortOf ⟨_, rfl⟩ rfl (by decide) (by decide) rfl ⟨rfl, rfl⟩ 0 (by decide +kernel) ⟨by decide, by decide⟩ rfl rfl (Nat.le_of_ble_eq_true rfl) dX8_isForm_1 rfl (kd_i (fun r1 S1 hp1 => ?_))
  obtain ⟨hg1, hp1⟩ := hp1
  have hfS1 : Fr fI S S1 := hfS.trans (hg1.mono (fun k i j h => by unfold fS at h; unfold fI; omega))
  have hRS1 := hRS.fr (hfS1.mono (fun k i j h => by unfold fI at h; unfold tR; omega))
  have hnS1 := hRS1.n
  have enS1 : S1 30 0 0 = S 30 0 0 := hfS1 30 0 0 (by unfold fI; omega)
  obtain ⟨hb1, ⟨r0, r1⟩, hrv, hgw⟩ := hp1
  replace hrv : WV (S1 47 0) (S1 30 0 8) (S1 30 0 0) := hrv.eq (fun _ _ _ => rfl) rfl (by omega)
  have e14_1 : S1 30 0 14 = S 30 0 14 := hg1 30 0 14 (by unfold fS; omega)
  refine kw_if_eq (tgt := 40) hC dX8_isForm_4 rfl (by decide) (by omega) ⟨fun c4 => ?_, fun c4 => ?_⟩
  · refine kw_iconst hC dX8_isForm_40 rfl ?_
    refine kw_istore_n (lv' := [(1, _), (0, _)]) hC dX8_isForm_41 rfl (by decide) rfl ?_
    refine kw_iconst hC dX8_isForm_42 rfl ?_
    refine kw_istore_n (lv' := [(2, _), (1, _), (0, _)]) hC dX8_isForm_43 rfl (by decide) rfl ?_
    have hL44 : ∀ (n44 : Nat) (k : Int) (z : Int), (0 ≤ k) → (z = 0 ∨ z = 1) → (k ≤ S1 30 0 14) → S1 30 0 14 - k < (n44 : Int) → Wk E g 3 S1 44 [(0, vr g 30 0), (1, vi z), (2, vi k)] [] := by
      intro n44
      induction n44 with
      | zero => intro k z k0 hz k1 hm44; exact absurd hm44 (by omega)
      | succ n44 ih44 =>
        intro k z k0 hz k1 hm44
        refine kw_iload_n hC dX8_isForm_44 rfl 2 rfl ?_
        refine kw_aload_n hC dX8_isForm_45 rfl 0 rfl ?_
        refine kg_30_14 hC w8 f57 dX8_isForm_46 rfl (by decide) (by decide) ?_
        refine kw_icmp_ge (tgt := 83) hC dX8_isForm_49 rfl (by decide) (by omega) (by omega) ⟨fun c49 => ?_, fun c49 => ?_⟩
        · refine kw_iload_n hC dX8_isForm_83 rfl 1 rfl ?_
          exact hR9.2.1 rfl _ _ _ _ dX8_isForm_84 (by omega) ⟨_, rfl, hfS1, by omega⟩
        · refine kw_iload_n hC dX8_isForm_52 rfl 1 rfl ?_
          refine kw_if_eq (tgt := 83) hC dX8_isForm_53 rfl (by decide) (by omega) ⟨fun c53 => ?_, fun c53 => ?_⟩
          · refine kw_iload_n hC dX8_isForm_83 rfl 1 rfl ?_
            exact hR9.2.1 rfl _ _ _ _ dX8_isForm_84 (by omega) ⟨_, rfl, hfS1, by omega⟩
          · refine kw_aload_n hC dX8_isForm_56 rfl 0 rfl ?_
            refine kg_30_9 hC w8 f116 dX8_isForm_57 rfl (by decide) (by decide) ?_
            refine kw_iload_n hC dX8_isForm_60 rfl 2 rfl ?_
            refine ka_49 hC dX8_isForm_61 rfl (by decide) (by decide) (by omega) (by omega) ?_
            refine kw_nri ?_
            refine kw_aload_n hC dX8_isForm_62 rfl 0 rfl ?_
            refine kg_30_13 hC w8 f60 dX8_isForm_63 rfl (by decide) (by decide) ?_
            refine kw_iload_n hC dX8_isForm_66 rfl 2 rfl ?_
            refine ka_53 hC dX8_isForm_67 rfl (by decide) (by decide) (by omega) (by omega) ?_
            refine kw_nri ?_
            refine kw_icmp_ne (tgt := 75) hC dX8_isForm_68 rfl (by decide) (ni_r _) (ni_r _) ⟨fun c68 => ?_, fun c68 => ?_⟩
            · refine kw_iconst hC dX8_isForm_75 rfl ?_
              refine kw_istore_n (lv' := [(1, _), (0, _), (2, _)]) hC dX8_isForm_76 rfl (by decide) rfl ?_
              refine kw_iinc (lv' := [(2, _), (1, _), (0, _)]) hC dX8_isForm_77 rfl 2 rfl (by decide) rfl ?_
              refine kw_goto (tgt := 44) hC dX8_isForm_80 rfl (by decide) ?_
              refine kw_lv [2, 1, 0] rfl ?_
              exact ih44 (k + 1) _ (by omega) (by omega) (by omega) (by omega)
            · refine kw_iconst hC dX8_isForm_71 rfl ?_
              refine kw_goto (tgt := 76) hC dX8_isForm_72 rfl (by decide) ?_
              refine kw_istore_n (lv' := [(1, _), (0, _), (2, _)]) hC dX8_isForm_76 rfl (by decide) rfl ?_
              refine kw_iinc (lv' := [(2, _), (1, _), (0, _)]) hC dX8_isForm_77 rfl 2 rfl (by decide) rfl ?_
              refine kw_goto (tgt := 44) hC dX8_isForm_80 rfl (by decide) ?_
              refine kw_lv [2, 1, 0] rfl ?_
              exact ih44 (k + 1) _ (by omega) (by omega) (by omega) (by omega)
    refine kw_lv [2, 1, 0] rfl ?_
    exact hL44 201 0 _ (by omega) (by omega) (by omega) (by omega)
  · refine kw_aload_n hC dX8_isForm_7 rfl 0 rfl ?_
    refine kg_30_8 hC w8 f92 dX8_isForm_8 rfl (by decide) (by decide) ?_
    refine kw_aload_n hC dX8_isForm_11 rfl 0 rfl ?_
    refine kg_30_14 hC w8 f57 dX8_isForm_12 rfl (by decide) (by decide) ?_
    refine kw_icmp_ne (tgt := 40) hC dX8_isForm_15 rfl (by decide) (by omega) (by omega) ⟨fun c15 => ?_, fun c15 => ?_⟩
    · refine kw_iconst hC dX8_isForm_40 rfl ?_
      refine kw_istore_n (lv' := [(1, _), (0, _)]) hC dX8_isForm_41 rfl (by decide) rfl ?_
      refine kw_iconst hC dX8_isForm_42 rfl ?_
      refine kw_istore_n (lv' := [(2, _), (1, _), (0, _)]) hC dX8_isForm_43 rfl (by decide) rfl ?_
      have hL44 : ∀ (n44 : Nat) (k : Int) (z : Int), (0 ≤ k) → (z = 0 ∨ z = 1) → (k ≤ S1 30 0 14) → S1 30 0 14 - k < (n44 : Int) → Wk E g 3 S1 44 [(0, vr g 30 0), (1, vi z), (2, vi k)] [] := by
        intro n44
        induction n44 with
        | zero => intro k z k0 hz k1 hm44; exact absurd hm44 (by omega)
        | succ n44 ih44 =>
          intro k z k0 hz k1 hm44
          refine kw_iload_n hC dX8_isForm_44 rfl 2 rfl ?_
          refine kw_aload_n hC dX8_isForm_45 rfl 0 rfl ?_
          refine kg_30_14 hC w8 f57 dX8_isForm_46 rfl (by decide) (by decide) ?_
          refine kw_icmp_ge (tgt := 83) hC dX8_isForm_49 rfl (by decide) (by omega) (by omega) ⟨fun c49 => ?_, fun c49 => ?_⟩
          · refine kw_iload_n hC dX8_isForm_83 rfl 1 rfl ?_
            exact hR9.2.1 rfl _ _ _ _ dX8_isForm_84 (by omega) ⟨_, rfl, hfS1, by omega⟩
          · refine kw_iload_n hC dX8_isForm_52 rfl 1 rfl ?_
            refine kw_if_eq (tgt := 83) hC dX8_isForm_53 rfl (by decide) (by omega) ⟨fun c53 => ?_, fun c53 => ?_⟩
            · refine kw_iload_n hC dX8_isForm_83 rfl 1 rfl ?_
              exact hR9.2.1 rfl _ _ _ _ dX8_isForm_84 (by omega) ⟨_, rfl, hfS1, by omega⟩
            · refine kw_aload_n hC dX8_isForm_56 rfl 0 rfl ?_
              refine kg_30_9 hC w8 f116 dX8_isForm_57 rfl (by decide) (by decide) ?_
              refine kw_iload_n hC dX8_isForm_60 rfl 2 rfl ?_
              refine ka_49 hC dX8_isForm_61 rfl (by decide) (by decide) (by omega) (by omega) ?_
              refine kw_nri ?_
              refine kw_aload_n hC dX8_isForm_62 rfl 0 rfl ?_
              refine kg_30_13 hC w8 f60 dX8_isForm_63 rfl (by decide) (by decide) ?_
              refine kw_iload_n hC dX8_isForm_66 rfl 2 rfl ?_
              refine ka_53 hC dX8_isForm_67 rfl (by decide) (by decide) (by omega) (by omega) ?_
              refine kw_nri ?_
              refine kw_icmp_ne (tgt := 75) hC dX8_isForm_68 rfl (by decide) (ni_r _) (ni_r _) ⟨fun c68 => ?_, fun c68 => ?_⟩
              · refine kw_iconst hC dX8_isForm_75 rfl ?_
                refine kw_istore_n (lv' := [(1, _), (0, _), (2, _)]) hC dX8_isForm_76 rfl (by decide) rfl ?_
                refine kw_iinc (lv' := [(2, _), (1, _), (0, _)]) hC dX8_isForm_77 rfl 2 rfl (by decide) rfl ?_
                refine kw_goto (tgt := 44) hC dX8_isForm_80 rfl (by decide) ?_
                refine kw_lv [2, 1, 0] rfl ?_
                exact ih44 (k + 1) _ (by omega) (by omega) (by omega) (by omega)
              · refine kw_iconst hC dX8_isForm_71 rfl ?_
                refine kw_goto (tgt := 76) hC dX8_isForm_72 rfl (by decide) ?_
                refine kw_istore_n (lv' := [(1, _), (0, _), (2, _)]) hC dX8_isForm_76 rfl (by decide) rfl ?_
                refine kw_iinc (lv' := [(2, _), (1, _), (0, _)]) hC dX8_isForm_77 rfl 2 rfl (by decide) rfl ?_
                refine kw_goto (tgt := 44) hC dX8_isForm_80 rfl (by decide) ?_
                refine kw_lv [2, 1, 0] rfl ?_
                exact ih44 (k + 1) _ (by omega) (by omega) (by omega) (by omega)
      refine kw_lv [2, 1, 0] rfl ?_
      exact hL44 201 0 _ (by omega) (by omega) (by omega) (by omega)
    · refine kw_aload_n hC dX8_isForm_18 rfl 0 rfl ?_
      refine kw_callV hC (d_X8_formOfR hD hRS1 hrv (by omega) (by omega)) gX8_isForm_X8_formOfR ⟨_, rfl⟩ rfl (by decide) (by decide) rfl ⟨rfl, rfl⟩ 0 (by decide +kernel) ⟨by decide, by decide⟩ rfl rfl (Nat.le_of_ble_eq_true rfl) dX8_isForm_19 rfl (kd_i (fun r10 S10 hp10 => ?_))
      obtain ⟨hg10, hp10⟩ := hp10
      have hfS10 : Fr fI S S10 := hfS1.trans (hg10.mono (fun k i j h => by unfold fF at h; unfold fI; omega))
      have hRS10 := hRS.fr (hfS10.mono (fun k i j h => by unfold fI at h; unfold tR; omega))
      have hnS10 := hRS10.n
      have enS10 : S10 30 0 0 = S 30 0 0 := hfS10 30 0 0 (by unfold fI; omega)
      obtain ⟨hb10, ⟨f0, f1⟩, hfv, hgf⟩ := hp10
      have e14_10 : S10 30 0 14 = S1 30 0 14 := hg10 30 0 14 (by unfold fF; omega)
      refine kw_if_eq (tgt := 40) hC dX8_isForm_22 rfl (by decide) (by omega) ⟨fun c22 => ?_, fun c22 => ?_⟩
      · refine kw_iconst hC dX8_isForm_40 rfl ?_
        refine kw_istore_n (lv' := [(1, _), (0, _)]) hC dX8_isForm_41 rfl (by decide) rfl ?_
        refine kw_iconst hC dX8_isForm_42 rfl ?_
        refine kw_istore_n (lv' := [(2, _), (1, _), (0, _)]) hC dX8_isForm_43 rfl (by decide) rfl ?_
        have hL44 : ∀ (n44 : Nat) (k : Int) (z : Int), (0 ≤ k) → (z = 0 ∨ z = 1) → (k ≤ S10 30 0 14) → S10 30 0 14 - k < (n44 : Int) → Wk E g 3 S10 44 [(0, vr g 30 0), (1, vi z), (2, vi k)] [] := by
          intro n44
          induction n44 with
          | zero => intro k z k0 hz k1 hm44; exact absurd hm44 (by omega)
          | succ n44 ih44 =>
            intro k z k0 hz k1 hm44
            refine kw_iload_n hC dX8_isForm_44 rfl 2 rfl ?_
            refine kw_aload_n hC dX8_isForm_45 rfl 0 rfl ?_
            refine kg_30_14 hC w8 f57 dX8_isForm_46 rfl (by decide) (by decide) ?_
            refine kw_icmp_ge (tgt := 83) hC dX8_isForm_49 rfl (by decide) (by omega) (by omega) ⟨fun c49 => ?_, fun c49 => ?_⟩
            · refine kw_iload_n hC dX8_isForm_83 rfl 1 rfl ?_
              exact hR9.2.1 rfl _ _ _ _ dX8_isForm_84 (by omega) ⟨_, rfl, hfS10, by omega⟩
            · refine kw_iload_n hC dX8_isForm_52 rfl 1 rfl ?_
              refine kw_if_eq (tgt := 83) hC dX8_isForm_53 rfl (by decide) (by omega) ⟨fun c53 => ?_, fun c53 => ?_⟩
              · refine kw_iload_n hC dX8_isForm_83 rfl 1 rfl ?_
                exact hR9.2.1 rfl _ _ _ _ dX8_isForm_84 (by omega) ⟨_, rfl, hfS10, by omega⟩
              · refine kw_aload_n hC dX8_isForm_56 rfl 0 rfl ?_
                refine kg_30_9 hC w8 f116 dX8_isForm_57 rfl (by decide) (by decide) ?_
                refine kw_iload_n hC dX8_isForm_60 rfl 2 rfl ?_
                refine ka_49 hC dX8_isForm_61 rfl (by decide) (by decide) (by omega) (by omega) ?_
                refine kw_nri ?_
                refine kw_aload_n hC dX8_isForm_62 rfl 0 rfl ?_
                refine kg_30_13 hC w8 f60 dX8_isForm_63 rfl (by decide) (by decide) ?_
                refine kw_iload_n hC dX8_isForm_66 rfl 2 rfl ?_
                refine ka_53 hC dX8_isForm_67 rfl (by decide) (by decide) (by omega) (by omega) ?_
                refine kw_nri ?_
                refine kw_icmp_ne (tgt := 75) hC dX8_isForm_68 rfl (by decide) (ni_r _) (ni_r _) ⟨fun c68 => ?_, fun c68 => ?_⟩
                · refine kw_iconst hC dX8_isForm_75 rfl ?_
                  refine kw_istore_n (lv' := [(1, _), (0, _), (2, _)]) hC dX8_isForm_76 rfl (by decide) rfl ?_
                  refine kw_iinc (lv' := [(2, _), (1, _), (0, _)]) hC dX8_isForm_77 rfl 2 rfl (by decide) rfl ?_
                  refine kw_goto (tgt := 44) hC dX8_isForm_80 rfl (by decide) ?_
                  refine kw_lv [2, 1, 0] rfl ?_
                  exact ih44 (k + 1) _ (by omega) (by omega) (by omega) (by omega)
                · refine kw_iconst hC dX8_isForm_71 rfl ?_
                  refine kw_goto (tgt := 76) hC dX8_isForm_72 rfl (by decide) ?_
                  refine kw_istore_n (lv' := [(1, _), (0, _), (2, _)]) hC dX8_isForm_76 rfl (by decide) rfl ?_
                  refine kw_iinc (lv' := [(2, _), (1, _), (0, _)]) hC dX8_isForm_77 rfl 2 rfl (by decide) rfl ?_
                  refine kw_goto (tgt := 44) hC dX8_isForm_80 rfl (by decide) ?_
                  refine kw_lv [2, 1, 0] rfl ?_
                  exact ih44 (k + 1) _ (by omega) (by omega) (by omega) (by omega)
        refine kw_lv [2, 1, 0] rfl ?_
        exact hL44 201 0 _ (by omega) (by omega) (by omega) (by omega)
      · refine kw_aload_n hC dX8_isForm_25 rfl 0 rfl ?_
        refine kg_30_10 hC w8 f110 dX8_isForm_26 rfl (by decide) (by decide) ?_
        refine kw_aload_n hC dX8_isForm_29 rfl 0 rfl ?_
        refine kg_30_14 hC w8 f57 dX8_isForm_30 rfl (by decide) (by decide) ?_
        refine kw_icmp_ne (tgt := 40) hC dX8_isForm_33 rfl (by decide) (by omega) (by omega) ⟨fun c33 => ?_, fun c33 => ?_⟩
        · refine kw_iconst hC dX8_isForm_40 rfl ?_
          refine kw_istore_n (lv' := [(1, _), (0, _)]) hC dX8_isForm_41 rfl (by decide) rfl ?_
          refine kw_iconst hC dX8_isForm_42 rfl ?_
          refine kw_istore_n (lv' := [(2, _), (1, _), (0, _)]) hC dX8_isForm_43 rfl (by decide) rfl ?_
          have hL44 : ∀ (n44 : Nat) (k : Int) (z : Int), (0 ≤ k) → (z = 0 ∨ z = 1) → (k ≤ S10 30 0 14) → S10 30 0 14 - k < (n44 : Int) → Wk E g 3 S10 44 [(0, vr g 30 0), (1, vi z), (2, vi k)] [] := by
            intro n44
            induction n44 with
            | zero => intro k z k0 hz k1 hm44; exact absurd hm44 (by omega)
            | succ n44 ih44 =>
              intro k z k0 hz k1 hm44
              refine kw_iload_n hC dX8_isForm_44 rfl 2 rfl ?_
              refine kw_aload_n hC dX8_isForm_45 rfl 0 rfl ?_
              refine kg_30_14 hC w8 f57 dX8_isForm_46 rfl (by decide) (by decide) ?_
              refine kw_icmp_ge (tgt := 83) hC dX8_isForm_49 rfl (by decide) (by omega) (by omega) ⟨fun c49 => ?_, fun c49 => ?_⟩
              · refine kw_iload_n hC dX8_isForm_83 rfl 1 rfl ?_
                exact hR9.2.1 rfl _ _ _ _ dX8_isForm_84 (by omega) ⟨_, rfl, hfS10, by omega⟩
              · refine kw_iload_n hC dX8_isForm_52 rfl 1 rfl ?_
                refine kw_if_eq (tgt := 83) hC dX8_isForm_53 rfl (by decide) (by omega) ⟨fun c53 => ?_, fun c53 => ?_⟩
                · refine kw_iload_n hC dX8_isForm_83 rfl 1 rfl ?_
                  exact hR9.2.1 rfl _ _ _ _ dX8_isForm_84 (by omega) ⟨_, rfl, hfS10, by omega⟩
                · refine kw_aload_n hC dX8_isForm_56 rfl 0 rfl ?_
                  refine kg_30_9 hC w8 f116 dX8_isForm_57 rfl (by decide) (by decide) ?_
                  refine kw_iload_n hC dX8_isForm_60 rfl 2 rfl ?_
                  refine ka_49 hC dX8_isForm_61 rfl (by decide) (by decide) (by omega) (by omega) ?_
                  refine kw_nri ?_
                  refine kw_aload_n hC dX8_isForm_62 rfl 0 rfl ?_
                  refine kg_30_13 hC w8 f60 dX8_isForm_63 rfl (by decide) (by decide) ?_
                  refine kw_iload_n hC dX8_isForm_66 rfl 2 rfl ?_
                  refine ka_53 hC dX8_isForm_67 rfl (by decide) (by decide) (by omega) (by omega) ?_
                  refine kw_nri ?_
                  refine kw_icmp_ne (tgt := 75) hC dX8_isForm_68 rfl (by decide) (ni_r _) (ni_r _) ⟨fun c68 => ?_, fun c68 => ?_⟩
                  · refine kw_iconst hC dX8_isForm_75 rfl ?_
                    refine kw_istore_n (lv' := [(1, _), (0, _), (2, _)]) hC dX8_isForm_76 rfl (by decide) rfl ?_
                    refine kw_iinc (lv' := [(2, _), (1, _), (0, _)]) hC dX8_isForm_77 rfl 2 rfl (by decide) rfl ?_
                    refine kw_goto (tgt := 44) hC dX8_isForm_80 rfl (by decide) ?_
                    refine kw_lv [2, 1, 0] rfl ?_
                    exact ih44 (k + 1) _ (by omega) (by omega) (by omega) (by omega)
                  · refine kw_iconst hC dX8_isForm_71 rfl ?_
                    refine kw_goto (tgt := 76) hC dX8_isForm_72 rfl (by decide) ?_
                    refine kw_istore_n (lv' := [(1, _), (0, _), (2, _)]) hC dX8_isForm_76 rfl (by decide) rfl ?_
                    refine kw_iinc (lv' := [(2, _), (1, _), (0, _)]) hC dX8_isForm_77 rfl 2 rfl (by decide) rfl ?_
                    refine kw_goto (tgt := 44) hC dX8_isForm_80 rfl (by decide) ?_
                    refine kw_lv [2, 1, 0] rfl ?_
                    exact ih44 (k + 1) _ (by omega) (by omega) (by omega) (by omega)
          refine kw_lv [2, 1, 0] rfl ?_
          exact hL44 201 0 _ (by omega) (by omega) (by omega) (by omega)
        · refine kw_iconst hC dX8_isForm_36 rfl ?_
          refine kw_goto (tgt := 41) hC dX8_isForm_37 rfl (by decide) ?_
          refine kw_istore_n (lv' := [(1, _), (0, _)]) hC dX8_isForm_41 rfl (by decide) rfl ?_
          refine kw_iconst hC dX8_isForm_42 rfl ?_
          refine kw_istore_n (lv' := [(2, _), (1, _), (0, _)]) hC dX8_isForm_43 rfl (by decide) rfl ?_
          have hL44 : ∀ (n44 : Nat) (k : Int) (z : Int), (0 ≤ k) → (z = 0 ∨ z = 1) → (k ≤ S10 30 0 14) → S10 30 0 14 - k < (n44 : Int) → Wk E g 3 S10 44 [(0, vr g 30 0), (1, vi z), (2, vi k)] [] := by
            intro n44
            induction n44 with
            | zero => intro k z k0 hz k1 hm44; exact absurd hm44 (by omega)
            | succ n44 ih44 =>
              intro k z k0 hz k1 hm44
              refine kw_iload_n hC dX8_isForm_44 rfl 2 rfl ?_
              refine kw_aload_n hC dX8_isForm_45 rfl 0 rfl ?_
              refine kg_30_14 hC w8 f57 dX8_isForm_46 rfl (by decide) (by decide) ?_
              refine kw_icmp_ge (tgt := 83) hC dX8_isForm_49 rfl (by decide) (by omega) (by omega) ⟨fun c49 => ?_, fun c49 => ?_⟩
              · refine kw_iload_n hC dX8_isForm_83 rfl 1 rfl ?_
                exact hR9.2.1 rfl _ _ _ _ dX8_isForm_84 (by omega) ⟨_, rfl, hfS10, by omega⟩
              · refine kw_iload_n hC dX8_isForm_52 rfl 1 rfl ?_
                refine kw_if_eq (tgt := 83) hC dX8_isForm_53 rfl (by decide) (by omega) ⟨fun c53 => ?_, fun c53 => ?_⟩
                · refine kw_iload_n hC dX8_isForm_83 rfl 1 rfl ?_
                  exact hR9.2.1 rfl _ _ _ _ dX8_isForm_84 (by omega) ⟨_, rfl, hfS10, by omega⟩
                · refine kw_aload_n hC dX8_isForm_56 rfl 0 rfl ?_
                  refine kg_30_9 hC w8 f116 dX8_isForm_57 rfl (by decide) (by decide) ?_
                  refine kw_iload_n hC dX8_isForm_60 rfl 2 rfl ?_
                  refine ka_49 hC dX8_isForm_61 rfl (by decide) (by decide) (by omega) (by omega) ?_
                  refine kw_nri ?_
                  refine kw_aload_n hC dX8_isForm_62 rfl 0 rfl ?_
                  refine kg_30_13 hC w8 f60 dX8_isForm_63 rfl (by decide) (by decide) ?_
                  refine kw_iload_n hC dX8_isForm_66 rfl 2 rfl ?_
                  refine ka_53 hC dX8_isForm_67 rfl (by decide) (by decide) (by omega) (by omega) ?_
                  refine kw_nri ?_
                  refine kw_icmp_ne (tgt := 75) hC dX8_isForm_68 rfl (by decide) (ni_r _) (ni_r _) ⟨fun c68 => ?_, fun c68 => ?_⟩
                  · refine kw_iconst hC dX8_isForm_75 rfl ?_
                    refine kw_istore_n (lv' := [(1, _), (0, _), (2, _)]) hC dX8_isForm_76 rfl (by decide) rfl ?_
                    refine kw_iinc (lv' := [(2, _), (1, _), (0, _)]) hC dX8_isForm_77 rfl 2 rfl (by decide) rfl ?_
                    refine kw_goto (tgt := 44) hC dX8_isForm_80 rfl (by decide) ?_
                    refine kw_lv [2, 1, 0] rfl ?_
                    exact ih44 (k + 1) _ (by omega) (by omega) (by omega) (by omega)
                  · refine kw_iconst hC dX8_isForm_71 rfl ?_
                    refine kw_goto (tgt := 76) hC dX8_isForm_72 rfl (by decide) ?_
                    refine kw_istore_n (lv' := [(1, _), (0, _), (2, _)]) hC dX8_isForm_76 rfl (by decide) rfl ?_
                    refine kw_iinc (lv' := [(2, _), (1, _), (0, _)]) hC dX8_isForm_77 rfl 2 rfl (by decide) rfl ?_
                    refine kw_goto (tgt := 44) hC dX8_isForm_80 rfl (by decide) ?_
                    refine kw_lv [2, 1, 0] rfl ?_
                    exact ih44 (k + 1) _ (by omega) (by omega) (by omega) (by omega)
          refine kw_lv [2, 1, 0] rfl ?_
          exact hL44 201 0 _ (by omega) (by omega) (by omega) (by omega)

def fQ (k : Nat) (i j : Int) : Prop := k = 55 ∨ k = 47 ∨ k = 49 ∨ k = 53 ∨ k = 65 ∨ k = 67 ∨ (k = 30 ∧ (j = 16 ∨ j = 8 ∨ j = 10 ∨ j = 14 ∨ j = 26))

/-- letters of the first many rows of twelve, so many of each, are mirrors -/
def FV (f : Int → Int) (many len n : Int) : Prop := ∀ i k, 0 ≤ i → i < many → 0 ≤ k → k < len → 0 ≤ f (12 * i + k) ∧ f (12 * i + k) < n
theorem FV.eq {f f' : Int → Int} {many len n : Int} (h : FV f many len n) (hf : ∀ j, f' j = f j) : FV f' many len n := fun i k a b c d => by rw [hf]; exact h i k a b c d

set_option maxHeartbeats 4000000 in
set_option maxRecDepth 100000 in
theorem d_X8_findForms {g : wG} (hD : wD g) {S : wSt} {a : Int} (a0 : 0 ≤ a) (a1 : a ≤ 12) (hRS : RI S) (l : Launch) : Kt l yX8_findForms wsX8_findForms ({ frames := 5, cells := 0, slots := 0, locals := 115 } : Room) g S [vr g 30 0, vi a] (pI (fun r S' => Fr fQ S S' ∧ ((r = 0 ∨ r = 1) ∧ (0 ≤ S' 30 0 26 ∧ S' 30 0 26 ≤ 300) ∧ (r = 1 → FV (S' 65 0) (S' 30 0 26) a (S 30 0 0))))) := by
  refine Kt.of (cc := cX8_findForms) (nL := 7) (ret := (some .boolean)) (own := RX8) rfl hD (by decide) rfl (Nat.le_of_ble_eq_true rfl) ⟨rfl, rfl⟩ ?_
  intro E hC hR9
  have f11 : Cond.fieldLink RX8 11 "MirrorBenchModel" "mirrors" "I" ∈ wsX8_findForms := by decide +kernel
  have f57 : Cond.fieldLink RX8 57 "MirrorBenchModel" "wMany" "I" ∈ wsX8_findForms := by decide +kernel
  have f60 : Cond.fieldLink RX8 60 "MirrorBenchModel" "w" "[I" ∈ wsX8_findForms := by decide +kernel
  have f206 : Cond.fieldLink RX8 206 "MirrorBenchModel" "formMany" "I" ∈ wsX8_findForms := by decide +kernel
  have f209 : Cond.fieldLink RX8 209 "MirrorBenchModel" "forms" "[I" ∈ wsX8_findForms := by decide +kernel
  have f215 : Cond.fieldLink RX8 215 "MirrorBenchModel" "longer" "[I" ∈ wsX8_findForms := by decide +kernel
  have w8 : ∀ w ∈ wsX80, w ∈ wsX8_findForms := by decide +kernel
  show Wk E g 7 S 0 [(0, vr g 30 0), (1, vi a)] []
  have hfS : Fr fQ S S := Fr.rfl _ S
  have hRS := hRS.fr (hfS.mono (fun k i j h => by unfold fQ at h; unfold tR; omega))
  have hnS := hRS.n
  have enS : S 30 0 0 = S 30 0 0 := hfS 30 0 0 (by unfold fQ; omega)
  refine kw_aload_n hC dX8_findForms_0 rfl 0 rfl ?_
  refine kw_iconst hC dX8_findForms_1 rfl ?_
  refine kp_30_26 hC w8 f206 dX8_findForms_2 rfl (by decide) (by decide) ?_
  refine kw_hv hfS (by unfold fQ; omega) (fun S1 hfS1 hv1 ho1 => ?_)
  have hRS1 := hRS.fr (hfS1.mono (fun k i j h => by unfold fQ at h; unfold tR; omega))
  have hnS1 := hRS1.n
  have enS1 : S1 30 0 0 = S 30 0 0 := hfS1 30 0 0 (by unfold fQ; omega)
  refine kw_iconst hC dX8_findForms_5 rfl ?_
  refine kw_istore_n (lv' := [(2, _), (0, _), (1, _)]) hC dX8_findForms_6 rfl (by decide) rfl ?_
  have hL7 : ∀ (n7 : Nat) (n : Int) (W7 : wSt), Fr fQ S W7 → (0 ≤ n) → (n ≤ a) → (0 ≤ W7 30 0 26) → (W7 30 0 26 ≤ 300) → (FV (W7 65 0) (W7 30 0 26) n (S 30 0 0)) → a - n < (n7 : Int) → Wk E g 7 W7 7 [(0, vr g 30 0), (1, vi a), (2, vi n)] [] := by
    intro n7
    induction n7 with
    | zero => intro n W7 hfW7 n0 n1 m0 m1 hfm hm7; exact absurd hm7 (by omega)
    | succ n7 ih7 =>
      intro n W7 hfW7 n0 n1 m0 m1 hfm hm7
      have hRW7 := hRS.fr (hfW7.mono (fun k i j h => by unfold fQ at h; unfold tR; omega))
      have hnW7 := hRW7.n
      have enW7 : W7 30 0 0 = S 30 0 0 := hfW7 30 0 0 (by unfold fQ; omega)
      refine kw_iload_n hC dX8_findForms_7 rfl 2 rfl ?_
      refine kw_iload_n hC dX8_findForms_8 rfl 1 rfl ?_
      refine kw_icmp_ge (tgt := 196) hC dX8_findForms_9 rfl (by decide) (by omega) (by omega) ⟨fun c9 => ?_, fun c9 => ?_⟩
      · refine kw_iconst hC dX8_findForms_196 rfl ?_
        exact hR9.2.1 rfl _ _ _ _ dX8_findForms_197 (by omega) ⟨_, rfl, hfW7, by omega, by omega, fun q => by first | omega | (rw [show a = n by omega]; exact hfm)⟩
      · refine kw_iconst hC dX8_findForms_12 rfl ?_
        refine kw_istore_n (lv' := [(3, _), (0, _), (1, _), (2, _)]) hC dX8_findForms_13 rfl (by decide) rfl ?_
        refine kw_iconst hC dX8_findForms_14 rfl ?_
        refine kw_istore (lv' := [(4, _), (3, _), (0, _), (1, _), (2, _)]) hC dX8_findForms_15 rfl (by decide) rfl ?_
        have hL17 : ∀ (n17 : Nat) (i : Int) (m : Int) (W17 : wSt), Fr fQ S W17 → (0 ≤ i) → (i ≤ 300) → (0 ≤ m) → (m ≤ 300) → (0 ≤ W17 30 0 26) → (W17 30 0 26 ≤ 300) → (FV (W17 65 0) (W17 30 0 26) n (S 30 0 0)) → (FV (W17 67 0) m (n + 1) (S 30 0 0)) → 300 - i < (n17 : Int) → Wk E g 7 W17 17 [(0, vr g 30 0), (1, vi a), (2, vi n), (3, vi m), (4, vi i)] [] := by
          intro n17
          induction n17 with
          | zero => intro i m W17 hfW17 i0 i1 q0 q1 m0 m1 hfm hlg hm17; exact absurd hm17 (by omega)
          | succ n17 ih17 =>
            intro i m W17 hfW17 i0 i1 q0 q1 m0 m1 hfm hlg hm17
            have hRW17 := hRS.fr (hfW17.mono (fun k i j h => by unfold fQ at h; unfold tR; omega))
            have hnW17 := hRW17.n
            have enW17 : W17 30 0 0 = S 30 0 0 := hfW17 30 0 0 (by unfold fQ; omega)
            refine kw_iload hC dX8_findForms_17 rfl 4 rfl ?_
            refine kw_aload_n hC dX8_findForms_19 rfl 0 rfl ?_
            refine kg_30_26 hC w8 f206 dX8_findForms_20 rfl (by decide) (by decide) ?_
            refine kw_icmp_ge (tgt := 153) hC dX8_findForms_23 rfl (by decide) (by omega) (by omega) ⟨fun c23 => ?_, fun c23 => ?_⟩
            · refine kw_iconst hC dX8_findForms_153 rfl ?_
              refine kw_istore (lv' := [(4, _), (0, _), (1, _), (2, _), (3, _)]) hC dX8_findForms_154 rfl (by decide) rfl ?_
              have hL156 : ∀ (n156 : Nat) (k : Int) (W156 : wSt), Fr fQ S W156 → (0 ≤ k) → (k ≤ 12 * m) → (∀ j, 0 ≤ j → j < k → W156 65 0 j = W156 67 0 j) → (0 ≤ W156 30 0 26) → (W156 30 0 26 ≤ 300) → (FV (W156 67 0) m (n + 1) (S 30 0 0)) → 12 * m - k < (n156 : Int) → Wk E g 7 W156 156 [(0, vr g 30 0), (1, vi a), (2, vi n), (3, vi m), (4, vi k)] [] := by
                intro n156
                induction n156 with
                | zero => intro k W156 hfW156 k0 k1 hcp m0 m1 hlg hm156; exact absurd hm156 (by omega)
                | succ n156 ih156 =>
                  intro k W156 hfW156 k0 k1 hcp m0 m1 hlg hm156
                  have hRW156 := hRS.fr (hfW156.mono (fun k i j h => by unfold fQ at h; unfold tR; omega))
                  have hnW156 := hRW156.n
                  have enW156 : W156 30 0 0 = S 30 0 0 := hfW156 30 0 0 (by unfold fQ; omega)
                  refine kw_iload hC dX8_findForms_156 rfl 4 rfl ?_
                  refine kw_bipush hC dX8_findForms_158 rfl (by decide) ?_
                  refine kw_iload_n hC dX8_findForms_160 rfl 3 rfl ?_
                  refine kw_imul hC dX8_findForms_161 rfl ?_
                  refine kw_icmp_ge (tgt := 185) hC dX8_findForms_162 rfl (by decide) (by omega) (by omega) ⟨fun c162 => ?_, fun c162 => ?_⟩
                  · refine kw_aload_n hC dX8_findForms_185 rfl 0 rfl ?_
                    refine kw_iload_n hC dX8_findForms_186 rfl 3 rfl ?_
                    refine kp_30_26 hC w8 f206 dX8_findForms_187 rfl (by decide) (by decide) ?_
                    refine kw_hv hfW156 (by unfold fQ; omega) (fun S5 hfS5 hv5 ho5 => ?_)
                    have hRS5 := hRS.fr (hfS5.mono (fun k i j h => by unfold fQ at h; unfold tR; omega))
                    have hnS5 := hRS5.n
                    have enS5 : S5 30 0 0 = S 30 0 0 := hfS5 30 0 0 (by unfold fQ; omega)
                    have x26 := hv5
                    have hfm9 : FV (S5 65 0) (S5 30 0 26) (n + 1) (S 30 0 0) := fun p q p0 p1 u0 u1 => by rw [hv5] at p1; rw [ho5 65 0 _ (by omega), hcp _ (by omega) (by omega)]; exact hlg p q p0 p1 u0 u1
                    refine kw_iinc (lv' := [(2, _), (0, _), (1, _), (3, _), (4, _)]) hC dX8_findForms_190 rfl 2 rfl (by decide) rfl ?_
                    refine kw_goto (tgt := 7) hC dX8_findForms_193 rfl (by decide) ?_
                    refine kw_lv [1, 2, 0] rfl ?_
                    exact ih7 (n + 1) S5 hfS5 (by omega) (by omega) (by omega) (by omega) hfm9 (by omega)
                  · refine kw_aload_n hC dX8_findForms_165 rfl 0 rfl ?_
                    refine kg_30_25 hC w8 f209 dX8_findForms_166 rfl (by decide) (by decide) ?_
                    refine kw_iload hC dX8_findForms_169 rfl 4 rfl ?_
                    refine kw_aload_n hC dX8_findForms_171 rfl 0 rfl ?_
                    refine kg_30_27 hC w8 f215 dX8_findForms_172 rfl (by decide) (by decide) ?_
                    refine kw_iload hC dX8_findForms_175 rfl 4 rfl ?_
                    refine ka_67 hC dX8_findForms_177 rfl (by decide) (by decide) (by omega) (by omega) ?_
                    refine ks_65 hC dX8_findForms_178 rfl (by decide) (by decide) (by omega) (by omega) ?_
                    refine kw_hv hfW156 (by unfold fQ; omega) (fun S6 hfS6 hv6 ho6 => ?_)
                    have hRS6 := hRS.fr (hfS6.mono (fun k i j h => by unfold fQ at h; unfold tR; omega))
                    have hnS6 := hRS6.n
                    have enS6 : S6 30 0 0 = S 30 0 0 := hfS6 30 0 0 (by unfold fQ; omega)
                    have e26_6 : S6 30 0 26 = W156 30 0 26 := ho6 30 0 26 (by omega)
                    replace hlg : FV (S6 67 0) m (n + 1) (S 30 0 0) := hlg.eq (fun j => ho6 67 0 j (by omega))
                    refine kw_iinc (lv' := [(4, _), (0, _), (1, _), (2, _), (3, _)]) hC dX8_findForms_179 rfl 4 rfl (by decide) rfl ?_
                    refine kw_goto (tgt := 156) hC dX8_findForms_182 rfl (by decide) ?_
                    refine kw_lv [1, 2, 3, 4, 0] rfl ?_
                    exact ih156 (k + 1) S6 hfS6 (by omega) (by omega) (fun j j0 j1 => by rw [ho6 67 0 j (by omega)]; rcases Decidable.em (j = k) with e | e; exact (by rw [e]; exact hv6); exact (ho6 65 0 j (by omega)).trans (hcp j j0 (by omega))) (by omega) (by omega) hlg (by omega)
              refine kw_lv [1, 2, 3, 4, 0] rfl ?_
              exact hL156 3601 0 W17 hfW17 (by omega) (by omega) (fun j _ _ => by omega) (by omega) (by omega) hlg (by omega)
            · refine kw_iconst hC dX8_findForms_26 rfl ?_
              refine kw_istore (lv' := [(5, _), (0, _), (1, _), (2, _), (3, _), (4, _)]) hC dX8_findForms_27 rfl (by decide) rfl ?_
              have hL29 : ∀ (n29 : Nat) (s : Int) (m : Int) (W29 : wSt), Fr fQ S W29 → (0 ≤ s) → (s ≤ S 30 0 0) → (i < W29 30 0 26) → (0 ≤ m) → (m ≤ 300) → (0 ≤ W29 30 0 26) → (W29 30 0 26 ≤ 300) → (FV (W29 65 0) (W29 30 0 26) n (S 30 0 0)) → (FV (W29 67 0) m (n + 1) (S 30 0 0)) → S 30 0 0 - s < (n29 : Int) → Wk E g 7 W29 29 [(0, vr g 30 0), (1, vi a), (2, vi n), (3, vi m), (4, vi i), (5, vi s)] [] := by
                intro n29
                induction n29 with
                | zero => intro s m W29 hfW29 s0 s1 i1 q0 q1 m0 m1 hfm hlg hm29; exact absurd hm29 (by omega)
                | succ n29 ih29 =>
                  intro s m W29 hfW29 s0 s1 i1 q0 q1 m0 m1 hfm hlg hm29
                  have hRW29 := hRS.fr (hfW29.mono (fun k i j h => by unfold fQ at h; unfold tR; omega))
                  have hnW29 := hRW29.n
                  have enW29 : W29 30 0 0 = S 30 0 0 := hfW29 30 0 0 (by unfold fQ; omega)
                  refine kw_iload hC dX8_findForms_29 rfl 5 rfl ?_
                  refine kw_aload_n hC dX8_findForms_31 rfl 0 rfl ?_
                  refine kg_30_0 hC w8 f11 dX8_findForms_32 rfl (by decide) (by decide) ?_
                  refine kw_icmp_ge (tgt := 147) hC dX8_findForms_35 rfl (by decide) (by omega) (by omega) ⟨fun c35 => ?_, fun c35 => ?_⟩
                  · refine kw_iinc (lv' := [(4, _), (0, _), (1, _), (2, _), (3, _), (5, _)]) hC dX8_findForms_147 rfl 4 rfl (by decide) rfl ?_
                    refine kw_goto (tgt := 17) hC dX8_findForms_150 rfl (by decide) ?_
                    refine kw_lv [1, 2, 3, 4, 0] rfl ?_
                    exact ih17 (i + 1) _ W29 hfW29 (by omega) (by omega) (by omega) (by omega) (by omega) (by omega) hfm hlg (by omega)
                  · refine kw_aload_n hC dX8_findForms_38 rfl 0 rfl ?_
                    refine kw_iload_n hC dX8_findForms_39 rfl 2 rfl ?_
                    refine kw_iconst hC dX8_findForms_40 rfl ?_
                    refine kw_iadd hC dX8_findForms_41 rfl ?_
                    refine kp_30_14 hC w8 f57 dX8_findForms_42 rfl (by decide) (by decide) ?_
                    refine kw_hv hfW29 (by unfold fQ; omega) (fun S8 hfS8 hv8 ho8 => ?_)
                    have hRS8 := hRS.fr (hfS8.mono (fun k i j h => by unfold fQ at h; unfold tR; omega))
                    have hnS8 := hRS8.n
                    have enS8 : S8 30 0 0 = S 30 0 0 := hfS8 30 0 0 (by unfold fQ; omega)
                    have e26_8 : S8 30 0 26 = W29 30 0 26 := ho8 30 0 26 (by omega)
                    replace hfm : FV (S8 65 0) (S8 30 0 26) n (S 30 0 0) := by rw [e26_8]; exact hfm.eq (fun j => ho8 65 0 j (by omega))
                    replace hlg : FV (S8 67 0) m (n + 1) (S 30 0 0) := hlg.eq (fun j => ho8 67 0 j (by omega))
                    refine kw_iconst hC dX8_findForms_45 rfl ?_
                    refine kw_istore (lv' := [(6, _), (0, _), (1, _), (2, _), (3, _), (4, _), (5, _)]) hC dX8_findForms_46 rfl (by decide) rfl ?_
                    have hL48 : ∀ (n48 : Nat) (k : Int) (W48 : wSt), Fr fQ S W48 → (0 ≤ k) → (k ≤ n) → (i < W48 30 0 26) → (W48 30 0 14 = n + 1) → (WV (W48 53 0) k (S 30 0 0)) → (0 ≤ W48 30 0 26) → (W48 30 0 26 ≤ 300) → (FV (W48 65 0) (W48 30 0 26) n (S 30 0 0)) → (FV (W48 67 0) m (n + 1) (S 30 0 0)) → n - k < (n48 : Int) → Wk E g 7 W48 48 [(0, vr g 30 0), (1, vi a), (2, vi n), (3, vi m), (4, vi i), (5, vi s), (6, vi k)] [] := by
                      intro n48
                      induction n48 with
                      | zero => intro k W48 hfW48 k0 k1 i1 q14 hx m0 m1 hfm hlg hm48; exact absurd hm48 (by omega)
                      | succ n48 ih48 =>
                        intro k W48 hfW48 k0 k1 i1 q14 hx m0 m1 hfm hlg hm48
                        have hRW48 := hRS.fr (hfW48.mono (fun k i j h => by unfold fQ at h; unfold tR; omega))
                        have hnW48 := hRW48.n
                        have enW48 : W48 30 0 0 = S 30 0 0 := hfW48 30 0 0 (by unfold fQ; omega)
                        refine kw_iload hC dX8_findForms_48 rfl 6 rfl ?_
                        refine kw_iload_n hC dX8_findForms_50 rfl 2 rfl ?_
                        refine kw_icmp_ge (tgt := 80) hC dX8_findForms_51 rfl (by decide) (by omega) (by omega) ⟨fun c51 => ?_, fun c51 => ?_⟩
                        · refine kw_aload_n hC dX8_findForms_80 rfl 0 rfl ?_
                          refine kg_30_13 hC w8 f60 dX8_findForms_81 rfl (by decide) (by decide) ?_
                          refine kw_iload_n hC dX8_findForms_84 rfl 2 rfl ?_
                          refine kw_iload hC dX8_findForms_85 rfl 5 rfl ?_
                          refine ks_53 hC dX8_findForms_87 rfl (by decide) (by decide) (by omega) (by omega) ?_
                          refine kw_hv hfW48 (by unfold fQ; omega) (fun S10 hfS10 hv10 ho10 => ?_)
                          have hRS10 := hRS.fr (hfS10.mono (fun k i j h => by unfold fQ at h; unfold tR; omega))
                          have hnS10 := hRS10.n
                          have enS10 : S10 30 0 0 = S 30 0 0 := hfS10 30 0 0 (by unfold fQ; omega)
                          have e26_10 : S10 30 0 26 = W48 30 0 26 := ho10 30 0 26 (by omega)
                          replace hfm : FV (S10 65 0) (S10 30 0 26) n (S 30 0 0) := by rw [e26_10]; exact hfm.eq (fun j => ho10 65 0 j (by omega))
                          replace hlg : FV (S10 67 0) m (n + 1) (S 30 0 0) := hlg.eq (fun j => ho10 67 0 j (by omega))
                          have e14_10 : S10 30 0 14 = W48 30 0 14 := ho10 30 0 14 (by omega)
                          have hwv : WV (S10 53 0) (S10 30 0 14) (S10 30 0 0) := ((hx.eq (m' := n) (fun _ _ _ => rfl) (by omega) rfl).add (fun j hj => ho10 53 0 j (by omega)) (by rw [hv10]; omega)).eq (fun _ _ _ => rfl) (by omega) (by omega)
                          refine kw_aload_n hC dX8_findForms_88 rfl 0 rfl ?_
                          refine kw_callV hC (d_X8_isForm hD hRS10 hwv (by omega) (by omega)) gX8_findForms_X8_isForm ⟨_, rfl⟩ rfl (by decide) (by decide) rfl ⟨rfl, rfl⟩ 0 (by decide +kernel) ⟨by decide, by decide⟩ rfl rfl (Nat.le_of_ble_eq_true rfl) dX8_findForms_89 rfl (kd_i (fun r11 S11 hp11 => ?_))
                          obtain ⟨hg11, hp11⟩ := hp11
                          have hfS11 : Fr fQ S S11 := hfS10.trans (hg11.mono (fun k i j h => by unfold fI at h; unfold fQ; omega))
                          have hRS11 := hRS.fr (hfS11.mono (fun k i j h => by unfold fQ at h; unfold tR; omega))
                          have hnS11 := hRS11.n
                          have enS11 : S11 30 0 0 = S 30 0 0 := hfS11 30 0 0 (by unfold fQ; omega)
                          have e26_11 : S11 30 0 26 = S10 30 0 26 := hg11 30 0 26 (by unfold fI; omega)
                          replace hfm : FV (S11 65 0) (S11 30 0 26) n (S 30 0 0) := by rw [e26_11]; exact hfm.eq (fun j => hg11 65 0 j (by unfold fI; omega))
                          replace hlg : FV (S11 67 0) m (n + 1) (S 30 0 0) := hlg.eq (fun j => hg11 67 0 j (by unfold fI; omega))
                          have hwx : WV (S11 53 0) (n + 1) (S 30 0 0) := hwv.eq (fun j _ _ => hg11 53 0 j (by unfold fI; omega)) (by omega) (by omega)
                          refine kw_if_eq (tgt := 141) hC dX8_findForms_92 rfl (by decide) (by omega) ⟨fun c92 => ?_, fun c92 => ?_⟩
                          · refine kw_iinc (lv' := [(5, _), (0, _), (1, _), (2, _), (3, _), (4, _), (6, _)]) hC dX8_findForms_141 rfl 5 rfl (by decide) rfl ?_
                            refine kw_goto (tgt := 29) hC dX8_findForms_144 rfl (by decide) ?_
                            refine kw_lv [1, 2, 3, 4, 5, 0] rfl ?_
                            exact ih29 (s + 1) _ S11 hfS11 (by omega) (by omega) (by omega) (by omega) (by omega) (by omega) (by omega) hfm hlg (by omega)
                          · refine kw_iload_n hC dX8_findForms_95 rfl 3 rfl ?_
                            refine kw_sipush hC dX8_findForms_96 rfl (by decide) ?_
                            refine kw_icmp_ne (tgt := 104) hC dX8_findForms_99 rfl (by decide) (by omega) (by omega) ⟨fun c99 => ?_, fun c99 => ?_⟩
                            · refine kw_iconst hC dX8_findForms_104 rfl ?_
                              refine kw_istore (lv' := [(6, _), (0, _), (1, _), (2, _), (3, _), (4, _), (5, _)]) hC dX8_findForms_105 rfl (by decide) rfl ?_
                              have hL107 : ∀ (n107 : Nat) (k : Int) (W107 : wSt), Fr fQ S W107 → (0 ≤ k) → (k ≤ n + 1) → (i < W107 30 0 26) → (WV (W107 53 0) (n + 1) (S 30 0 0)) → (∀ j, 0 ≤ j → j < k → 0 ≤ W107 67 0 (12 * m + j) ∧ W107 67 0 (12 * m + j) < S 30 0 0) → (0 ≤ W107 30 0 26) → (W107 30 0 26 ≤ 300) → (FV (W107 65 0) (W107 30 0 26) n (S 30 0 0)) → (FV (W107 67 0) m (n + 1) (S 30 0 0)) → n + 1 - k < (n107 : Int) → Wk E g 7 W107 107 [(0, vr g 30 0), (1, vi a), (2, vi n), (3, vi m), (4, vi i), (5, vi s), (6, vi k)] [] := by
                                intro n107
                                induction n107 with
                                | zero => intro k W107 hfW107 k0 k1 i1 hwx hnew m0 m1 hfm hlg hm107; exact absurd hm107 (by omega)
                                | succ n107 ih107 =>
                                  intro k W107 hfW107 k0 k1 i1 hwx hnew m0 m1 hfm hlg hm107
                                  have hRW107 := hRS.fr (hfW107.mono (fun k i j h => by unfold fQ at h; unfold tR; omega))
                                  have hnW107 := hRW107.n
                                  have enW107 : W107 30 0 0 = S 30 0 0 := hfW107 30 0 0 (by unfold fQ; omega)
                                  refine kw_iload hC dX8_findForms_107 rfl 6 rfl ?_
                                  refine kw_iload_n hC dX8_findForms_109 rfl 2 rfl ?_
                                  refine kw_icmp_gt (tgt := 138) hC dX8_findForms_110 rfl (by decide) (by omega) (by omega) ⟨fun c110 => ?_, fun c110 => ?_⟩
                                  · have hlg : FV (W107 67 0) (m + 1) (n + 1) (S 30 0 0) := fun p q p0 p1 u0 u1 => by rcases Decidable.em (p = m) with e | e; exact (by rw [e]; exact hnew q u0 (by omega)); exact hlg p q p0 (by omega) u0 u1
                                    refine kw_iinc (lv' := [(3, _), (0, _), (1, _), (2, _), (4, _), (5, _), (6, _)]) hC dX8_findForms_138 rfl 3 rfl (by decide) rfl ?_
                                    refine kw_iinc (lv' := [(5, _), (3, _), (0, _), (1, _), (2, _), (4, _), (6, _)]) hC dX8_findForms_141 rfl 5 rfl (by decide) rfl ?_
                                    refine kw_goto (tgt := 29) hC dX8_findForms_144 rfl (by decide) ?_
                                    refine kw_lv [2, 3, 4, 1, 5, 0] rfl ?_
                                    exact ih29 (s + 1) _ W107 hfW107 (by omega) (by omega) (by omega) (by omega) (by omega) (by omega) (by omega) hfm hlg (by omega)
                                  · refine kw_aload_n hC dX8_findForms_113 rfl 0 rfl ?_
                                    refine kg_30_27 hC w8 f215 dX8_findForms_114 rfl (by decide) (by decide) ?_
                                    refine kw_bipush hC dX8_findForms_117 rfl (by decide) ?_
                                    refine kw_iload_n hC dX8_findForms_119 rfl 3 rfl ?_
                                    refine kw_imul hC dX8_findForms_120 rfl ?_
                                    refine kw_iload hC dX8_findForms_121 rfl 6 rfl ?_
                                    refine kw_iadd hC dX8_findForms_123 rfl ?_
                                    refine kw_aload_n hC dX8_findForms_124 rfl 0 rfl ?_
                                    refine kg_30_13 hC w8 f60 dX8_findForms_125 rfl (by decide) (by decide) ?_
                                    refine kw_iload hC dX8_findForms_128 rfl 6 rfl ?_
                                    refine ka_53 hC dX8_findForms_130 rfl (by decide) (by decide) (by omega) (by omega) ?_
                                    have hlx := hwx k (by omega) (by omega)
                                    refine ks_67 hC dX8_findForms_131 rfl (by decide) (by decide) (by omega) (by omega) ?_
                                    refine kw_hv hfW107 (by unfold fQ; omega) (fun S15 hfS15 hv15 ho15 => ?_)
                                    have hRS15 := hRS.fr (hfS15.mono (fun k i j h => by unfold fQ at h; unfold tR; omega))
                                    have hnS15 := hRS15.n
                                    have enS15 : S15 30 0 0 = S 30 0 0 := hfS15 30 0 0 (by unfold fQ; omega)
                                    have e26_15 : S15 30 0 26 = W107 30 0 26 := ho15 30 0 26 (by omega)
                                    replace hfm : FV (S15 65 0) (S15 30 0 26) n (S 30 0 0) := by rw [e26_15]; exact hfm.eq (fun j => ho15 65 0 j (by omega))
                                    refine kw_iinc (lv' := [(6, _), (0, _), (1, _), (2, _), (3, _), (4, _), (5, _)]) hC dX8_findForms_132 rfl 6 rfl (by decide) rfl ?_
                                    refine kw_goto (tgt := 107) hC dX8_findForms_135 rfl (by decide) ?_
                                    refine kw_lv [1, 2, 3, 4, 5, 6, 0] rfl ?_
                                    exact ih107 (k + 1) S15 hfS15 (by omega) (by omega) (by omega) (hwx.eq (fun j _ _ => ho15 53 0 j (by omega)) rfl rfl) (fun j j0 j1 => by rcases Decidable.em (j = k) with e | e; exact (by rw [e, hv15]; exact hlx); exact (by rw [ho15 67 0 _ (by omega)]; exact hnew j j0 (by omega))) (by omega) (by omega) hfm (fun p q p0 p1 u0 u1 => by rw [ho15 67 0 _ (by omega)]; exact hlg p q p0 p1 u0 u1) (by omega)
                              refine kw_lv [1, 2, 3, 4, 5, 6, 0] rfl ?_
                              exact hL107 14 0 S11 hfS11 (by omega) (by omega) (by omega) hwx (fun j _ _ => by omega) (by omega) (by omega) hfm hlg (by omega)
                            · refine kw_iconst hC dX8_findForms_102 rfl ?_
                              exact hR9.2.1 rfl _ _ _ _ dX8_findForms_103 (by omega) ⟨_, rfl, hfS11, by omega, by omega, fun q => by first | omega | (rw [show a = n by omega]; exact hfm)⟩
                        · refine kw_aload_n hC dX8_findForms_54 rfl 0 rfl ?_
                          refine kg_30_13 hC w8 f60 dX8_findForms_55 rfl (by decide) (by decide) ?_
                          refine kw_iload hC dX8_findForms_58 rfl 6 rfl ?_
                          refine kw_aload_n hC dX8_findForms_60 rfl 0 rfl ?_
                          refine kg_30_25 hC w8 f209 dX8_findForms_61 rfl (by decide) (by decide) ?_
                          refine kw_bipush hC dX8_findForms_64 rfl (by decide) ?_
                          refine kw_iload hC dX8_findForms_66 rfl 4 rfl ?_
                          refine kw_imul hC dX8_findForms_68 rfl ?_
                          refine kw_iload hC dX8_findForms_69 rfl 6 rfl ?_
                          refine kw_iadd hC dX8_findForms_71 rfl ?_
                          refine ka_65 hC dX8_findForms_72 rfl (by decide) (by decide) (by omega) (by omega) ?_
                          have hlx := hfm i k (by omega) (by omega) (by omega) (by omega)
                          refine ks_53 hC dX8_findForms_73 rfl (by decide) (by decide) (by omega) (by omega) ?_
                          refine kw_hv hfW48 (by unfold fQ; omega) (fun S16 hfS16 hv16 ho16 => ?_)
                          have hRS16 := hRS.fr (hfS16.mono (fun k i j h => by unfold fQ at h; unfold tR; omega))
                          have hnS16 := hRS16.n
                          have enS16 : S16 30 0 0 = S 30 0 0 := hfS16 30 0 0 (by unfold fQ; omega)
                          have e26_16 : S16 30 0 26 = W48 30 0 26 := ho16 30 0 26 (by omega)
                          replace hfm : FV (S16 65 0) (S16 30 0 26) n (S 30 0 0) := by rw [e26_16]; exact hfm.eq (fun j => ho16 65 0 j (by omega))
                          replace hlg : FV (S16 67 0) m (n + 1) (S 30 0 0) := hlg.eq (fun j => ho16 67 0 j (by omega))
                          refine kw_iinc (lv' := [(6, _), (0, _), (1, _), (2, _), (3, _), (4, _), (5, _)]) hC dX8_findForms_74 rfl 6 rfl (by decide) rfl ?_
                          refine kw_goto (tgt := 48) hC dX8_findForms_77 rfl (by decide) ?_
                          refine kw_lv [1, 2, 3, 4, 5, 6, 0] rfl ?_
                          exact ih48 (k + 1) S16 hfS16 (by omega) (by omega) (by omega) ((ho16 30 0 14 (by omega)).trans q14) (hx.add (fun j hj => ho16 53 0 j (by omega)) (by rw [hv16]; exact hlx)) (by omega) (by omega) hfm hlg (by omega)
                    refine kw_lv [1, 2, 3, 4, 5, 6, 0] rfl ?_
                    exact hL48 13 0 S8 hfS8 (by omega) (by omega) (by omega) hv8 (fun j _ _ => by omega) (by omega) (by omega) hfm hlg (by omega)
              refine kw_lv [1, 2, 3, 4, 5, 0] rfl ?_
              exact hL29 7 0 _ W17 hfW17 (by omega) (by omega) (by omega) (by omega) (by omega) (by omega) (by omega) hfm hlg (by omega)
        refine kw_lv [2, 3, 4, 1, 0] rfl ?_
        exact hL17 301 0 _ W7 hfW7 (by omega) (by omega) (by omega) (by omega) (by omega) (by omega) hfm (fun i k _ _ _ _ => by omega) (by omega)
  refine kw_lv [1, 2, 0] rfl ?_
  exact hL7 13 0 S1 hfS1 (by omega) (by omega) (by have := hv1; omega) (by have := hv1; omega) (fun i k _ _ _ _ => by omega) (by omega)

set_option maxHeartbeats 4000000 in
set_option maxRecDepth 100000 in
theorem d_X8_forms {g : wG} (hD : wD g) {S : wSt} {a : Int} (ha : -2147483648 ≤ a ∧ a ≤ 2147483647) (hRS : RI S) (l : Launch) : Kt l yX8_forms wsX8_forms ({ frames := 6, cells := 0, slots := 0, locals := 141 } : Room) g S [vr g 30 0, vi a] (pI (fun _ S' => RI S' ∧ Fr tW S S')) := by
  refine Kt.of (cc := cX8_forms) (nL := 2) (ret := (some .int)) (own := RX8) rfl hD (by decide) rfl (Nat.le_of_ble_eq_true rfl) ⟨rfl, rfl⟩ ?_
  intro E hC hR9
  have f206 : Cond.fieldLink RX8 206 "MirrorBenchModel" "formMany" "I" ∈ wsX8_forms := by decide +kernel
  have l218 : Cond.constantLong RX8 218 (Int64.ofInt (12)) ∈ wsX8_forms := by decide +kernel
  have w8 : ∀ w ∈ wsX80, w ∈ wsX8_forms := by decide +kernel
  show Wk E g 2 S 0 [(0, vr g 30 0), (1, vi a)] []
  have hfS : Fr tR S S := Fr.rfl _ S
  have hRS := hRS.fr hfS
  have hnS := hRS.n
  have enS : S 30 0 0 = S 30 0 0 := hfS 30 0 0 (by unfold tR; omega)
  refine kw_iload_n hC dX8_forms_0 rfl 1 rfl ?_
  refine kw_i2l hC dX8_forms_1 rfl (by omega) ?_
  refine kw_lconst (z := 0) hC dX8_forms_2 rfl rfl ?_
  refine kw_ldc2 (z := 12) hC dX8_forms_3 rfl l218 ?_
  refine kw_callS hC (d_X8_in hD (by omega) (by omega) (by omega)) gX8_forms_X8_in rfl ⟨rfl, rfl⟩ 3 (by decide +kernel) ⟨by decide, by decide⟩ rfl rfl (Nat.le_of_ble_eq_true rfl) dX8_forms_6 rfl (kd_ie ?_)
  refine kw_ifne_b (tgt := 14) hC dX8_forms_9 rfl (by decide) ⟨fun c9 => ?_, fun c9 => ?_⟩
  · refine kw_aload_n hC dX8_forms_14 rfl 0 rfl ?_
    refine kw_iload_n hC dX8_forms_15 rfl 1 rfl ?_
    refine kw_callV hC (d_X8_findForms hD (by omega) (by omega) hRS) gX8_forms_X8_findForms ⟨_, rfl⟩ rfl (by decide) (by decide) rfl ⟨rfl, rfl⟩ 1 (by decide +kernel) ⟨by decide, by decide⟩ rfl rfl (Nat.le_of_ble_eq_true rfl) dX8_forms_16 rfl (kd_i (fun r2 S2 hp2 => ?_))
    obtain ⟨hg2, hp2⟩ := hp2
    have hfS2 : Fr tR S S2 := hfS.trans (hg2.mono (fun k i j h => by unfold fQ at h; unfold tR; omega))
    have hRS2 := hRS.fr hfS2
    have hnS2 := hRS2.n
    have enS2 : S2 30 0 0 = S 30 0 0 := hfS2 30 0 0 (by unfold tR; omega)
    obtain ⟨hb2, hm2, -⟩ := hp2
    refine kw_if_eq (tgt := 29) hC dX8_forms_19 rfl (by decide) (by omega) ⟨fun c19 => ?_, fun c19 => ?_⟩
    · refine kw_bipush hC dX8_forms_29 rfl (by decide) ?_
      exact hR9.1 rfl _ _ _ _ dX8_forms_31 (by first | exact ⟨_, rfl, hp9.2.1, (tR_tW hfS2).trans (fV_tW hp9.2.2.1)⟩ | exact ⟨_, rfl, hRS2, tR_tW hfS2⟩)
    · refine kw_aload_n hC dX8_forms_22 rfl 0 rfl ?_
      refine kg_30_26 hC w8 f206 dX8_forms_23 rfl (by decide) (by decide) ?_
      refine kw_goto (tgt := 31) hC dX8_forms_26 rfl (by decide) ?_
      exact hR9.1 rfl _ _ _ _ dX8_forms_31 (by first | exact ⟨_, rfl, hp9.2.1, (tR_tW hfS2).trans (fV_tW hp9.2.2.1)⟩ | exact ⟨_, rfl, hRS2, tR_tW hfS2⟩)
  · refine kw_iconst hC dX8_forms_12 rfl ?_
    exact hR9.1 rfl _ _ _ _ dX8_forms_13 (by first | exact ⟨_, rfl, hp9.2.1, (tR_tW hfS).trans (fV_tW hp9.2.2.1)⟩ | exact ⟨_, rfl, hRS, tR_tW hfS⟩)

set_option maxHeartbeats 4000000 in
set_option maxRecDepth 100000 in
theorem d_X8_next {g : wG} (hD : wD g) {S : wSt} {a b c : Int} (ha : -2147483648 ≤ a ∧ a ≤ 2147483647) (hb : -2147483648 ≤ b ∧ b ≤ 2147483647) (hc : -2147483648 ≤ c ∧ c ≤ 2147483647) (hRS : RI S) (l : Launch) : Kt l yX8_next wsX8_next ({ frames := 6, cells := 0, slots := 0, locals := 141 } : Room) g S [vr g 30 0, vi a, vi b, vi c] (pI (fun _ S' => RI S' ∧ Fr tW S S')) := by
  refine Kt.of (cc := cX8_next) (nL := 5) (ret := (some .int)) (own := RX8) rfl hD (by decide) rfl (Nat.le_of_ble_eq_true rfl) ⟨rfl, rfl⟩ ?_
  intro E hC hR9
  have f57 : Cond.fieldLink RX8 57 "MirrorBenchModel" "wMany" "I" ∈ wsX8_next := by decide +kernel
  have f60 : Cond.fieldLink RX8 60 "MirrorBenchModel" "w" "[I" ∈ wsX8_next := by decide +kernel
  have f206 : Cond.fieldLink RX8 206 "MirrorBenchModel" "formMany" "I" ∈ wsX8_next := by decide +kernel
  have f209 : Cond.fieldLink RX8 209 "MirrorBenchModel" "forms" "[I" ∈ wsX8_next := by decide +kernel
  have l218 : Cond.constantLong RX8 218 (Int64.ofInt (12)) ∈ wsX8_next := by decide +kernel
  have w8 : ∀ w ∈ wsX80, w ∈ wsX8_next := by decide +kernel
  show Wk E g 5 S 0 [(0, vr g 30 0), (1, vi a), (2, vi b), (3, vi c)] []
  have hfS : Fr tR S S := Fr.rfl _ S
  have hRS := hRS.fr hfS
  have hnS := hRS.n
  have enS : S 30 0 0 = S 30 0 0 := hfS 30 0 0 (by unfold tR; omega)
  refine kw_iload_n hC dX8_next_0 rfl 1 rfl ?_
  refine kw_i2l hC dX8_next_1 rfl (by omega) ?_
  refine kw_lconst (z := 0) hC dX8_next_2 rfl rfl ?_
  refine kw_ldc2 (z := 12) hC dX8_next_3 rfl l218 ?_
  refine kw_callS hC (d_X8_in hD (by omega) (by omega) (by omega)) gX8_next_X8_in rfl ⟨rfl, rfl⟩ 3 (by decide +kernel) ⟨by decide, by decide⟩ rfl rfl (Nat.le_of_ble_eq_true rfl) dX8_next_6 rfl (kd_ie ?_)
  refine kw_ifeq_b (tgt := 43) hC dX8_next_9 rfl (by decide) ⟨fun c9 => ?_, fun c9 => ?_⟩
  · refine kw_iconst hC dX8_next_43 rfl ?_
    exact hR9.1 rfl _ _ _ _ dX8_next_44 (by first | exact ⟨_, rfl, hp9.2.1, (tR_tW hfS).trans (fV_tW hp9.2.2.1)⟩ | exact ⟨_, rfl, hRS, tR_tW hfS⟩)
  · refine kw_iload_n hC dX8_next_12 rfl 3 rfl ?_
    refine kw_callS hC (d_X8_isSlot hD (by omega)) gX8_next_X8_isSlot rfl ⟨rfl, rfl⟩ 1 (by decide +kernel) ⟨by decide, by decide⟩ rfl rfl (Nat.le_of_ble_eq_true rfl) dX8_next_13 rfl (kd_ie ?_)
    refine kw_ifeq_b (tgt := 43) hC dX8_next_16 rfl (by decide) ⟨fun c16 => ?_, fun c16 => ?_⟩
    · refine kw_iconst hC dX8_next_43 rfl ?_
      exact hR9.1 rfl _ _ _ _ dX8_next_44 (by first | exact ⟨_, rfl, hp9.2.1, (tR_tW hfS).trans (fV_tW hp9.2.2.1)⟩ | exact ⟨_, rfl, hRS, tR_tW hfS⟩)
    · refine kw_aload_n hC dX8_next_19 rfl 0 rfl ?_
      refine kw_iload_n hC dX8_next_20 rfl 1 rfl ?_
      refine kw_callV hC (d_X8_findForms hD (by omega) (by omega) hRS) gX8_next_X8_findForms ⟨_, rfl⟩ rfl (by decide) (by decide) rfl ⟨rfl, rfl⟩ 1 (by decide +kernel) ⟨by decide, by decide⟩ rfl rfl (Nat.le_of_ble_eq_true rfl) dX8_next_21 rfl (kd_i (fun r3 S3 hp3 => ?_))
      obtain ⟨hg3, hp3⟩ := hp3
      have hfS3 : Fr tR S S3 := hfS.trans (hg3.mono (fun k i j h => by unfold fQ at h; unfold tR; omega))
      have hRS3 := hRS.fr hfS3
      have hnS3 := hRS3.n
      have enS3 : S3 30 0 0 = S 30 0 0 := hfS3 30 0 0 (by unfold tR; omega)
      obtain ⟨hb3, hm3, hq3⟩ := hp3
      have hqq := hq3
      refine kw_if_eq (tgt := 43) hC dX8_next_24 rfl (by decide) (by omega) ⟨fun c24 => ?_, fun c24 => ?_⟩
      · refine kw_iconst hC dX8_next_43 rfl ?_
        exact hR9.1 rfl _ _ _ _ dX8_next_44 (by first | exact ⟨_, rfl, hp9.2.1, (tR_tW hfS3).trans (fV_tW hp9.2.2.1)⟩ | exact ⟨_, rfl, hRS3, tR_tW hfS3⟩)
      · refine kw_iload_n hC dX8_next_27 rfl 2 rfl ?_
        refine kw_i2l hC dX8_next_28 rfl (by omega) ?_
        refine kw_lconst (z := 0) hC dX8_next_29 rfl rfl ?_
        refine kw_aload_n hC dX8_next_30 rfl 0 rfl ?_
        refine kg_30_26 hC w8 f206 dX8_next_31 rfl (by decide) (by decide) ?_
        refine kw_iconst hC dX8_next_34 rfl ?_
        refine kw_isub hC dX8_next_35 rfl ?_
        refine kw_i2l hC dX8_next_36 rfl (by omega) ?_
        refine kw_callS hC (d_X8_in hD (by omega) (by omega) (by omega)) gX8_next_X8_in rfl ⟨rfl, rfl⟩ 3 (by decide +kernel) ⟨by decide, by decide⟩ rfl rfl (Nat.le_of_ble_eq_true rfl) dX8_next_37 rfl (kd_ie ?_)
        refine kw_ifne_b (tgt := 45) hC dX8_next_40 rfl (by decide) ⟨fun c40 => ?_, fun c40 => ?_⟩
        · have hfm := hqq (by omega)
          refine kw_aload_n hC dX8_next_45 rfl 0 rfl ?_
          refine kw_iload_n hC dX8_next_46 rfl 1 rfl ?_
          refine kp_30_14 hC w8 f57 dX8_next_47 rfl (by decide) (by decide) ?_
          refine kw_hv hfS3 (by unfold tR; omega) (fun S6 hfS6 hv6 ho6 => ?_)
          have hRS6 := hRS.fr hfS6
          have hnS6 := hRS6.n
          have enS6 : S6 30 0 0 = S 30 0 0 := hfS6 30 0 0 (by unfold tR; omega)
          have x14 := hv6
          replace hfm : ∀ k, 0 ≤ k → k < a → 0 ≤ S6 65 0 (12 * b + k) ∧ S6 65 0 (12 * b + k) < S 30 0 0 := fun k k0 k1 => by rw [ho6 65 0 _ (by omega)]; exact hfm b k (by omega) (by omega) k0 k1
          refine kw_iconst hC dX8_next_50 rfl ?_
          refine kw_istore (lv' := [(4, _), (0, _), (1, _), (2, _), (3, _)]) hC dX8_next_51 rfl (by decide) rfl ?_
          have hL53 : ∀ (n53 : Nat) (k : Int) (W53 : wSt), Fr tR S W53 → (0 ≤ k) → (k ≤ a) → (W53 30 0 14 = a) → (WV (W53 53 0) k (S 30 0 0)) → (∀ k, 0 ≤ k → k < a → 0 ≤ W53 65 0 (12 * b + k) ∧ W53 65 0 (12 * b + k) < S 30 0 0) → a - k < (n53 : Int) → Wk E g 5 W53 53 [(0, vr g 30 0), (1, vi a), (2, vi b), (3, vi c), (4, vi k)] [] := by
            intro n53
            induction n53 with
            | zero => intro k W53 hfW53 k0 k1 q14 hx hfm hm53; exact absurd hm53 (by omega)
            | succ n53 ih53 =>
              intro k W53 hfW53 k0 k1 q14 hx hfm hm53
              have hRW53 := hRS.fr hfW53
              have hnW53 := hRW53.n
              have enW53 : W53 30 0 0 = S 30 0 0 := hfW53 30 0 0 (by unfold tR; omega)
              refine kw_iload hC dX8_next_53 rfl 4 rfl ?_
              refine kw_iload_n hC dX8_next_55 rfl 1 rfl ?_
              refine kw_icmp_ge (tgt := 84) hC dX8_next_56 rfl (by decide) (by omega) (by omega) ⟨fun c56 => ?_, fun c56 => ?_⟩
              · have hwv : WV (W53 53 0) (W53 30 0 14) (W53 30 0 0) := hx.eq (fun _ _ _ => rfl) (by omega) (by omega)
                refine kw_aload_n hC dX8_next_84 rfl 0 rfl ?_
                refine kw_iload_n hC dX8_next_85 rfl 3 rfl ?_
                refine kw_callV hC (d_X8_store hD (by omega) (by omega) hRW53 hwv (by omega) (by omega)) gX8_next_X8_store ⟨_, rfl⟩ rfl (by decide) (by decide) rfl ⟨rfl, rfl⟩ 1 (by decide +kernel) ⟨by decide, by decide⟩ rfl rfl (Nat.le_of_ble_eq_true rfl) dX8_next_86 rfl (kd_i (fun r9 Sz hp9 => ?_))
                exact hR9.1 rfl _ _ _ _ dX8_next_89 (by first | exact ⟨_, rfl, hp9.2.1, (tR_tW hfW53).trans (fV_tW hp9.2.2.1)⟩ | exact ⟨_, rfl, hRW53, tR_tW hfW53⟩)
              · refine kw_aload_n hC dX8_next_59 rfl 0 rfl ?_
                refine kg_30_13 hC w8 f60 dX8_next_60 rfl (by decide) (by decide) ?_
                refine kw_iload hC dX8_next_63 rfl 4 rfl ?_
                refine kw_aload_n hC dX8_next_65 rfl 0 rfl ?_
                refine kg_30_25 hC w8 f209 dX8_next_66 rfl (by decide) (by decide) ?_
                refine kw_bipush hC dX8_next_69 rfl (by decide) ?_
                refine kw_iload_n hC dX8_next_71 rfl 2 rfl ?_
                refine kw_imul hC dX8_next_72 rfl ?_
                refine kw_iload hC dX8_next_73 rfl 4 rfl ?_
                refine kw_iadd hC dX8_next_75 rfl ?_
                refine ka_65 hC dX8_next_76 rfl (by decide) (by decide) (by omega) (by omega) ?_
                have hlx := hfm k (by omega) (by omega)
                refine ks_53 hC dX8_next_77 rfl (by decide) (by decide) (by omega) (by omega) ?_
                refine kw_hv hfW53 (by unfold tR; omega) (fun S8 hfS8 hv8 ho8 => ?_)
                have hRS8 := hRS.fr hfS8
                have hnS8 := hRS8.n
                have enS8 : S8 30 0 0 = S 30 0 0 := hfS8 30 0 0 (by unfold tR; omega)
                refine kw_iinc (lv' := [(4, _), (0, _), (1, _), (2, _), (3, _)]) hC dX8_next_78 rfl 4 rfl (by decide) rfl ?_
                refine kw_goto (tgt := 53) hC dX8_next_81 rfl (by decide) ?_
                refine kw_lv [1, 2, 3, 4, 0] rfl ?_
                exact ih53 (k + 1) S8 hfS8 (by omega) (by omega) ((ho8 30 0 14 (by omega)).trans q14) (hx.add (fun j hj => ho8 53 0 j (by omega)) (by rw [hv8]; exact hlx)) (fun k k0 k1 => by rw [ho8 65 0 _ (by omega)]; exact hfm k k0 k1) (by omega)
          refine kw_lv [1, 2, 3, 4, 0] rfl ?_
          exact hL53 13 0 S6 hfS6 (by omega) (by omega) (by omega) (fun j _ _ => by omega) hfm (by omega)
        · refine kw_iconst hC dX8_next_43 rfl ?_
          exact hR9.1 rfl _ _ _ _ dX8_next_44 (by first | exact ⟨_, rfl, hp9.2.1, (tR_tW hfS3).trans (fV_tW hp9.2.2.1)⟩ | exact ⟨_, rfl, hRS3, tR_tW hfS3⟩)
