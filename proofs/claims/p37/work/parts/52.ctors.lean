set_option maxHeartbeats 4000000 in
set_option maxRecDepth 100000 in
/-- Word() -/
theorem cn_X6_init {g : wG} (hD : wD g) {ce0 : Nat → Int → va_E} {N : Nat} {i : Int} (h0 : 0 ≤ i) (h1 : i < 12) (hce : ce0 1 i = .inr (6, [vr g 2 i, vi 0])) (hc2 : ce0 2 i = ka_i g 100 (fun _ => 0)) (ha : g.2.2 2 i = N) (hb : g.2.2 1 i < N) (l : Launch) : Kn l yX6_init wsX6_init ({ frames := 1, cells := 1, slots := 100, locals := 12 } : Room) g (upE ce0 1 i (.inr (6, [.null, vi 0]))) N [vr g 1 i] ce0 (N + 1) 1 100 := by
  refine Kn.of (cc := cX6_init) (nL := 1) (own := RX6) rfl hD (by decide) rfl (Nat.le_of_ble_eq_true rfl) rfl ?_
  intro E hC hY hR
  have f9 : Cond.fieldLink RX6 9 "MirrorBench$Word" "mirrors" "[I" ∈ wsX6_init := by decide +kernel
  have w6 : ∀ w ∈ wsX60, w ∈ wsX6_init := by decide +kernel
  show Wc E g 1 (upE ce0 1 i (.inr (6, [.null, vi 0]))) N 0 0 0 [(0, vr g 1 i)] []
  refine kc_aload_n hC dX6_init_0 rfl 0 rfl ?_
  refine kc_obj hC (by decide +kernel) (by decide +kernel) (by decide +kernel) (Nat.le_of_ble_eq_true rfl) (Nat.le_of_ble_eq_true rfl) dX6_init_1 rfl ?_
  refine kc_aload_n hC dX6_init_4 rfl 0 rfl ?_
  refine kc_bipush hC dX6_init_5 rfl (by decide) ?_
  refine kc_newi (k := 2) (i := i) (n := 100) hC (by decide +kernel) rfl (Nat.le_of_ble_eq_true rfl) (by omega) (by omega) (show (_ : Int) < 12 by omega) (by rw [upE_n _ _ (fun q => absurd q.1 (by decide))]; exact hc2) (Nat.le_of_ble_eq_true rfl) (Nat.le_of_ble_eq_true rfl) dX6_init_7 rfl ?_
  refine kc_N (N' := N + 1) (c' := 1) (s' := 100) rfl rfl rfl ?_
  refine kc_put (f := 0) (ty := .array .int) (v := vr g 2 i) hC hY w6 tyX6 tyX6_ok nmX6 (upE_s _ _ _ _) rfl (by decide) f9 rfl rfl rfl (by decide +kernel) rfl rfl (Nat.le_of_ble_eq_true rfl) (by omega) (show (_ : Int) < 12 by omega) (Nat.lt_add_right _ hb) dX6_init_9 rfl ?_
  refine kc_chC (ce' := upE ce0 1 i (.inr (6, [vr g 2 i, vi 0]))) (upE_up _ _ _ _ _) ?_
  refine kc_chC (upE_id hce) ?_
  exact hR _ _ dX6_init_12

set_option maxHeartbeats 4000000 in
set_option maxRecDepth 100000 in
/-- Mirrors() -/
theorem cn_X3_init {g : wG} (hD : wD g) {ce0 : Nat → Int → va_E} {N : Nat} {i : Int} (h0 : 0 ≤ i) (h1 : i < 17) (hce : ce0 3 i = .inr (3, [vr g 4 i, vr g 5 i, vi 0])) (hc4 : ce0 4 i = ka_i g 6 (fun _ => 0)) (hc5 : ce0 5 i = ka_i g 36 (fun _ => 0)) (ha : g.2.2 4 i = N) (ha2 : g.2.2 5 i = N + 1) (hb : g.2.2 3 i < N) (l : Launch) : Kn l yX3_init wsX3_init ({ frames := 1, cells := 2, slots := 42, locals := 12 } : Room) g (upE ce0 3 i (.inr (3, [.null, .null, vi 0]))) N [vr g 3 i] ce0 (N + 2) 2 42 := by
  refine Kn.of (cc := cX3_init) (nL := 1) (own := RX3) rfl hD (by decide) rfl (Nat.le_of_ble_eq_true rfl) rfl ?_
  intro E hC hY hR
  have f9 : Cond.fieldLink RX3 9 "MirrorBench$Mirrors" "kinds" "[I" ∈ wsX3_init := by decide +kernel
  have f15 : Cond.fieldLink RX3 15 "MirrorBench$Mirrors" "numbers" "[I" ∈ wsX3_init := by decide +kernel
  have w3 : ∀ w ∈ wsX30, w ∈ wsX3_init := by decide +kernel
  show Wc E g 1 (upE ce0 3 i (.inr (3, [.null, .null, vi 0]))) N 0 0 0 [(0, vr g 3 i)] []
  refine kc_aload_n hC dX3_init_0 rfl 0 rfl ?_
  refine kc_obj hC (by decide +kernel) (by decide +kernel) (by decide +kernel) (Nat.le_of_ble_eq_true rfl) (Nat.le_of_ble_eq_true rfl) dX3_init_1 rfl ?_
  refine kc_aload_n hC dX3_init_4 rfl 0 rfl ?_
  refine kc_bipush hC dX3_init_5 rfl (by decide) ?_
  refine kc_newi (k := 4) (i := i) (n := 6) hC (by decide +kernel) rfl (Nat.le_of_ble_eq_true rfl) (by omega) (by omega) (show (_ : Int) < 17 by omega) (by rw [upE_n _ _ (fun q => absurd q.1 (by decide))]; exact hc4) (Nat.le_of_ble_eq_true rfl) (Nat.le_of_ble_eq_true rfl) dX3_init_7 rfl ?_
  refine kc_N (N' := N + 1) (c' := 1) (s' := 6) rfl rfl rfl ?_
  refine kc_put (f := 0) (ty := .array .int) (v := vr g 4 i) hC hY w3 tyX3 tyX3_ok nmX3 (upE_s _ _ _ _) rfl (by decide) f9 rfl rfl rfl (by decide +kernel) rfl rfl (Nat.le_of_ble_eq_true rfl) (by omega) (show (_ : Int) < 17 by omega) (Nat.lt_add_right _ hb) dX3_init_9 rfl ?_
  refine kc_chC (ce' := upE ce0 3 i (.inr (3, [vr g 4 i, .null, vi 0]))) (upE_up _ _ _ _ _) ?_
  refine kc_aload_n hC dX3_init_12 rfl 0 rfl ?_
  refine kc_bipush hC dX3_init_13 rfl (by decide) ?_
  refine kc_newi (k := 5) (i := i) (n := 36) hC (by decide +kernel) rfl (Nat.le_of_ble_eq_true rfl) (by omega) (by omega) (show (_ : Int) < 17 by omega) (by rw [upE_n _ _ (fun q => absurd q.1 (by decide))]; exact hc5) (Nat.le_of_ble_eq_true rfl) (Nat.le_of_ble_eq_true rfl) dX3_init_15 rfl ?_
  refine kc_N (N' := N + 2) (c' := 2) (s' := 42) rfl rfl rfl ?_
  refine kc_put (f := 1) (ty := .array .int) (v := vr g 5 i) hC hY w3 tyX3 tyX3_ok nmX3 (upE_s _ _ _ _) rfl (by decide) f15 rfl rfl rfl (by decide +kernel) rfl rfl (Nat.le_of_ble_eq_true rfl) (by omega) (show (_ : Int) < 17 by omega) (Nat.lt_add_right _ hb) dX3_init_17 rfl ?_
  refine kc_chC (ce' := upE ce0 3 i (.inr (3, [vr g 4 i, vr g 5 i, vi 0]))) (upE_up _ _ _ _ _) ?_
  refine kc_chC (upE_id hce) ?_
  exact hR _ _ dX3_init_20

set_option maxHeartbeats 4000000 in
set_option maxRecDepth 100000 in
/-- Leaf() -/
theorem cn_X2_init {g : wG} (hD : wD g) {ce0 : Nat → Int → va_E} {N : Nat} {i : Int} (h0 : 0 ≤ i) (h1 : i < 4) (hce : ce0 6 i = .inr (2, [vr g 7 i, vi 0, vi 0, vi 0])) (hc7 : ce0 7 i = ka_l g 40 (fun _ => 0)) (ha : g.2.2 7 i = N) (hb : g.2.2 6 i < N) (l : Launch) : Kn l yX2_init wsX2_init ({ frames := 1, cells := 1, slots := 40, locals := 12 } : Room) g (upE ce0 6 i (.inr (2, [.null, vi 0, vi 0, vi 0]))) N [vr g 6 i] ce0 (N + 1) 1 40 := by
  refine Kn.of (cc := cX2_init) (nL := 1) (own := RX2) rfl hD (by decide) rfl (Nat.le_of_ble_eq_true rfl) rfl ?_
  intro E hC hY hR
  have f9 : Cond.fieldLink RX2 9 "MirrorBench$Leaf" "items" "[J" ∈ wsX2_init := by decide +kernel
  have w2 : ∀ w ∈ wsX20, w ∈ wsX2_init := by decide +kernel
  show Wc E g 1 (upE ce0 6 i (.inr (2, [.null, vi 0, vi 0, vi 0]))) N 0 0 0 [(0, vr g 6 i)] []
  refine kc_aload_n hC dX2_init_0 rfl 0 rfl ?_
  refine kc_obj hC (by decide +kernel) (by decide +kernel) (by decide +kernel) (Nat.le_of_ble_eq_true rfl) (Nat.le_of_ble_eq_true rfl) dX2_init_1 rfl ?_
  refine kc_aload_n hC dX2_init_4 rfl 0 rfl ?_
  refine kc_bipush hC dX2_init_5 rfl (by decide) ?_
  refine kc_newl (k := 7) (i := i) (n := 40) hC (by decide +kernel) rfl (Nat.le_of_ble_eq_true rfl) (by omega) (by omega) (show (_ : Int) < 4 by omega) (by rw [upE_n _ _ (fun q => absurd q.1 (by decide))]; exact hc7) (Nat.le_of_ble_eq_true rfl) (Nat.le_of_ble_eq_true rfl) dX2_init_7 rfl ?_
  refine kc_N (N' := N + 1) (c' := 1) (s' := 40) rfl rfl rfl ?_
  refine kc_put (f := 0) (ty := .array .long) (v := vr g 7 i) hC hY w2 tyX2 tyX2_ok nmX2 (upE_s _ _ _ _) rfl (by decide) f9 rfl rfl rfl (by decide +kernel) rfl rfl (Nat.le_of_ble_eq_true rfl) (by omega) (show (_ : Int) < 4 by omega) (Nat.lt_add_right _ hb) dX2_init_9 rfl ?_
  refine kc_chC (ce' := upE ce0 6 i (.inr (2, [vr g 7 i, vi 0, vi 0, vi 0]))) (upE_up _ _ _ _ _) ?_
  refine kc_chC (upE_id hce) ?_
  exact hR _ _ dX2_init_12

set_option maxHeartbeats 4000000 in
set_option maxRecDepth 100000 in
/-- RootList() -/
theorem cn_X4_init {g : wG} (hD : wD g) {ce0 : Nat → Int → va_E} {N : Nat} (hce : ce0 12 0 = .inr (4, [vr g 3 16, vr g 13 0, vr g 14 0, vr g 15 0, vi 0, vi 0])) (hc13 : ce0 13 0 = ka_l g 400 (fun _ => 0)) (hc14 : ce0 14 0 = ka_l g 400 (fun _ => 0)) (hc15 : ce0 15 0 = ka_i g 42 (fun _ => 0)) (ha : g.2.2 13 0 = N) (ha2 : g.2.2 14 0 = N + 1) (ha3 : g.2.2 15 0 = N + 2) (hb : g.2.2 12 0 < N) (l : Launch) : Kn l yX4_init wsX4_init ({ frames := 1, cells := 3, slots := 842, locals := 12 } : Room) g (upE ce0 12 0 (.inr (4, [.null, .null, .null, .null, vi 0, vi 0]))) N [vr g 12 0, vr g 3 16] ce0 (N + 3) 3 842 := by
  refine Kn.of (cc := cX4_init) (nL := 2) (own := RX4) rfl hD (by decide) rfl (Nat.le_of_ble_eq_true rfl) rfl ?_
  intro E hC hY hR
  have f11 : Cond.fieldLink RX4 11 "MirrorBench$RootList" "keys" "[J" ∈ wsX4_init := by decide +kernel
  have f15 : Cond.fieldLink RX4 15 "MirrorBench$RootList" "ups" "[J" ∈ wsX4_init := by decide +kernel
  have f18 : Cond.fieldLink RX4 18 "MirrorBench$RootList" "firsts" "[I" ∈ wsX4_init := by decide +kernel
  have f22 : Cond.fieldLink RX4 22 "MirrorBench$RootList" "set" "LMirrorBench$Mirrors;" ∈ wsX4_init := by decide +kernel
  have w4 : ∀ w ∈ wsX40, w ∈ wsX4_init := by decide +kernel
  show Wc E g 2 (upE ce0 12 0 (.inr (4, [.null, .null, .null, .null, vi 0, vi 0]))) N 0 0 0 [(0, vr g 12 0), (1, vr g 3 16)] []
  refine kc_aload_n hC dX4_init_0 rfl 0 rfl ?_
  refine kc_obj hC (by decide +kernel) (by decide +kernel) (by decide +kernel) (Nat.le_of_ble_eq_true rfl) (Nat.le_of_ble_eq_true rfl) dX4_init_1 rfl ?_
  refine kc_aload_n hC dX4_init_4 rfl 0 rfl ?_
  refine kc_sipush hC dX4_init_5 rfl (by decide) ?_
  refine kc_newl (k := 13) (i := 0) (n := 400) hC (by decide +kernel) rfl (Nat.le_of_ble_eq_true rfl) (by omega) (by decide) (by decide) (by rw [upE_n _ _ (fun q => absurd q.1 (by decide))]; exact hc13) (Nat.le_of_ble_eq_true rfl) (Nat.le_of_ble_eq_true rfl) dX4_init_8 rfl ?_
  refine kc_N (N' := N + 1) (c' := 1) (s' := 400) rfl rfl rfl ?_
  refine kc_put (f := 1) (ty := .array .long) (v := vr g 13 0) hC hY w4 tyX4 tyX4_ok nmX4 (upE_s _ _ _ _) rfl (by decide) f11 rfl rfl rfl (by decide +kernel) rfl rfl (Nat.le_of_ble_eq_true rfl) (by decide) (by decide) (Nat.lt_add_right _ hb) dX4_init_10 rfl ?_
  refine kc_chC (ce' := upE ce0 12 0 (.inr (4, [.null, vr g 13 0, .null, .null, vi 0, vi 0]))) (upE_up _ _ _ _ _) ?_
  refine kc_aload_n hC dX4_init_13 rfl 0 rfl ?_
  refine kc_sipush hC dX4_init_14 rfl (by decide) ?_
  refine kc_newl (k := 14) (i := 0) (n := 400) hC (by decide +kernel) rfl (Nat.le_of_ble_eq_true rfl) (by omega) (by decide) (by decide) (by rw [upE_n _ _ (fun q => absurd q.1 (by decide))]; exact hc14) (Nat.le_of_ble_eq_true rfl) (Nat.le_of_ble_eq_true rfl) dX4_init_17 rfl ?_
  refine kc_N (N' := N + 2) (c' := 2) (s' := 800) rfl rfl rfl ?_
  refine kc_put (f := 2) (ty := .array .long) (v := vr g 14 0) hC hY w4 tyX4 tyX4_ok nmX4 (upE_s _ _ _ _) rfl (by decide) f15 rfl rfl rfl (by decide +kernel) rfl rfl (Nat.le_of_ble_eq_true rfl) (by decide) (by decide) (Nat.lt_add_right _ hb) dX4_init_19 rfl ?_
  refine kc_chC (ce' := upE ce0 12 0 (.inr (4, [.null, vr g 13 0, vr g 14 0, .null, vi 0, vi 0]))) (upE_up _ _ _ _ _) ?_
  refine kc_aload_n hC dX4_init_22 rfl 0 rfl ?_
  refine kc_bipush hC dX4_init_23 rfl (by decide) ?_
  refine kc_newi (k := 15) (i := 0) (n := 42) hC (by decide +kernel) rfl (Nat.le_of_ble_eq_true rfl) (by omega) (by decide) (by decide) (by rw [upE_n _ _ (fun q => absurd q.1 (by decide))]; exact hc15) (Nat.le_of_ble_eq_true rfl) (Nat.le_of_ble_eq_true rfl) dX4_init_25 rfl ?_
  refine kc_N (N' := N + 3) (c' := 3) (s' := 842) rfl rfl rfl ?_
  refine kc_put (f := 3) (ty := .array .int) (v := vr g 15 0) hC hY w4 tyX4 tyX4_ok nmX4 (upE_s _ _ _ _) rfl (by decide) f18 rfl rfl rfl (by decide +kernel) rfl rfl (Nat.le_of_ble_eq_true rfl) (by decide) (by decide) (Nat.lt_add_right _ hb) dX4_init_27 rfl ?_
  refine kc_chC (ce' := upE ce0 12 0 (.inr (4, [.null, vr g 13 0, vr g 14 0, vr g 15 0, vi 0, vi 0]))) (upE_up _ _ _ _ _) ?_
  refine kc_aload_n hC dX4_init_30 rfl 0 rfl ?_
  refine kc_aload_n hC dX4_init_31 rfl 1 rfl ?_
  refine kc_put (f := 0) (ty := .object "MirrorBench$Mirrors") (v := vr g 3 16) hC hY w4 tyX4 tyX4_ok nmX4 (upE_s _ _ _ _) rfl (by decide) f22 rfl rfl rfl (by decide +kernel) rfl rfl (Nat.le_of_ble_eq_true rfl) (by decide) (by decide) (Nat.lt_add_right _ hb) dX4_init_32 rfl ?_
  refine kc_chC (ce' := upE ce0 12 0 (.inr (4, [vr g 3 16, vr g 13 0, vr g 14 0, vr g 15 0, vi 0, vi 0]))) (upE_up _ _ _ _ _) ?_
  refine kc_chC (upE_id hce) ?_
  exact hR _ _ dX4_init_35

set_option maxHeartbeats 4000000 in
set_option maxRecDepth 100000 in
/-- Shortener() -/
theorem cn_X5_init {g : wG} (hD : wD g) {ce0 : Nat → Int → va_E} {N : Nat} (hce : ce0 10 0 = .inr (5, [vr g 3 16, vr g 11 0, vr g 1 11])) (hc11 : ce0 11 0 = ka_l g 6 (fun _ => 0)) (hc1 : ce0 1 11 = .inr (6, [vr g 2 11, vi 0])) (hc2 : ce0 2 11 = ka_i g 100 (fun _ => 0)) (ha : g.2.2 11 0 = N) (ha2 : g.2.2 1 11 = N + 1) (ha3 : g.2.2 2 11 = N + 2) (hb : g.2.2 10 0 < N) (l : Launch) : Kn l yX5_init wsX5_init ({ frames := 2, cells := 3, slots := 108, locals := 32 } : Room) g (upE ce0 10 0 (.inr (5, [.null, .null, .null]))) N [vr g 10 0, vr g 3 16] ce0 (N + 3) 3 108 := by
  refine Kn.of (cc := cX5_init) (nL := 2) (own := RX5) rfl hD (by decide) rfl (Nat.le_of_ble_eq_true rfl) rfl ?_
  intro E hC hY hR
  have f9 : Cond.fieldLink RX5 9 "MirrorBench$Shortener" "root" "[J" ∈ wsX5_init := by decide +kernel
  have f18 : Cond.fieldLink RX5 18 "MirrorBench$Shortener" "rest" "LMirrorBench$Word;" ∈ wsX5_init := by decide +kernel
  have f22 : Cond.fieldLink RX5 22 "MirrorBench$Shortener" "set" "LMirrorBench$Mirrors;" ∈ wsX5_init := by decide +kernel
  have w5 : ∀ w ∈ wsX50, w ∈ wsX5_init := by decide +kernel
  show Wc E g 2 (upE ce0 10 0 (.inr (5, [.null, .null, .null]))) N 0 0 0 [(0, vr g 10 0), (1, vr g 3 16)] []
  refine kc_aload_n hC dX5_init_0 rfl 0 rfl ?_
  refine kc_obj hC (by decide +kernel) (by decide +kernel) (by decide +kernel) (Nat.le_of_ble_eq_true rfl) (Nat.le_of_ble_eq_true rfl) dX5_init_1 rfl ?_
  refine kc_aload_n hC dX5_init_4 rfl 0 rfl ?_
  refine kc_bipush hC dX5_init_5 rfl (by decide) ?_
  refine kc_newl (k := 11) (i := 0) (n := 6) hC (by decide +kernel) rfl (Nat.le_of_ble_eq_true rfl) (by omega) (by decide) (by decide) (by rw [upE_n _ _ (fun q => absurd q.1 (by decide))]; exact hc11) (Nat.le_of_ble_eq_true rfl) (Nat.le_of_ble_eq_true rfl) dX5_init_7 rfl ?_
  refine kc_N (N' := N + 1) (c' := 1) (s' := 6) rfl rfl rfl ?_
  refine kc_put (f := 1) (ty := .array .long) (v := vr g 11 0) hC hY w5 tyX5 tyX5_ok nmX5 (upE_s _ _ _ _) rfl (by decide) f9 rfl rfl rfl (by decide +kernel) rfl rfl (Nat.le_of_ble_eq_true rfl) (by decide) (by decide) (Nat.lt_add_right _ hb) dX5_init_9 rfl ?_
  refine kc_chC (ce' := upE ce0 10 0 (.inr (5, [.null, vr g 11 0, .null]))) (upE_up _ _ _ _ _) ?_
  refine kc_aload_n hC dX5_init_12 rfl 0 rfl ?_
  refine kc_new (k := 1) (i := 11) (ci := 6) (C := RX6) (T := TX6) (Nf := 2) (fs := [.null, vi 0]) hC (by decide +kernel) tyX6 tyX6_ok (by decide +kernel) (by decide +kernel) (by decide +kernel) rfl (fun j hj => by rcases (show j = 0 ∨ j = 1 by omega) with rfl | rfl <;> rfl) (by omega) (by decide) (by decide) (Nat.le_of_ble_eq_true rfl) (Nat.le_of_ble_eq_true rfl) dX5_init_13 rfl ?_
  refine kc_N (N' := N + 2) (c' := 2) (s' := 8) rfl rfl rfl ?_
  refine kc_dup hC dX5_init_16 rfl rfl ?_
  refine kc_callIN (host := RX7) hC hY (cn_X6_init hD (by omega) (by omega) (by rw [upE_n _ _ (fun q => absurd q.1 (by decide))]; exact hc1) (by rw [upE_n _ _ (fun q => absurd q.1 (by decide))]; exact hc2) (by omega) (by omega)) (by decide +kernel) ggX5_init_X6_init (by decide +kernel) (by decide +kernel) rfl ⟨rfl, rfl⟩ 0 rfl (by decide +kernel) ⟨by decide, by decide⟩ rfl rfl (Nat.le_of_ble_eq_true rfl) ⟨Nat.le_of_ble_eq_true rfl, Nat.le_of_ble_eq_true rfl⟩ dX5_init_17 rfl ?_
  refine kc_N (N' := N + 3) (c' := 3) (s' := 108) rfl rfl rfl ?_
  refine kc_put (f := 2) (ty := .object "MirrorBench$Word") (v := vr g 1 11) hC hY w5 tyX5 tyX5_ok nmX5 (upE_s _ _ _ _) rfl (by decide) f18 rfl rfl rfl (by decide +kernel) rfl rfl (Nat.le_of_ble_eq_true rfl) (by decide) (by decide) (Nat.lt_add_right _ hb) dX5_init_20 rfl ?_
  refine kc_chC (ce' := upE ce0 10 0 (.inr (5, [.null, vr g 11 0, vr g 1 11]))) (upE_up _ _ _ _ _) ?_
  refine kc_aload_n hC dX5_init_23 rfl 0 rfl ?_
  refine kc_aload_n hC dX5_init_24 rfl 1 rfl ?_
  refine kc_put (f := 0) (ty := .object "MirrorBench$Mirrors") (v := vr g 3 16) hC hY w5 tyX5 tyX5_ok nmX5 (upE_s _ _ _ _) rfl (by decide) f22 rfl rfl rfl (by decide +kernel) rfl rfl (Nat.le_of_ble_eq_true rfl) (by decide) (by decide) (Nat.lt_add_right _ hb) dX5_init_25 rfl ?_
  refine kc_chC (ce' := upE ce0 10 0 (.inr (5, [vr g 3 16, vr g 11 0, vr g 1 11]))) (upE_up _ _ _ _ _) ?_
  refine kc_chC (upE_id hce) ?_
  exact hR _ _ dX5_init_28

set_option maxHeartbeats 4000000 in
set_option maxRecDepth 100000 in
/-- FormList() -/
theorem cn_X0_init {g : wG} (hD : wD g) {ce0 : Nat → Int → va_E} {N : Nat} (hce : ce0 16 0 = .inr (0, [vr g 3 16, vr g 17 0, vr g 18 0, vr g 19 0, vi 0, vi 0])) (hc17 : ce0 17 0 = ka_i g 3600 (fun _ => 0)) (hc18 : ce0 18 0 = ka_i g 13 (fun _ => 0)) (hc19 : ce0 19 0 = ka_l g 6 (fun _ => 0)) (ha : g.2.2 17 0 = N) (ha2 : g.2.2 18 0 = N + 1) (ha3 : g.2.2 19 0 = N + 2) (hb : g.2.2 16 0 < N) (l : Launch) : Kn l yX0_init wsX0_init ({ frames := 1, cells := 3, slots := 3619, locals := 12 } : Room) g (upE ce0 16 0 (.inr (0, [.null, .null, .null, .null, vi 0, vi 0]))) N [vr g 16 0, vr g 3 16] (upE ce0 18 0 (ka_i g 13 (fun j => if j = 0 then 1 else 0))) (N + 3) 3 3619 := by
  refine Kn.of (cc := cX0_init) (nL := 2) (own := RX0) rfl hD (by decide) rfl (Nat.le_of_ble_eq_true rfl) rfl ?_
  intro E hC hY hR
  have f11 : Cond.fieldLink RX0 11 "MirrorBench$FormList" "codes" "[I" ∈ wsX0_init := by decide +kernel
  have f15 : Cond.fieldLink RX0 15 "MirrorBench$FormList" "counts" "[I" ∈ wsX0_init := by decide +kernel
  have f18 : Cond.fieldLink RX0 18 "MirrorBench$FormList" "root" "[J" ∈ wsX0_init := by decide +kernel
  have f22 : Cond.fieldLink RX0 22 "MirrorBench$FormList" "set" "LMirrorBench$Mirrors;" ∈ wsX0_init := by decide +kernel
  have w0 : ∀ w ∈ wsX00, w ∈ wsX0_init := by decide +kernel
  show Wc E g 2 (upE ce0 16 0 (.inr (0, [.null, .null, .null, .null, vi 0, vi 0]))) N 0 0 0 [(0, vr g 16 0), (1, vr g 3 16)] []
  refine kc_aload_n hC dX0_init_0 rfl 0 rfl ?_
  refine kc_obj hC (by decide +kernel) (by decide +kernel) (by decide +kernel) (Nat.le_of_ble_eq_true rfl) (Nat.le_of_ble_eq_true rfl) dX0_init_1 rfl ?_
  refine kc_aload_n hC dX0_init_4 rfl 0 rfl ?_
  refine kc_sipush hC dX0_init_5 rfl (by decide) ?_
  refine kc_newi (k := 17) (i := 0) (n := 3600) hC (by decide +kernel) rfl (Nat.le_of_ble_eq_true rfl) (by omega) (by decide) (by decide) (by rw [upE_n _ _ (fun q => absurd q.1 (by decide))]; exact hc17) (Nat.le_of_ble_eq_true rfl) (Nat.le_of_ble_eq_true rfl) dX0_init_8 rfl ?_
  refine kc_N (N' := N + 1) (c' := 1) (s' := 3600) rfl rfl rfl ?_
  refine kc_put (f := 1) (ty := .array .int) (v := vr g 17 0) hC hY w0 tyX0 tyX0_ok nmX0 (upE_s _ _ _ _) rfl (by decide) f11 rfl rfl rfl (by decide +kernel) rfl rfl (Nat.le_of_ble_eq_true rfl) (by decide) (by decide) (Nat.lt_add_right _ hb) dX0_init_10 rfl ?_
  refine kc_chC (ce' := upE ce0 16 0 (.inr (0, [.null, vr g 17 0, .null, .null, vi 0, vi 0]))) (upE_up _ _ _ _ _) ?_
  refine kc_aload_n hC dX0_init_13 rfl 0 rfl ?_
  refine kc_bipush hC dX0_init_14 rfl (by decide) ?_
  refine kc_newi (k := 18) (i := 0) (n := 13) hC (by decide +kernel) rfl (Nat.le_of_ble_eq_true rfl) (by omega) (by decide) (by decide) (by rw [upE_n _ _ (fun q => absurd q.1 (by decide))]; exact hc18) (Nat.le_of_ble_eq_true rfl) (Nat.le_of_ble_eq_true rfl) dX0_init_16 rfl ?_
  refine kc_N (N' := N + 2) (c' := 2) (s' := 3613) rfl rfl rfl ?_
  refine kc_put (f := 2) (ty := .array .int) (v := vr g 18 0) hC hY w0 tyX0 tyX0_ok nmX0 (upE_s _ _ _ _) rfl (by decide) f15 rfl rfl rfl (by decide +kernel) rfl rfl (Nat.le_of_ble_eq_true rfl) (by decide) (by decide) (Nat.lt_add_right _ hb) dX0_init_18 rfl ?_
  refine kc_chC (ce' := upE ce0 16 0 (.inr (0, [.null, vr g 17 0, vr g 18 0, .null, vi 0, vi 0]))) (upE_up _ _ _ _ _) ?_
  refine kc_aload_n hC dX0_init_21 rfl 0 rfl ?_
  refine kc_bipush hC dX0_init_22 rfl (by decide) ?_
  refine kc_newl (k := 19) (i := 0) (n := 6) hC (by decide +kernel) rfl (Nat.le_of_ble_eq_true rfl) (by omega) (by decide) (by decide) (by rw [upE_n _ _ (fun q => absurd q.1 (by decide))]; exact hc19) (Nat.le_of_ble_eq_true rfl) (Nat.le_of_ble_eq_true rfl) dX0_init_24 rfl ?_
  refine kc_N (N' := N + 3) (c' := 3) (s' := 3619) rfl rfl rfl ?_
  refine kc_put (f := 3) (ty := .array .long) (v := vr g 19 0) hC hY w0 tyX0 tyX0_ok nmX0 (upE_s _ _ _ _) rfl (by decide) f18 rfl rfl rfl (by decide +kernel) rfl rfl (Nat.le_of_ble_eq_true rfl) (by decide) (by decide) (Nat.lt_add_right _ hb) dX0_init_26 rfl ?_
  refine kc_chC (ce' := upE ce0 16 0 (.inr (0, [.null, vr g 17 0, vr g 18 0, vr g 19 0, vi 0, vi 0]))) (upE_up _ _ _ _ _) ?_
  refine kc_aload_n hC dX0_init_29 rfl 0 rfl ?_
  refine kc_aload_n hC dX0_init_30 rfl 1 rfl ?_
  refine kc_put (f := 0) (ty := .object "MirrorBench$Mirrors") (v := vr g 3 16) hC hY w0 tyX0 tyX0_ok nmX0 (upE_s _ _ _ _) rfl (by decide) f22 rfl rfl rfl (by decide +kernel) rfl rfl (Nat.le_of_ble_eq_true rfl) (by decide) (by decide) (Nat.lt_add_right _ hb) dX0_init_31 rfl ?_
  refine kc_chC (ce' := upE ce0 16 0 (.inr (0, [vr g 3 16, vr g 17 0, vr g 18 0, vr g 19 0, vi 0, vi 0]))) (upE_up _ _ _ _ _) ?_
  refine kc_aload_n hC dX0_init_34 rfl 0 rfl ?_
  refine kc_get (f := 2) hC w0 (upE_s _ _ _ _) rfl (by decide) f15 rfl rfl (by decide) (by decide) (by omega) dX0_init_35 rfl ?_
  refine kc_iconst hC dX0_init_38 rfl ?_
  refine kc_iconst hC dX0_init_39 rfl ?_
  refine kc_iast (n := 13) (r := fun _ => 0) hC (by rw [upE_n _ _ (fun q => absurd q.1 (by decide))]; exact hc18) (by decide) (by decide) (by decide) (by omega) (by decide) (by decide) dX0_init_40 rfl ?_
  refine kc_chC (ce' := upE ce0 18 0 (ka_i g 13 (fun j => if j = 0 then 1 else 0))) (by rw [upE_id hce]) ?_
  exact hR _ _ dX0_init_41

theorem lane_step (x : Nat) : (fun j : Int => if j = (x : Int) then (-1 : Int) else if 0 ≤ j ∧ j < (x : Int) then -1 else 0) = fun j : Int => if 0 ≤ j ∧ j < ((x + 1 : Nat) : Int) then -1 else 0 := by
  funext j
  by_cases e1 : j = (x : Int)
  · rw [if_pos e1, if_pos (by omega)]
  · rw [if_neg e1]
    by_cases e2 : 0 ≤ j ∧ j < (x : Int)
    · rw [if_pos e2, if_pos (by omega)]
    · rw [if_neg e2, if_neg (by omega)]
theorem lane_0 : (fun j : Int => if 0 ≤ j ∧ j < ((0 : Nat) : Int) then (-1 : Int) else 0) = fun _ => 0 := by
  funext j
  rw [if_neg (by omega)]

set_option maxHeartbeats 4000000 in
set_option maxRecDepth 100000 in
/-- MirrorBenchModel() -/
theorem cn_X8_init {g : wG} (hD : wD g) {ce0 : Nat → Int → va_E} {N : Nat} (hce : ce0 30 0 = .inr (8, [vi 0, vr g 41 0, vr g 42 0, vr g 43 0, vi 0, vr g 45 0, vr g 46 0, vr g 47 0, vi 0, vr g 49 0, vi 0, vr g 51 0, vi 0, vr g 53 0, vi 0, vr g 55 0, vi 0, vr g 57 0, vr g 58 0, vr g 59 0, vi 0, vi 0, vr g 62 0, vi 0, vr g 64 0, vr g 65 0, vi 0, vr g 67 0, vr g 68 0, vr g 69 0, vr g 70 0, vr g 71 0, vr g 72 0])) (hcm41 : ce0 41 0 = ka_i g 6 (fun _ => 0)) (ha41 : g.2.2 41 0 = N + 0) (hcm42 : ce0 42 0 = ka_i g 36 (fun _ => 0)) (ha42 : g.2.2 42 0 = N + 1) (hcm43 : ce0 43 0 = ka_i g 688 (fun _ => 0)) (ha43 : g.2.2 43 0 = N + 2) (hcm45 : ce0 45 0 = ka_i g 800 (fun _ => 0)) (ha45 : g.2.2 45 0 = N + 3) (hcm46 : ce0 46 0 = ka_i g 8 (fun _ => 0)) (ha46 : g.2.2 46 0 = N + 4) (hcm47 : ce0 47 0 = ka_i g 200 (fun _ => 0)) (ha47 : g.2.2 47 0 = N + 5) (hcm49 : ce0 49 0 = ka_i g 200 (fun _ => 0)) (ha49 : g.2.2 49 0 = N + 6) (hcm51 : ce0 51 0 = ka_i g 200 (fun _ => 0)) (ha51 : g.2.2 51 0 = N + 7) (hcm53 : ce0 53 0 = ka_i g 200 (fun _ => 0)) (ha53 : g.2.2 53 0 = N + 8) (hcm55 : ce0 55 0 = ka_l g 6 (fun _ => 0)) (ha55 : g.2.2 55 0 = N + 9) (hcm57 : ce0 57 0 = ka_l g 36 (fun _ => 0)) (ha57 : g.2.2 57 0 = N + 10) (hcm58 : ce0 58 0 = ka_l g 2520 (fun _ => 0)) (ha58 : g.2.2 58 0 = N + 11) (hcm59 : ce0 59 0 = ka_i g 420 (fun _ => 0)) (ha59 : g.2.2 59 0 = N + 12) (hcm62 : ce0 62 0 = ka_i g 12000 (fun _ => 0)) (ha62 : g.2.2 62 0 = N + 13) (hcm64 : ce0 64 0 = ka_i g 6 (fun _ => 0)) (ha64 : g.2.2 64 0 = N + 14) (hcm65 : ce0 65 0 = ka_i g 3612 (fun _ => 0)) (ha65 : g.2.2 65 0 = N + 15) (hcm67 : ce0 67 0 = ka_i g 3612 (fun _ => 0)) (ha67 : g.2.2 67 0 = N + 16) (hcm68 : ce0 68 0 = ka_i g 200 (fun _ => 0)) (ha68 : g.2.2 68 0 = N + 17) (hcm69 : ce0 69 0 = ka_i g 4 (fun _ => 0)) (ha69 : g.2.2 69 0 = N + 18) (hcm70 : ce0 70 0 = ka_i g 4 (fun _ => 0)) (ha70 : g.2.2 70 0 = N + 19) (hcm71 : ce0 71 0 = ka_l g 160 (fun _ => 0)) (ha71 : g.2.2 71 0 = N + 20) (hcm72 : ce0 72 0 = ka_l g 40 (fun _ => 0)) (ha72 : g.2.2 72 0 = N + 21) (hb : g.2.2 30 0 < N) (l : Launch) : Kn l yX8_init wsX8_init ({ frames := 1, cells := 22, slots := 24958, locals := 12 } : Room) g (upE ce0 30 0 (.inr (8, [vi 0, .null, .null, .null, vi 0, .null, .null, .null, vi 0, .null, vi 0, .null, vi 0, .null, vi 0, .null, vi 0, .null, .null, .null, vi 0, vi 0, .null, vi 0, .null, .null, vi 0, .null, .null, .null, .null, .null, .null]))) N [vr g 30 0] (upE ce0 69 0 (ka_i g 4 (fun j => if 0 ≤ j ∧ j < ((4 : Nat) : Int) then -1 else 0))) (N + 22) 22 24958 := by
  refine Kn.of (cc := cX8_init) (nL := 2) (own := RX8) rfl hD (by decide) rfl (Nat.le_of_ble_eq_true rfl) rfl ?_
  intro E hC hY hR
  have f7 : Cond.fieldLink RX8 7 "MirrorBenchModel" "kept" "[I" ∈ wsX8_init := by decide +kernel
  have f14 : Cond.fieldLink RX8 14 "MirrorBenchModel" "kinds" "[I" ∈ wsX8_init := by decide +kernel
  have f17 : Cond.fieldLink RX8 17 "MirrorBenchModel" "meets" "[I" ∈ wsX8_init := by decide +kernel
  have f43 : Cond.fieldLink RX8 43 "MirrorBenchModel" "lengths" "[I" ∈ wsX8_init := by decide +kernel
  have f52 : Cond.fieldLink RX8 52 "MirrorBenchModel" "words" "[I" ∈ wsX8_init := by decide +kernel
  have f60 : Cond.fieldLink RX8 60 "MirrorBenchModel" "w" "[I" ∈ wsX8_init := by decide +kernel
  have f77 : Cond.fieldLink RX8 77 "MirrorBenchModel" "root" "[J" ∈ wsX8_init := by decide +kernel
  have f95 : Cond.fieldLink RX8 95 "MirrorBenchModel" "r" "[I" ∈ wsX8_init := by decide +kernel
  have f116 : Cond.fieldLink RX8 116 "MirrorBenchModel" "f" "[I" ∈ wsX8_init := by decide +kernel
  have f129 : Cond.fieldLink RX8 129 "MirrorBenchModel" "v" "[I" ∈ wsX8_init := by decide +kernel
  have f148 : Cond.fieldLink RX8 148 "MirrorBenchModel" "images" "[J" ∈ wsX8_init := by decide +kernel
  have f154 : Cond.fieldLink RX8 154 "MirrorBenchModel" "found" "[J" ∈ wsX8_init := by decide +kernel
  have f157 : Cond.fieldLink RX8 157 "MirrorBenchModel" "heights" "[I" ∈ wsX8_init := by decide +kernel
  have f189 : Cond.fieldLink RX8 189 "MirrorBenchModel" "weights" "[I" ∈ wsX8_init := by decide +kernel
  have f192 : Cond.fieldLink RX8 192 "MirrorBenchModel" "weight" "[I" ∈ wsX8_init := by decide +kernel
  have f209 : Cond.fieldLink RX8 209 "MirrorBenchModel" "forms" "[I" ∈ wsX8_init := by decide +kernel
  have f215 : Cond.fieldLink RX8 215 "MirrorBenchModel" "longer" "[I" ∈ wsX8_init := by decide +kernel
  have f223 : Cond.fieldLink RX8 223 "MirrorBenchModel" "part" "[I" ∈ wsX8_init := by decide +kernel
  have f234 : Cond.fieldLink RX8 234 "MirrorBenchModel" "lanes" "[I" ∈ wsX8_init := by decide +kernel
  have f237 : Cond.fieldLink RX8 237 "MirrorBenchModel" "sizes" "[I" ∈ wsX8_init := by decide +kernel
  have f240 : Cond.fieldLink RX8 240 "MirrorBenchModel" "items" "[J" ∈ wsX8_init := by decide +kernel
  have f243 : Cond.fieldLink RX8 243 "MirrorBenchModel" "moved" "[J" ∈ wsX8_init := by decide +kernel
  have w8 : ∀ w ∈ wsX80, w ∈ wsX8_init := by decide +kernel
  show Wc E g 2 (upE ce0 30 0 (.inr (8, [vi 0, .null, .null, .null, vi 0, .null, .null, .null, vi 0, .null, vi 0, .null, vi 0, .null, vi 0, .null, vi 0, .null, .null, .null, vi 0, vi 0, .null, vi 0, .null, .null, vi 0, .null, .null, .null, .null, .null, .null]))) N 0 0 0 [(0, vr g 30 0)] []
  refine kc_aload_n hC dX8_init_0 rfl 0 rfl ?_
  refine kc_obj hC (by decide +kernel) (by decide +kernel) (by decide +kernel) (Nat.le_of_ble_eq_true rfl) (Nat.le_of_ble_eq_true rfl) dX8_init_1 rfl ?_
  refine kc_aload_n hC dX8_init_4 rfl 0 rfl ?_
  refine kc_bipush hC dX8_init_5 rfl (by decide) ?_
  refine kc_newi (k := 41) (i := 0) (n := 6) hC (by decide +kernel) rfl (Nat.le_of_ble_eq_true rfl) ha41 (by decide) (by decide) (by rw [upE_n _ _ (fun q => absurd q.1 (by decide))]; exact hcm41) (Nat.le_of_ble_eq_true rfl) (Nat.le_of_ble_eq_true rfl) dX8_init_7 rfl ?_
  refine kc_N (N' := N + 1) (c' := 1) (s' := 6) rfl rfl rfl ?_
  refine kc_put (f := 1) (ty := .array .int) (v := vr g 41 0) hC hY w8 tyX8 tyX8_ok nmX8 (upE_s _ _ _ _) rfl (by decide) f14 rfl rfl rfl (by decide +kernel) rfl rfl (Nat.le_of_ble_eq_true rfl) (by decide) (by decide) (Nat.lt_add_right _ hb) dX8_init_9 rfl ?_
  refine kc_chC (ce' := upE ce0 30 0 (.inr (8, [vi 0, vr g 41 0, .null, .null, vi 0, .null, .null, .null, vi 0, .null, vi 0, .null, vi 0, .null, vi 0, .null, vi 0, .null, .null, .null, vi 0, vi 0, .null, vi 0, .null, .null, vi 0, .null, .null, .null, .null, .null, .null]))) (upE_up _ _ _ _ _) ?_
  refine kc_aload_n hC dX8_init_12 rfl 0 rfl ?_
  refine kc_bipush hC dX8_init_13 rfl (by decide) ?_
  refine kc_newi (k := 42) (i := 0) (n := 36) hC (by decide +kernel) rfl (Nat.le_of_ble_eq_true rfl) ha42 (by decide) (by decide) (by rw [upE_n _ _ (fun q => absurd q.1 (by decide))]; exact hcm42) (Nat.le_of_ble_eq_true rfl) (Nat.le_of_ble_eq_true rfl) dX8_init_15 rfl ?_
  refine kc_N (N' := N + 2) (c' := 2) (s' := 42) rfl rfl rfl ?_
  refine kc_put (f := 2) (ty := .array .int) (v := vr g 42 0) hC hY w8 tyX8 tyX8_ok nmX8 (upE_s _ _ _ _) rfl (by decide) f17 rfl rfl rfl (by decide +kernel) rfl rfl (Nat.le_of_ble_eq_true rfl) (by decide) (by decide) (Nat.lt_add_right _ hb) dX8_init_17 rfl ?_
  refine kc_chC (ce' := upE ce0 30 0 (.inr (8, [vi 0, vr g 41 0, vr g 42 0, .null, vi 0, .null, .null, .null, vi 0, .null, vi 0, .null, vi 0, .null, vi 0, .null, vi 0, .null, .null, .null, vi 0, vi 0, .null, vi 0, .null, .null, vi 0, .null, .null, .null, .null, .null, .null]))) (upE_up _ _ _ _ _) ?_
  refine kc_aload_n hC dX8_init_20 rfl 0 rfl ?_
  refine kc_sipush hC dX8_init_21 rfl (by decide) ?_
  refine kc_newi (k := 43) (i := 0) (n := 688) hC (by decide +kernel) rfl (Nat.le_of_ble_eq_true rfl) ha43 (by decide) (by decide) (by rw [upE_n _ _ (fun q => absurd q.1 (by decide))]; exact hcm43) (Nat.le_of_ble_eq_true rfl) (Nat.le_of_ble_eq_true rfl) dX8_init_24 rfl ?_
  refine kc_N (N' := N + 3) (c' := 3) (s' := 730) rfl rfl rfl ?_
  refine kc_put (f := 3) (ty := .array .int) (v := vr g 43 0) hC hY w8 tyX8 tyX8_ok nmX8 (upE_s _ _ _ _) rfl (by decide) f7 rfl rfl rfl (by decide +kernel) rfl rfl (Nat.le_of_ble_eq_true rfl) (by decide) (by decide) (Nat.lt_add_right _ hb) dX8_init_26 rfl ?_
  refine kc_chC (ce' := upE ce0 30 0 (.inr (8, [vi 0, vr g 41 0, vr g 42 0, vr g 43 0, vi 0, .null, .null, .null, vi 0, .null, vi 0, .null, vi 0, .null, vi 0, .null, vi 0, .null, .null, .null, vi 0, vi 0, .null, vi 0, .null, .null, vi 0, .null, .null, .null, .null, .null, .null]))) (upE_up _ _ _ _ _) ?_
  refine kc_aload_n hC dX8_init_29 rfl 0 rfl ?_
  refine kc_sipush hC dX8_init_30 rfl (by decide) ?_
  refine kc_newi (k := 45) (i := 0) (n := 800) hC (by decide +kernel) rfl (Nat.le_of_ble_eq_true rfl) ha45 (by decide) (by decide) (by rw [upE_n _ _ (fun q => absurd q.1 (by decide))]; exact hcm45) (Nat.le_of_ble_eq_true rfl) (Nat.le_of_ble_eq_true rfl) dX8_init_33 rfl ?_
  refine kc_N (N' := N + 4) (c' := 4) (s' := 1530) rfl rfl rfl ?_
  refine kc_put (f := 5) (ty := .array .int) (v := vr g 45 0) hC hY w8 tyX8 tyX8_ok nmX8 (upE_s _ _ _ _) rfl (by decide) f52 rfl rfl rfl (by decide +kernel) rfl rfl (Nat.le_of_ble_eq_true rfl) (by decide) (by decide) (Nat.lt_add_right _ hb) dX8_init_35 rfl ?_
  refine kc_chC (ce' := upE ce0 30 0 (.inr (8, [vi 0, vr g 41 0, vr g 42 0, vr g 43 0, vi 0, vr g 45 0, .null, .null, vi 0, .null, vi 0, .null, vi 0, .null, vi 0, .null, vi 0, .null, .null, .null, vi 0, vi 0, .null, vi 0, .null, .null, vi 0, .null, .null, .null, .null, .null, .null]))) (upE_up _ _ _ _ _) ?_
  refine kc_aload_n hC dX8_init_38 rfl 0 rfl ?_
  refine kc_bipush hC dX8_init_39 rfl (by decide) ?_
  refine kc_newi (k := 46) (i := 0) (n := 8) hC (by decide +kernel) rfl (Nat.le_of_ble_eq_true rfl) ha46 (by decide) (by decide) (by rw [upE_n _ _ (fun q => absurd q.1 (by decide))]; exact hcm46) (Nat.le_of_ble_eq_true rfl) (Nat.le_of_ble_eq_true rfl) dX8_init_41 rfl ?_
  refine kc_N (N' := N + 5) (c' := 5) (s' := 1538) rfl rfl rfl ?_
  refine kc_put (f := 6) (ty := .array .int) (v := vr g 46 0) hC hY w8 tyX8 tyX8_ok nmX8 (upE_s _ _ _ _) rfl (by decide) f43 rfl rfl rfl (by decide +kernel) rfl rfl (Nat.le_of_ble_eq_true rfl) (by decide) (by decide) (Nat.lt_add_right _ hb) dX8_init_43 rfl ?_
  refine kc_chC (ce' := upE ce0 30 0 (.inr (8, [vi 0, vr g 41 0, vr g 42 0, vr g 43 0, vi 0, vr g 45 0, vr g 46 0, .null, vi 0, .null, vi 0, .null, vi 0, .null, vi 0, .null, vi 0, .null, .null, .null, vi 0, vi 0, .null, vi 0, .null, .null, vi 0, .null, .null, .null, .null, .null, .null]))) (upE_up _ _ _ _ _) ?_
  refine kc_aload_n hC dX8_init_46 rfl 0 rfl ?_
  refine kc_sipush hC dX8_init_47 rfl (by decide) ?_
  refine kc_newi (k := 47) (i := 0) (n := 200) hC (by decide +kernel) rfl (Nat.le_of_ble_eq_true rfl) ha47 (by decide) (by decide) (by rw [upE_n _ _ (fun q => absurd q.1 (by decide))]; exact hcm47) (Nat.le_of_ble_eq_true rfl) (Nat.le_of_ble_eq_true rfl) dX8_init_50 rfl ?_
  refine kc_N (N' := N + 6) (c' := 6) (s' := 1738) rfl rfl rfl ?_
  refine kc_put (f := 7) (ty := .array .int) (v := vr g 47 0) hC hY w8 tyX8 tyX8_ok nmX8 (upE_s _ _ _ _) rfl (by decide) f95 rfl rfl rfl (by decide +kernel) rfl rfl (Nat.le_of_ble_eq_true rfl) (by decide) (by decide) (Nat.lt_add_right _ hb) dX8_init_52 rfl ?_
  refine kc_chC (ce' := upE ce0 30 0 (.inr (8, [vi 0, vr g 41 0, vr g 42 0, vr g 43 0, vi 0, vr g 45 0, vr g 46 0, vr g 47 0, vi 0, .null, vi 0, .null, vi 0, .null, vi 0, .null, vi 0, .null, .null, .null, vi 0, vi 0, .null, vi 0, .null, .null, vi 0, .null, .null, .null, .null, .null, .null]))) (upE_up _ _ _ _ _) ?_
  refine kc_aload_n hC dX8_init_55 rfl 0 rfl ?_
  refine kc_sipush hC dX8_init_56 rfl (by decide) ?_
  refine kc_newi (k := 49) (i := 0) (n := 200) hC (by decide +kernel) rfl (Nat.le_of_ble_eq_true rfl) ha49 (by decide) (by decide) (by rw [upE_n _ _ (fun q => absurd q.1 (by decide))]; exact hcm49) (Nat.le_of_ble_eq_true rfl) (Nat.le_of_ble_eq_true rfl) dX8_init_59 rfl ?_
  refine kc_N (N' := N + 7) (c' := 7) (s' := 1938) rfl rfl rfl ?_
  refine kc_put (f := 9) (ty := .array .int) (v := vr g 49 0) hC hY w8 tyX8 tyX8_ok nmX8 (upE_s _ _ _ _) rfl (by decide) f116 rfl rfl rfl (by decide +kernel) rfl rfl (Nat.le_of_ble_eq_true rfl) (by decide) (by decide) (Nat.lt_add_right _ hb) dX8_init_61 rfl ?_
  refine kc_chC (ce' := upE ce0 30 0 (.inr (8, [vi 0, vr g 41 0, vr g 42 0, vr g 43 0, vi 0, vr g 45 0, vr g 46 0, vr g 47 0, vi 0, vr g 49 0, vi 0, .null, vi 0, .null, vi 0, .null, vi 0, .null, .null, .null, vi 0, vi 0, .null, vi 0, .null, .null, vi 0, .null, .null, .null, .null, .null, .null]))) (upE_up _ _ _ _ _) ?_
  refine kc_aload_n hC dX8_init_64 rfl 0 rfl ?_
  refine kc_sipush hC dX8_init_65 rfl (by decide) ?_
  refine kc_newi (k := 51) (i := 0) (n := 200) hC (by decide +kernel) rfl (Nat.le_of_ble_eq_true rfl) ha51 (by decide) (by decide) (by rw [upE_n _ _ (fun q => absurd q.1 (by decide))]; exact hcm51) (Nat.le_of_ble_eq_true rfl) (Nat.le_of_ble_eq_true rfl) dX8_init_68 rfl ?_
  refine kc_N (N' := N + 8) (c' := 8) (s' := 2138) rfl rfl rfl ?_
  refine kc_put (f := 11) (ty := .array .int) (v := vr g 51 0) hC hY w8 tyX8 tyX8_ok nmX8 (upE_s _ _ _ _) rfl (by decide) f129 rfl rfl rfl (by decide +kernel) rfl rfl (Nat.le_of_ble_eq_true rfl) (by decide) (by decide) (Nat.lt_add_right _ hb) dX8_init_70 rfl ?_
  refine kc_chC (ce' := upE ce0 30 0 (.inr (8, [vi 0, vr g 41 0, vr g 42 0, vr g 43 0, vi 0, vr g 45 0, vr g 46 0, vr g 47 0, vi 0, vr g 49 0, vi 0, vr g 51 0, vi 0, .null, vi 0, .null, vi 0, .null, .null, .null, vi 0, vi 0, .null, vi 0, .null, .null, vi 0, .null, .null, .null, .null, .null, .null]))) (upE_up _ _ _ _ _) ?_
  refine kc_aload_n hC dX8_init_73 rfl 0 rfl ?_
  refine kc_sipush hC dX8_init_74 rfl (by decide) ?_
  refine kc_newi (k := 53) (i := 0) (n := 200) hC (by decide +kernel) rfl (Nat.le_of_ble_eq_true rfl) ha53 (by decide) (by decide) (by rw [upE_n _ _ (fun q => absurd q.1 (by decide))]; exact hcm53) (Nat.le_of_ble_eq_true rfl) (Nat.le_of_ble_eq_true rfl) dX8_init_77 rfl ?_
  refine kc_N (N' := N + 9) (c' := 9) (s' := 2338) rfl rfl rfl ?_
  refine kc_put (f := 13) (ty := .array .int) (v := vr g 53 0) hC hY w8 tyX8 tyX8_ok nmX8 (upE_s _ _ _ _) rfl (by decide) f60 rfl rfl rfl (by decide +kernel) rfl rfl (Nat.le_of_ble_eq_true rfl) (by decide) (by decide) (Nat.lt_add_right _ hb) dX8_init_79 rfl ?_
  refine kc_chC (ce' := upE ce0 30 0 (.inr (8, [vi 0, vr g 41 0, vr g 42 0, vr g 43 0, vi 0, vr g 45 0, vr g 46 0, vr g 47 0, vi 0, vr g 49 0, vi 0, vr g 51 0, vi 0, vr g 53 0, vi 0, .null, vi 0, .null, .null, .null, vi 0, vi 0, .null, vi 0, .null, .null, vi 0, .null, .null, .null, .null, .null, .null]))) (upE_up _ _ _ _ _) ?_
  refine kc_aload_n hC dX8_init_82 rfl 0 rfl ?_
  refine kc_bipush hC dX8_init_83 rfl (by decide) ?_
  refine kc_newl (k := 55) (i := 0) (n := 6) hC (by decide +kernel) rfl (Nat.le_of_ble_eq_true rfl) ha55 (by decide) (by decide) (by rw [upE_n _ _ (fun q => absurd q.1 (by decide))]; exact hcm55) (Nat.le_of_ble_eq_true rfl) (Nat.le_of_ble_eq_true rfl) dX8_init_85 rfl ?_
  refine kc_N (N' := N + 10) (c' := 10) (s' := 2344) rfl rfl rfl ?_
  refine kc_put (f := 15) (ty := .array .long) (v := vr g 55 0) hC hY w8 tyX8 tyX8_ok nmX8 (upE_s _ _ _ _) rfl (by decide) f77 rfl rfl rfl (by decide +kernel) rfl rfl (Nat.le_of_ble_eq_true rfl) (by decide) (by decide) (Nat.lt_add_right _ hb) dX8_init_87 rfl ?_
  refine kc_chC (ce' := upE ce0 30 0 (.inr (8, [vi 0, vr g 41 0, vr g 42 0, vr g 43 0, vi 0, vr g 45 0, vr g 46 0, vr g 47 0, vi 0, vr g 49 0, vi 0, vr g 51 0, vi 0, vr g 53 0, vi 0, vr g 55 0, vi 0, .null, .null, .null, vi 0, vi 0, .null, vi 0, .null, .null, vi 0, .null, .null, .null, .null, .null, .null]))) (upE_up _ _ _ _ _) ?_
  refine kc_aload_n hC dX8_init_90 rfl 0 rfl ?_
  refine kc_bipush hC dX8_init_91 rfl (by decide) ?_
  refine kc_newl (k := 57) (i := 0) (n := 36) hC (by decide +kernel) rfl (Nat.le_of_ble_eq_true rfl) ha57 (by decide) (by decide) (by rw [upE_n _ _ (fun q => absurd q.1 (by decide))]; exact hcm57) (Nat.le_of_ble_eq_true rfl) (Nat.le_of_ble_eq_true rfl) dX8_init_93 rfl ?_
  refine kc_N (N' := N + 11) (c' := 11) (s' := 2380) rfl rfl rfl ?_
  refine kc_put (f := 17) (ty := .array .long) (v := vr g 57 0) hC hY w8 tyX8 tyX8_ok nmX8 (upE_s _ _ _ _) rfl (by decide) f148 rfl rfl rfl (by decide +kernel) rfl rfl (Nat.le_of_ble_eq_true rfl) (by decide) (by decide) (Nat.lt_add_right _ hb) dX8_init_95 rfl ?_
  refine kc_chC (ce' := upE ce0 30 0 (.inr (8, [vi 0, vr g 41 0, vr g 42 0, vr g 43 0, vi 0, vr g 45 0, vr g 46 0, vr g 47 0, vi 0, vr g 49 0, vi 0, vr g 51 0, vi 0, vr g 53 0, vi 0, vr g 55 0, vi 0, vr g 57 0, .null, .null, vi 0, vi 0, .null, vi 0, .null, .null, vi 0, .null, .null, .null, .null, .null, .null]))) (upE_up _ _ _ _ _) ?_
  refine kc_aload_n hC dX8_init_98 rfl 0 rfl ?_
  refine kc_sipush hC dX8_init_99 rfl (by decide) ?_
  refine kc_newl (k := 58) (i := 0) (n := 2520) hC (by decide +kernel) rfl (Nat.le_of_ble_eq_true rfl) ha58 (by decide) (by decide) (by rw [upE_n _ _ (fun q => absurd q.1 (by decide))]; exact hcm58) (Nat.le_of_ble_eq_true rfl) (Nat.le_of_ble_eq_true rfl) dX8_init_102 rfl ?_
  refine kc_N (N' := N + 12) (c' := 12) (s' := 4900) rfl rfl rfl ?_
  refine kc_put (f := 18) (ty := .array .long) (v := vr g 58 0) hC hY w8 tyX8 tyX8_ok nmX8 (upE_s _ _ _ _) rfl (by decide) f154 rfl rfl rfl (by decide +kernel) rfl rfl (Nat.le_of_ble_eq_true rfl) (by decide) (by decide) (Nat.lt_add_right _ hb) dX8_init_104 rfl ?_
  refine kc_chC (ce' := upE ce0 30 0 (.inr (8, [vi 0, vr g 41 0, vr g 42 0, vr g 43 0, vi 0, vr g 45 0, vr g 46 0, vr g 47 0, vi 0, vr g 49 0, vi 0, vr g 51 0, vi 0, vr g 53 0, vi 0, vr g 55 0, vi 0, vr g 57 0, vr g 58 0, .null, vi 0, vi 0, .null, vi 0, .null, .null, vi 0, .null, .null, .null, .null, .null, .null]))) (upE_up _ _ _ _ _) ?_
  refine kc_aload_n hC dX8_init_107 rfl 0 rfl ?_
  refine kc_sipush hC dX8_init_108 rfl (by decide) ?_
  refine kc_newi (k := 59) (i := 0) (n := 420) hC (by decide +kernel) rfl (Nat.le_of_ble_eq_true rfl) ha59 (by decide) (by decide) (by rw [upE_n _ _ (fun q => absurd q.1 (by decide))]; exact hcm59) (Nat.le_of_ble_eq_true rfl) (Nat.le_of_ble_eq_true rfl) dX8_init_111 rfl ?_
  refine kc_N (N' := N + 13) (c' := 13) (s' := 5320) rfl rfl rfl ?_
  refine kc_put (f := 19) (ty := .array .int) (v := vr g 59 0) hC hY w8 tyX8 tyX8_ok nmX8 (upE_s _ _ _ _) rfl (by decide) f157 rfl rfl rfl (by decide +kernel) rfl rfl (Nat.le_of_ble_eq_true rfl) (by decide) (by decide) (Nat.lt_add_right _ hb) dX8_init_113 rfl ?_
  refine kc_chC (ce' := upE ce0 30 0 (.inr (8, [vi 0, vr g 41 0, vr g 42 0, vr g 43 0, vi 0, vr g 45 0, vr g 46 0, vr g 47 0, vi 0, vr g 49 0, vi 0, vr g 51 0, vi 0, vr g 53 0, vi 0, vr g 55 0, vi 0, vr g 57 0, vr g 58 0, vr g 59 0, vi 0, vi 0, .null, vi 0, .null, .null, vi 0, .null, .null, .null, .null, .null, .null]))) (upE_up _ _ _ _ _) ?_
  refine kc_aload_n hC dX8_init_116 rfl 0 rfl ?_
  refine kc_sipush hC dX8_init_117 rfl (by decide) ?_
  refine kc_newi (k := 62) (i := 0) (n := 12000) hC (by decide +kernel) rfl (Nat.le_of_ble_eq_true rfl) ha62 (by decide) (by decide) (by rw [upE_n _ _ (fun q => absurd q.1 (by decide))]; exact hcm62) (Nat.le_of_ble_eq_true rfl) (Nat.le_of_ble_eq_true rfl) dX8_init_120 rfl ?_
  refine kc_N (N' := N + 14) (c' := 14) (s' := 17320) rfl rfl rfl ?_
  refine kc_put (f := 22) (ty := .array .int) (v := vr g 62 0) hC hY w8 tyX8 tyX8_ok nmX8 (upE_s _ _ _ _) rfl (by decide) f189 rfl rfl rfl (by decide +kernel) rfl rfl (Nat.le_of_ble_eq_true rfl) (by decide) (by decide) (Nat.lt_add_right _ hb) dX8_init_122 rfl ?_
  refine kc_chC (ce' := upE ce0 30 0 (.inr (8, [vi 0, vr g 41 0, vr g 42 0, vr g 43 0, vi 0, vr g 45 0, vr g 46 0, vr g 47 0, vi 0, vr g 49 0, vi 0, vr g 51 0, vi 0, vr g 53 0, vi 0, vr g 55 0, vi 0, vr g 57 0, vr g 58 0, vr g 59 0, vi 0, vi 0, vr g 62 0, vi 0, .null, .null, vi 0, .null, .null, .null, .null, .null, .null]))) (upE_up _ _ _ _ _) ?_
  refine kc_aload_n hC dX8_init_125 rfl 0 rfl ?_
  refine kc_bipush hC dX8_init_126 rfl (by decide) ?_
  refine kc_newi (k := 64) (i := 0) (n := 6) hC (by decide +kernel) rfl (Nat.le_of_ble_eq_true rfl) ha64 (by decide) (by decide) (by rw [upE_n _ _ (fun q => absurd q.1 (by decide))]; exact hcm64) (Nat.le_of_ble_eq_true rfl) (Nat.le_of_ble_eq_true rfl) dX8_init_128 rfl ?_
  refine kc_N (N' := N + 15) (c' := 15) (s' := 17326) rfl rfl rfl ?_
  refine kc_put (f := 24) (ty := .array .int) (v := vr g 64 0) hC hY w8 tyX8 tyX8_ok nmX8 (upE_s _ _ _ _) rfl (by decide) f192 rfl rfl rfl (by decide +kernel) rfl rfl (Nat.le_of_ble_eq_true rfl) (by decide) (by decide) (Nat.lt_add_right _ hb) dX8_init_130 rfl ?_
  refine kc_chC (ce' := upE ce0 30 0 (.inr (8, [vi 0, vr g 41 0, vr g 42 0, vr g 43 0, vi 0, vr g 45 0, vr g 46 0, vr g 47 0, vi 0, vr g 49 0, vi 0, vr g 51 0, vi 0, vr g 53 0, vi 0, vr g 55 0, vi 0, vr g 57 0, vr g 58 0, vr g 59 0, vi 0, vi 0, vr g 62 0, vi 0, vr g 64 0, .null, vi 0, .null, .null, .null, .null, .null, .null]))) (upE_up _ _ _ _ _) ?_
  refine kc_aload_n hC dX8_init_133 rfl 0 rfl ?_
  refine kc_sipush hC dX8_init_134 rfl (by decide) ?_
  refine kc_newi (k := 65) (i := 0) (n := 3612) hC (by decide +kernel) rfl (Nat.le_of_ble_eq_true rfl) ha65 (by decide) (by decide) (by rw [upE_n _ _ (fun q => absurd q.1 (by decide))]; exact hcm65) (Nat.le_of_ble_eq_true rfl) (Nat.le_of_ble_eq_true rfl) dX8_init_137 rfl ?_
  refine kc_N (N' := N + 16) (c' := 16) (s' := 20938) rfl rfl rfl ?_
  refine kc_put (f := 25) (ty := .array .int) (v := vr g 65 0) hC hY w8 tyX8 tyX8_ok nmX8 (upE_s _ _ _ _) rfl (by decide) f209 rfl rfl rfl (by decide +kernel) rfl rfl (Nat.le_of_ble_eq_true rfl) (by decide) (by decide) (Nat.lt_add_right _ hb) dX8_init_139 rfl ?_
  refine kc_chC (ce' := upE ce0 30 0 (.inr (8, [vi 0, vr g 41 0, vr g 42 0, vr g 43 0, vi 0, vr g 45 0, vr g 46 0, vr g 47 0, vi 0, vr g 49 0, vi 0, vr g 51 0, vi 0, vr g 53 0, vi 0, vr g 55 0, vi 0, vr g 57 0, vr g 58 0, vr g 59 0, vi 0, vi 0, vr g 62 0, vi 0, vr g 64 0, vr g 65 0, vi 0, .null, .null, .null, .null, .null, .null]))) (upE_up _ _ _ _ _) ?_
  refine kc_aload_n hC dX8_init_142 rfl 0 rfl ?_
  refine kc_sipush hC dX8_init_143 rfl (by decide) ?_
  refine kc_newi (k := 67) (i := 0) (n := 3612) hC (by decide +kernel) rfl (Nat.le_of_ble_eq_true rfl) ha67 (by decide) (by decide) (by rw [upE_n _ _ (fun q => absurd q.1 (by decide))]; exact hcm67) (Nat.le_of_ble_eq_true rfl) (Nat.le_of_ble_eq_true rfl) dX8_init_146 rfl ?_
  refine kc_N (N' := N + 17) (c' := 17) (s' := 24550) rfl rfl rfl ?_
  refine kc_put (f := 27) (ty := .array .int) (v := vr g 67 0) hC hY w8 tyX8 tyX8_ok nmX8 (upE_s _ _ _ _) rfl (by decide) f215 rfl rfl rfl (by decide +kernel) rfl rfl (Nat.le_of_ble_eq_true rfl) (by decide) (by decide) (Nat.lt_add_right _ hb) dX8_init_148 rfl ?_
  refine kc_chC (ce' := upE ce0 30 0 (.inr (8, [vi 0, vr g 41 0, vr g 42 0, vr g 43 0, vi 0, vr g 45 0, vr g 46 0, vr g 47 0, vi 0, vr g 49 0, vi 0, vr g 51 0, vi 0, vr g 53 0, vi 0, vr g 55 0, vi 0, vr g 57 0, vr g 58 0, vr g 59 0, vi 0, vi 0, vr g 62 0, vi 0, vr g 64 0, vr g 65 0, vi 0, vr g 67 0, .null, .null, .null, .null, .null]))) (upE_up _ _ _ _ _) ?_
  refine kc_aload_n hC dX8_init_151 rfl 0 rfl ?_
  refine kc_sipush hC dX8_init_152 rfl (by decide) ?_
  refine kc_newi (k := 68) (i := 0) (n := 200) hC (by decide +kernel) rfl (Nat.le_of_ble_eq_true rfl) ha68 (by decide) (by decide) (by rw [upE_n _ _ (fun q => absurd q.1 (by decide))]; exact hcm68) (Nat.le_of_ble_eq_true rfl) (Nat.le_of_ble_eq_true rfl) dX8_init_155 rfl ?_
  refine kc_N (N' := N + 18) (c' := 18) (s' := 24750) rfl rfl rfl ?_
  refine kc_put (f := 28) (ty := .array .int) (v := vr g 68 0) hC hY w8 tyX8 tyX8_ok nmX8 (upE_s _ _ _ _) rfl (by decide) f223 rfl rfl rfl (by decide +kernel) rfl rfl (Nat.le_of_ble_eq_true rfl) (by decide) (by decide) (Nat.lt_add_right _ hb) dX8_init_157 rfl ?_
  refine kc_chC (ce' := upE ce0 30 0 (.inr (8, [vi 0, vr g 41 0, vr g 42 0, vr g 43 0, vi 0, vr g 45 0, vr g 46 0, vr g 47 0, vi 0, vr g 49 0, vi 0, vr g 51 0, vi 0, vr g 53 0, vi 0, vr g 55 0, vi 0, vr g 57 0, vr g 58 0, vr g 59 0, vi 0, vi 0, vr g 62 0, vi 0, vr g 64 0, vr g 65 0, vi 0, vr g 67 0, vr g 68 0, .null, .null, .null, .null]))) (upE_up _ _ _ _ _) ?_
  refine kc_aload_n hC dX8_init_160 rfl 0 rfl ?_
  refine kc_iconst hC dX8_init_161 rfl ?_
  refine kc_newi (k := 69) (i := 0) (n := 4) hC (by decide +kernel) rfl (Nat.le_of_ble_eq_true rfl) ha69 (by decide) (by decide) (by rw [upE_n _ _ (fun q => absurd q.1 (by decide))]; exact hcm69) (Nat.le_of_ble_eq_true rfl) (Nat.le_of_ble_eq_true rfl) dX8_init_162 rfl ?_
  refine kc_N (N' := N + 19) (c' := 19) (s' := 24754) rfl rfl rfl ?_
  refine kc_put (f := 29) (ty := .array .int) (v := vr g 69 0) hC hY w8 tyX8 tyX8_ok nmX8 (upE_s _ _ _ _) rfl (by decide) f234 rfl rfl rfl (by decide +kernel) rfl rfl (Nat.le_of_ble_eq_true rfl) (by decide) (by decide) (Nat.lt_add_right _ hb) dX8_init_164 rfl ?_
  refine kc_chC (ce' := upE ce0 30 0 (.inr (8, [vi 0, vr g 41 0, vr g 42 0, vr g 43 0, vi 0, vr g 45 0, vr g 46 0, vr g 47 0, vi 0, vr g 49 0, vi 0, vr g 51 0, vi 0, vr g 53 0, vi 0, vr g 55 0, vi 0, vr g 57 0, vr g 58 0, vr g 59 0, vi 0, vi 0, vr g 62 0, vi 0, vr g 64 0, vr g 65 0, vi 0, vr g 67 0, vr g 68 0, vr g 69 0, .null, .null, .null]))) (upE_up _ _ _ _ _) ?_
  refine kc_aload_n hC dX8_init_167 rfl 0 rfl ?_
  refine kc_iconst hC dX8_init_168 rfl ?_
  refine kc_newi (k := 70) (i := 0) (n := 4) hC (by decide +kernel) rfl (Nat.le_of_ble_eq_true rfl) ha70 (by decide) (by decide) (by rw [upE_n _ _ (fun q => absurd q.1 (by decide))]; exact hcm70) (Nat.le_of_ble_eq_true rfl) (Nat.le_of_ble_eq_true rfl) dX8_init_169 rfl ?_
  refine kc_N (N' := N + 20) (c' := 20) (s' := 24758) rfl rfl rfl ?_
  refine kc_put (f := 30) (ty := .array .int) (v := vr g 70 0) hC hY w8 tyX8 tyX8_ok nmX8 (upE_s _ _ _ _) rfl (by decide) f237 rfl rfl rfl (by decide +kernel) rfl rfl (Nat.le_of_ble_eq_true rfl) (by decide) (by decide) (Nat.lt_add_right _ hb) dX8_init_171 rfl ?_
  refine kc_chC (ce' := upE ce0 30 0 (.inr (8, [vi 0, vr g 41 0, vr g 42 0, vr g 43 0, vi 0, vr g 45 0, vr g 46 0, vr g 47 0, vi 0, vr g 49 0, vi 0, vr g 51 0, vi 0, vr g 53 0, vi 0, vr g 55 0, vi 0, vr g 57 0, vr g 58 0, vr g 59 0, vi 0, vi 0, vr g 62 0, vi 0, vr g 64 0, vr g 65 0, vi 0, vr g 67 0, vr g 68 0, vr g 69 0, vr g 70 0, .null, .null]))) (upE_up _ _ _ _ _) ?_
  refine kc_aload_n hC dX8_init_174 rfl 0 rfl ?_
  refine kc_sipush hC dX8_init_175 rfl (by decide) ?_
  refine kc_newl (k := 71) (i := 0) (n := 160) hC (by decide +kernel) rfl (Nat.le_of_ble_eq_true rfl) ha71 (by decide) (by decide) (by rw [upE_n _ _ (fun q => absurd q.1 (by decide))]; exact hcm71) (Nat.le_of_ble_eq_true rfl) (Nat.le_of_ble_eq_true rfl) dX8_init_178 rfl ?_
  refine kc_N (N' := N + 21) (c' := 21) (s' := 24918) rfl rfl rfl ?_
  refine kc_put (f := 31) (ty := .array .long) (v := vr g 71 0) hC hY w8 tyX8 tyX8_ok nmX8 (upE_s _ _ _ _) rfl (by decide) f240 rfl rfl rfl (by decide +kernel) rfl rfl (Nat.le_of_ble_eq_true rfl) (by decide) (by decide) (Nat.lt_add_right _ hb) dX8_init_180 rfl ?_
  refine kc_chC (ce' := upE ce0 30 0 (.inr (8, [vi 0, vr g 41 0, vr g 42 0, vr g 43 0, vi 0, vr g 45 0, vr g 46 0, vr g 47 0, vi 0, vr g 49 0, vi 0, vr g 51 0, vi 0, vr g 53 0, vi 0, vr g 55 0, vi 0, vr g 57 0, vr g 58 0, vr g 59 0, vi 0, vi 0, vr g 62 0, vi 0, vr g 64 0, vr g 65 0, vi 0, vr g 67 0, vr g 68 0, vr g 69 0, vr g 70 0, vr g 71 0, .null]))) (upE_up _ _ _ _ _) ?_
  refine kc_aload_n hC dX8_init_183 rfl 0 rfl ?_
  refine kc_bipush hC dX8_init_184 rfl (by decide) ?_
  refine kc_newl (k := 72) (i := 0) (n := 40) hC (by decide +kernel) rfl (Nat.le_of_ble_eq_true rfl) ha72 (by decide) (by decide) (by rw [upE_n _ _ (fun q => absurd q.1 (by decide))]; exact hcm72) (Nat.le_of_ble_eq_true rfl) (Nat.le_of_ble_eq_true rfl) dX8_init_186 rfl ?_
  refine kc_N (N' := N + 22) (c' := 22) (s' := 24958) rfl rfl rfl ?_
  refine kc_put (f := 32) (ty := .array .long) (v := vr g 72 0) hC hY w8 tyX8 tyX8_ok nmX8 (upE_s _ _ _ _) rfl (by decide) f243 rfl rfl rfl (by decide +kernel) rfl rfl (Nat.le_of_ble_eq_true rfl) (by decide) (by decide) (Nat.lt_add_right _ hb) dX8_init_188 rfl ?_
  refine kc_chC (ce' := upE ce0 30 0 (.inr (8, [vi 0, vr g 41 0, vr g 42 0, vr g 43 0, vi 0, vr g 45 0, vr g 46 0, vr g 47 0, vi 0, vr g 49 0, vi 0, vr g 51 0, vi 0, vr g 53 0, vi 0, vr g 55 0, vi 0, vr g 57 0, vr g 58 0, vr g 59 0, vi 0, vi 0, vr g 62 0, vi 0, vr g 64 0, vr g 65 0, vi 0, vr g 67 0, vr g 68 0, vr g 69 0, vr g 70 0, vr g 71 0, vr g 72 0]))) (upE_up _ _ _ _ _) ?_
  refine kc_iconst hC dX8_init_191 rfl ?_
  refine kc_istore_n (lv' := [(1, _), (0, _)]) hC dX8_init_192 rfl (by decide) rfl ?_
  clear ha41 ha42 ha43 ha45 ha46 ha47 ha49 ha51 ha53 ha55 ha57 ha58 ha59 ha62 ha64 ha65 ha67 ha68 ha70 ha71 ha72
  refine kc_chC (ce' := ce0) (upE_id hce) ?_
  have hl : ∀ (n x : Nat), x ≤ 4 → 4 - x < n → Wc E g 2 (upE ce0 69 0 (ka_i g 4 (fun j => if 0 ≤ j ∧ j < (x : Int) then -1 else 0))) (N + 22) 22 24958 193 [(0, vr g 30 0), (1, vi (x : Int))] [] := by
    intro n
    induction n with
    | zero => intro x h1 h2; exact absurd h2 (by omega)
    | succ n ih =>
      intro x hx hn
      refine kc_iload_n hC dX8_init_193 rfl 1 rfl ?_
      refine kc_iconst hC dX8_init_194 rfl ?_
      refine kc_icmp_ge (tgt := 211) hC dX8_init_195 rfl (by decide) (by omega) (by omega) ⟨fun c1 => ?_, fun c1 => ?_⟩
      · obtain rfl : x = 4 := by omega
        exact hR _ _ dX8_init_211
      · refine kc_aload_n hC dX8_init_198 rfl 0 rfl ?_
        refine kc_get (f := 29) hC w8 (by rw [upE_n _ _ (fun q => absurd q.1 (by decide))]; exact hce) rfl (by decide) f234 rfl rfl (by decide) (by decide) (Nat.lt_add_right _ hb) dX8_init_199 rfl ?_
        refine kc_iload_n hC dX8_init_202 rfl 1 rfl ?_
        refine kc_iconst hC dX8_init_203 rfl ?_
        refine kc_iast (n := 4) hC (upE_s _ _ _ _) (by decide) (by decide) (by decide) (by rw [ha69]; exact Nat.add_lt_add_left (by decide) N) (Int.natCast_nonneg x) (by omega) dX8_init_204 rfl ?_
        refine kc_chC (ce' := upE ce0 69 0 (ka_i g 4 (fun j => if 0 ≤ j ∧ j < ((x + 1 : Nat) : Int) then -1 else 0))) (by rw [upE_up, lane_step]) ?_
        refine kc_iinc (lv' := [(1, _), (0, _)]) hC dX8_init_205 rfl 1 rfl (by decide) rfl ?_
        refine kc_goto (tgt := 193) hC dX8_init_208 rfl (by decide) ?_
        refine kc_lv [1, 0] rfl ?_
        exact ih (x + 1) (by omega) (by omega)
  refine kc_lv [1, 0] rfl ?_
  refine kc_chC (ce' := upE ce0 69 0 (ka_i g 4 (fun j => if 0 ≤ j ∧ j < ((0 : Nat) : Int) then -1 else 0))) (by rw [lane_0]; exact (upE_id hcm69).symm) ?_
  exact hl 5 0 (by omega) (by omega)

