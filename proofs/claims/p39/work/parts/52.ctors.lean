set_option maxHeartbeats 4000000 in
set_option maxRecDepth 100000 in
/-- Word() -/
theorem cn_X6_init {g : wG} (hD : wD g) {ce0 : Nat → Int → va_E} {N : Nat} {i : Int} (h0 : 0 ≤ i) (h1 : i < 12) (hce : ce0 1 i = .inr (6, [vr g 2 i, vi 0])) (hc2 : ce0 2 i = ka_i g 100 (fun _ => 0)) (ha : g.2.2 2 i = N) (hb : g.2.2 1 i < N) (l : Launch) : Kn l yX6_init wsX6_init ({ frames := 1, cells := 1, slots := 100, locals := 12 } : Room) g (upE ce0 1 i (.inr (6, [.null, vi 0]))) N [vr g 1 i] ce0 (N + 1) 1 100 := by
  refine Kn.of (cc := cX6_init) (nL := 1) (own := RX6) rfl hD (by decide) rfl (Nat.le_of_ble_eq_true rfl) rfl ?_
  intro E hC hY hR
  have f9 : Cond.fieldLink RX6 9 "MirrorBench$Word" "mirrors" "[I" ∈ wsX6_init := by decide +kernel
  have w6 : ∀ w ∈ wsX60, w ∈ wsX6_init := by decide +kernel
  show Wc E g 1 (upE ce0 1 i (.inr (6, [.null, vi 0]))) N 0 0 0 [(0, vr g 1 i)] []
  refine kc_aload_n hC dX6_init_0 rfl 0 rfl ?_
  refine kc_obj hC (by decide +kernel) (by decide +kernel) (by decide +kernel) (Nat.le_of_ble_eq_true rfl) (Nat.le_of_ble_eq_true rfl) dX6_init_1 rfl ?_
  refine kc_aload_n hC dX6_init_4 rfl 0 rfl ?_
  refine kc_bipush hC dX6_init_5 rfl (by decide) ?_
  refine kc_newi (k := 2) (i := i) (n := 100) hC (by decide +kernel) rfl (Nat.le_of_ble_eq_true rfl) (by omega) (by omega) (show (_ : Int) < 12 by omega) (by rw [upE_n _ _ (fun q => absurd q.1 (by decide))]; exact hc2) (Nat.le_of_ble_eq_true rfl) (Nat.le_of_ble_eq_true rfl) dX6_init_7 rfl ?_
  refine kc_N (N' := N + 1) (c' := 1) (s' := 100) rfl rfl rfl ?_
  refine kc_put (f := 0) (ty := .array .int) (v := vr g 2 i) hC hY w6 tyX6 tyX6_ok nmX6 (upE_s _ _ _ _) rfl (by decide) f9 rfl rfl rfl (by decide +kernel) rfl rfl (Nat.le_of_ble_eq_true rfl) (by omega) (show (_ : Int) < 12 by omega) (Nat.lt_add_right _ hb) dX6_init_9 rfl ?_
  refine kc_chC (ce' := upE ce0 1 i (.inr (6, [vr g 2 i, vi 0]))) (upE_up _ _ _ _ _) ?_
  refine kc_chC (upE_id hce) ?_
  exact hR _ _ dX6_init_12
set_option maxHeartbeats 4000000 in
set_option maxRecDepth 100000 in
/-- Mirrors() -/
theorem cn_X3_init {g : wG} (hD : wD g) {ce0 : Nat → Int → va_E} {N : Nat} {i : Int} (h0 : 0 ≤ i) (h1 : i < 17) (hce : ce0 3 i = .inr (3, [vr g 4 i, vr g 5 i, vi 0])) (hc4 : ce0 4 i = ka_i g 6 (fun _ => 0)) (hc5 : ce0 5 i = ka_i g 36 (fun _ => 0)) (ha : g.2.2 4 i = N) (ha2 : g.2.2 5 i = N + 1) (hb : g.2.2 3 i < N) (l : Launch) : Kn l yX3_init wsX3_init ({ frames := 1, cells := 2, slots := 42, locals := 12 } : Room) g (upE ce0 3 i (.inr (3, [.null, .null, vi 0]))) N [vr g 3 i] ce0 (N + 2) 2 42 := by
  refine Kn.of (cc := cX3_init) (nL := 1) (own := RX3) rfl hD (by decide) rfl (Nat.le_of_ble_eq_true rfl) rfl ?_
  intro E hC hY hR
  have f9 : Cond.fieldLink RX3 9 "MirrorBench$Mirrors" "kinds" "[I" ∈ wsX3_init := by decide +kernel
  have f15 : Cond.fieldLink RX3 15 "MirrorBench$Mirrors" "numbers" "[I" ∈ wsX3_init := by decide +kernel
  have w3 : ∀ w ∈ wsX30, w ∈ wsX3_init := by decide +kernel
  show Wc E g 1 (upE ce0 3 i (.inr (3, [.null, .null, vi 0]))) N 0 0 0 [(0, vr g 3 i)] []
  refine kc_aload_n hC dX3_init_0 rfl 0 rfl ?_
  refine kc_obj hC (by decide +kernel) (by decide +kernel) (by decide +kernel) (Nat.le_of_ble_eq_true rfl) (Nat.le_of_ble_eq_true rfl) dX3_init_1 rfl ?_
  refine kc_aload_n hC dX3_init_4 rfl 0 rfl ?_
  refine kc_bipush hC dX3_init_5 rfl (by decide) ?_
  refine kc_newi (k := 4) (i := i) (n := 6) hC (by decide +kernel) rfl (Nat.le_of_ble_eq_true rfl) (by omega) (by omega) (show (_ : Int) < 17 by omega) (by rw [upE_n _ _ (fun q => absurd q.1 (by decide))]; exact hc4) (Nat.le_of_ble_eq_true rfl) (Nat.le_of_ble_eq_true rfl) dX3_init_7 rfl ?_
  refine kc_N (N' := N + 1) (c' := 1) (s' := 6) rfl rfl rfl ?_
  refine kc_put (f := 0) (ty := .array .int) (v := vr g 4 i) hC hY w3 tyX3 tyX3_ok nmX3 (upE_s _ _ _ _) rfl (by decide) f9 rfl rfl rfl (by decide +kernel) rfl rfl (Nat.le_of_ble_eq_true rfl) (by omega) (show (_ : Int) < 17 by omega) (Nat.lt_add_right _ hb) dX3_init_9 rfl ?_
  refine kc_chC (ce' := upE ce0 3 i (.inr (3, [vr g 4 i, .null, vi 0]))) (upE_up _ _ _ _ _) ?_
  refine kc_aload_n hC dX3_init_12 rfl 0 rfl ?_
  refine kc_bipush hC dX3_init_13 rfl (by decide) ?_
  refine kc_newi (k := 5) (i := i) (n := 36) hC (by decide +kernel) rfl (Nat.le_of_ble_eq_true rfl) (by omega) (by omega) (show (_ : Int) < 17 by omega) (by rw [upE_n _ _ (fun q => absurd q.1 (by decide))]; exact hc5) (Nat.le_of_ble_eq_true rfl) (Nat.le_of_ble_eq_true rfl) dX3_init_15 rfl ?_
  refine kc_N (N' := N + 2) (c' := 2) (s' := 42) rfl rfl rfl ?_
  refine kc_put (f := 1) (ty := .array .int) (v := vr g 5 i) hC hY w3 tyX3 tyX3_ok nmX3 (upE_s _ _ _ _) rfl (by decide) f15 rfl rfl rfl (by decide +kernel) rfl rfl (Nat.le_of_ble_eq_true rfl) (by omega) (show (_ : Int) < 17 by omega) (Nat.lt_add_right _ hb) dX3_init_17 rfl ?_
  refine kc_chC (ce' := upE ce0 3 i (.inr (3, [vr g 4 i, vr g 5 i, vi 0]))) (upE_up _ _ _ _ _) ?_
  refine kc_chC (upE_id hce) ?_
  exact hR _ _ dX3_init_20
set_option maxHeartbeats 4000000 in
set_option maxRecDepth 100000 in
/-- Leaf() -/
theorem cn_X2_init {g : wG} (hD : wD g) {ce0 : Nat → Int → va_E} {N : Nat} {i : Int} (h0 : 0 ≤ i) (h1 : i < 4) (hce : ce0 6 i = .inr (2, [vr g 7 i, vi 0, vi 0, vi 0])) (hc7 : ce0 7 i = ka_l g 40 (fun _ => 0)) (ha : g.2.2 7 i = N) (hb : g.2.2 6 i < N) (l : Launch) : Kn l yX2_init wsX2_init ({ frames := 1, cells := 1, slots := 40, locals := 12 } : Room) g (upE ce0 6 i (.inr (2, [.null, vi 0, vi 0, vi 0]))) N [vr g 6 i] ce0 (N + 1) 1 40 := by
  refine Kn.of (cc := cX2_init) (nL := 1) (own := RX2) rfl hD (by decide) rfl (Nat.le_of_ble_eq_true rfl) rfl ?_
  intro E hC hY hR
  have f9 : Cond.fieldLink RX2 9 "MirrorBench$Leaf" "items" "[J" ∈ wsX2_init := by decide +kernel
  have w2 : ∀ w ∈ wsX20, w ∈ wsX2_init := by decide +kernel
  show Wc E g 1 (upE ce0 6 i (.inr (2, [.null, vi 0, vi 0, vi 0]))) N 0 0 0 [(0, vr g 6 i)] []
  refine kc_aload_n hC dX2_init_0 rfl 0 rfl ?_
  refine kc_obj hC (by decide +kernel) (by decide +kernel) (by decide +kernel) (Nat.le_of_ble_eq_true rfl) (Nat.le_of_ble_eq_true rfl) dX2_init_1 rfl ?_
  refine kc_aload_n hC dX2_init_4 rfl 0 rfl ?_
  refine kc_bipush hC dX2_init_5 rfl (by decide) ?_
  refine kc_newl (k := 7) (i := i) (n := 40) hC (by decide +kernel) rfl (Nat.le_of_ble_eq_true rfl) (by omega) (by omega) (show (_ : Int) < 4 by omega) (by rw [upE_n _ _ (fun q => absurd q.1 (by decide))]; exact hc7) (Nat.le_of_ble_eq_true rfl) (Nat.le_of_ble_eq_true rfl) dX2_init_7 rfl ?_
  refine kc_N (N' := N + 1) (c' := 1) (s' := 40) rfl rfl rfl ?_
  refine kc_put (f := 0) (ty := .array .long) (v := vr g 7 i) hC hY w2 tyX2 tyX2_ok nmX2 (upE_s _ _ _ _) rfl (by decide) f9 rfl rfl rfl (by decide +kernel) rfl rfl (Nat.le_of_ble_eq_true rfl) (by omega) (show (_ : Int) < 4 by omega) (Nat.lt_add_right _ hb) dX2_init_9 rfl ?_
  refine kc_chC (ce' := upE ce0 6 i (.inr (2, [vr g 7 i, vi 0, vi 0, vi 0]))) (upE_up _ _ _ _ _) ?_
  refine kc_chC (upE_id hce) ?_
  exact hR _ _ dX2_init_12
set_option maxHeartbeats 4000000 in
set_option maxRecDepth 100000 in
/-- RootList() -/
theorem cn_X4_init {g : wG} (hD : wD g) {ce0 : Nat → Int → va_E} {N : Nat} (hce : ce0 12 0 = .inr (4, [vr g 3 16, vr g 13 0, vr g 14 0, vr g 15 0, vi 0, vi 0])) (hc13 : ce0 13 0 = ka_l g 400 (fun _ => 0)) (hc14 : ce0 14 0 = ka_l g 400 (fun _ => 0)) (hc15 : ce0 15 0 = ka_i g 42 (fun _ => 0)) (ha : g.2.2 13 0 = N) (ha2 : g.2.2 14 0 = N + 1) (ha3 : g.2.2 15 0 = N + 2) (hb : g.2.2 12 0 < N) (l : Launch) : Kn l yX4_init wsX4_init ({ frames := 1, cells := 3, slots := 842, locals := 12 } : Room) g (upE ce0 12 0 (.inr (4, [.null, .null, .null, .null, vi 0, vi 0]))) N [vr g 12 0, vr g 3 16] ce0 (N + 3) 3 842 := by
  refine Kn.of (cc := cX4_init) (nL := 2) (own := RX4) rfl hD (by decide) rfl (Nat.le_of_ble_eq_true rfl) rfl ?_
  intro E hC hY hR
  have f11 : Cond.fieldLink RX4 11 "MirrorBench$RootList" "keys" "[J" ∈ wsX4_init := by decide +kernel
  have f15 : Cond.fieldLink RX4 15 "MirrorBench$RootList" "ups" "[J" ∈ wsX4_init := by decide +kernel
  have f18 : Cond.fieldLink RX4 18 "MirrorBench$RootList" "firsts" "[I" ∈ wsX4_init := by decide +kernel
  have f22 : Cond.fieldLink RX4 22 "MirrorBench$RootList" "set" "LMirrorBench$Mirrors;" ∈ wsX4_init := by decide +kernel
  have w4 : ∀ w ∈ wsX40, w ∈ wsX4_init := by decide +kernel
  show Wc E g 2 (upE ce0 12 0 (.inr (4, [.null, .null, .null, .null, vi 0, vi 0]))) N 0 0 0 [(0, vr g 12 0), (1, vr g 3 16)] []
  refine kc_aload_n hC dX4_init_0 rfl 0 rfl ?_
  refine kc_obj hC (by decide +kernel) (by decide +kernel) (by decide +kernel) (Nat.le_of_ble_eq_true rfl) (Nat.le_of_ble_eq_true rfl) dX4_init_1 rfl ?_
  refine kc_aload_n hC dX4_init_4 rfl 0 rfl ?_
  refine kc_sipush hC dX4_init_5 rfl (by decide) ?_
  refine kc_newl (k := 13) (i := 0) (n := 400) hC (by decide +kernel) rfl (Nat.le_of_ble_eq_true rfl) (by omega) (by decide) (by decide) (by rw [upE_n _ _ (fun q => absurd q.1 (by decide))]; exact hc13) (Nat.le_of_ble_eq_true rfl) (Nat.le_of_ble_eq_true rfl) dX4_init_8 rfl ?_
  refine kc_N (N' := N + 1) (c' := 1) (s' := 400) rfl rfl rfl ?_
  refine kc_put (f := 1) (ty := .array .long) (v := vr g 13 0) hC hY w4 tyX4 tyX4_ok nmX4 (upE_s _ _ _ _) rfl (by decide) f11 rfl rfl rfl (by decide +kernel) rfl rfl (Nat.le_of_ble_eq_true rfl) (by decide) (by decide) (Nat.lt_add_right _ hb) dX4_init_10 rfl ?_
  refine kc_chC (ce' := upE ce0 12 0 (.inr (4, [.null, vr g 13 0, .null, .null, vi 0, vi 0]))) (upE_up _ _ _ _ _) ?_
  refine kc_aload_n hC dX4_init_13 rfl 0 rfl ?_
  refine kc_sipush hC dX4_init_14 rfl (by decide) ?_
  refine kc_newl (k := 14) (i := 0) (n := 400) hC (by decide +kernel) rfl (Nat.le_of_ble_eq_true rfl) (by omega) (by decide) (by decide) (by rw [upE_n _ _ (fun q => absurd q.1 (by decide))]; exact hc14) (Nat.le_of_ble_eq_true rfl) (Nat.le_of_ble_eq_true rfl) dX4_init_17 rfl ?_
  refine kc_N (N' := N + 2) (c' := 2) (s' := 800) rfl rfl rfl ?_
  refine kc_put (f := 2) (ty := .array .long) (v := vr g 14 0) hC hY w4 tyX4 tyX4_ok nmX4 (upE_s _ _ _ _) rfl (by decide) f15 rfl rfl rfl (by decide +kernel) rfl rfl (Nat.le_of_ble_eq_true rfl) (by decide) (by decide) (Nat.lt_add_right _ hb) dX4_init_19 rfl ?_
  refine kc_chC (ce' := upE ce0 12 0 (.inr (4, [.null, vr g 13 0, vr g 14 0, .null, vi 0, vi 0]))) (upE_up _ _ _ _ _) ?_
  refine kc_aload_n hC dX4_init_22 rfl 0 rfl ?_
  refine kc_bipush hC dX4_init_23 rfl (by decide) ?_
  refine kc_newi (k := 15) (i := 0) (n := 42) hC (by decide +kernel) rfl (Nat.le_of_ble_eq_true rfl) (by omega) (by decide) (by decide) (by rw [upE_n _ _ (fun q => absurd q.1 (by decide))]; exact hc15) (Nat.le_of_ble_eq_true rfl) (Nat.le_of_ble_eq_true rfl) dX4_init_25 rfl ?_
  refine kc_N (N' := N + 3) (c' := 3) (s' := 842) rfl rfl rfl ?_
  refine kc_put (f := 3) (ty := .array .int) (v := vr g 15 0) hC hY w4 tyX4 tyX4_ok nmX4 (upE_s _ _ _ _) rfl (by decide) f18 rfl rfl rfl (by decide +kernel) rfl rfl (Nat.le_of_ble_eq_true rfl) (by decide) (by decide) (Nat.lt_add_right _ hb) dX4_init_27 rfl ?_
  refine kc_chC (ce' := upE ce0 12 0 (.inr (4, [.null, vr g 13 0, vr g 14 0, vr g 15 0, vi 0, vi 0]))) (upE_up _ _ _ _ _) ?_
  refine kc_aload_n hC dX4_init_30 rfl 0 rfl ?_
  refine kc_aload_n hC dX4_init_31 rfl 1 rfl ?_
  refine kc_put (f := 0) (ty := .object "MirrorBench$Mirrors") (v := vr g 3 16) hC hY w4 tyX4 tyX4_ok nmX4 (upE_s _ _ _ _) rfl (by decide) f22 rfl rfl rfl (by decide +kernel) rfl rfl (Nat.le_of_ble_eq_true rfl) (by decide) (by decide) (Nat.lt_add_right _ hb) dX4_init_32 rfl ?_
  refine kc_chC (ce' := upE ce0 12 0 (.inr (4, [vr g 3 16, vr g 13 0, vr g 14 0, vr g 15 0, vi 0, vi 0]))) (upE_up _ _ _ _ _) ?_
  refine kc_chC (upE_id hce) ?_
  exact hR _ _ dX4_init_35
set_option maxHeartbeats 4000000 in
set_option maxRecDepth 100000 in
/-- Shortener() -/
theorem cn_X5_init {g : wG} (hD : wD g) {ce0 : Nat → Int → va_E} {N : Nat} (hce : ce0 10 0 = .inr (5, [vr g 3 16, vr g 11 0, vr g 1 11])) (hc11 : ce0 11 0 = ka_l g 6 (fun _ => 0)) (hc1 : ce0 1 11 = .inr (6, [vr g 2 11, vi 0])) (hc2 : ce0 2 11 = ka_i g 100 (fun _ => 0)) (ha : g.2.2 11 0 = N) (ha2 : g.2.2 1 11 = N + 1) (ha3 : g.2.2 2 11 = N + 2) (hb : g.2.2 10 0 < N) (l : Launch) : Kn l yX5_init wsX5_init ({ frames := 2, cells := 3, slots := 108, locals := 32 } : Room) g (upE ce0 10 0 (.inr (5, [.null, .null, .null]))) N [vr g 10 0, vr g 3 16] ce0 (N + 3) 3 108 := by
  refine Kn.of (cc := cX5_init) (nL := 2) (own := RX5) rfl hD (by decide) rfl (Nat.le_of_ble_eq_true rfl) rfl ?_
  intro E hC hY hR
  have f9 : Cond.fieldLink RX5 9 "MirrorBench$Shortener" "root" "[J" ∈ wsX5_init := by decide +kernel
  have f18 : Cond.fieldLink RX5 18 "MirrorBench$Shortener" "rest" "LMirrorBench$Word;" ∈ wsX5_init := by decide +kernel
  have f22 : Cond.fieldLink RX5 22 "MirrorBench$Shortener" "set" "LMirrorBench$Mirrors;" ∈ wsX5_init := by decide +kernel
  have w5 : ∀ w ∈ wsX50, w ∈ wsX5_init := by decide +kernel
  show Wc E g 2 (upE ce0 10 0 (.inr (5, [.null, .null, .null]))) N 0 0 0 [(0, vr g 10 0), (1, vr g 3 16)] []
  refine kc_aload_n hC dX5_init_0 rfl 0 rfl ?_
  refine kc_obj hC (by decide +kernel) (by decide +kernel) (by decide +kernel) (Nat.le_of_ble_eq_true rfl) (Nat.le_of_ble_eq_true rfl) dX5_init_1 rfl ?_
  refine kc_aload_n hC dX5_init_4 rfl 0 rfl ?_
  refine kc_bipush hC dX5_init_5 rfl (by decide) ?_
  refine kc_newl (k := 11) (i := 0) (n := 6) hC (by decide +kernel) rfl (Nat.le_of_ble_eq_true rfl) (by omega) (by decide) (by decide) (by rw [upE_n _ _ (fun q => absurd q.1 (by decide))]; exact hc11) (Nat.le_of_ble_eq_true rfl) (Nat.le_of_ble_eq_true rfl) dX5_init_7 rfl ?_
  refine kc_N (N' := N + 1) (c' := 1) (s' := 6) rfl rfl rfl ?_
  refine kc_put (f := 1) (ty := .array .long) (v := vr g 11 0) hC hY w5 tyX5 tyX5_ok nmX5 (upE_s _ _ _ _) rfl (by decide) f9 rfl rfl rfl (by decide +kernel) rfl rfl (Nat.le_of_ble_eq_true rfl) (by decide) (by decide) (Nat.lt_add_right _ hb) dX5_init_9 rfl ?_
  refine kc_chC (ce' := upE ce0 10 0 (.inr (5, [.null, vr g 11 0, .null]))) (upE_up _ _ _ _ _) ?_
  refine kc_aload_n hC dX5_init_12 rfl 0 rfl ?_
  refine kc_new (k := 1) (i := 11) (ci := 6) (C := RX6) (T := TX6) (Nf := 2) (fs := [.null, vi 0]) hC (by decide +kernel) tyX6 tyX6_ok (by decide +kernel) (by decide +kernel) (by decide +kernel) rfl (fun j hj => by rcases (show j = 0 ∨ j = 1 by omega) with rfl | rfl <;> rfl) (by omega) (by decide) (by decide) (Nat.le_of_ble_eq_true rfl) (Nat.le_of_ble_eq_true rfl) dX5_init_13 rfl ?_
  refine kc_N (N' := N + 2) (c' := 2) (s' := 8) rfl rfl rfl ?_
  refine kc_dup hC dX5_init_16 rfl rfl ?_
  refine kc_callIN (host := RX7) hC hY (cn_X6_init hD (by omega) (by omega) (by rw [upE_n _ _ (fun q => absurd q.1 (by decide))]; exact hc1) (by rw [upE_n _ _ (fun q => absurd q.1 (by decide))]; exact hc2) (by omega) (by omega)) (by decide +kernel) ggX5_init_X6_init (by decide +kernel) (by decide +kernel) rfl ⟨rfl, rfl⟩ 0 rfl (by decide +kernel) ⟨by decide, by decide⟩ rfl rfl (Nat.le_of_ble_eq_true rfl) ⟨Nat.le_of_ble_eq_true rfl, Nat.le_of_ble_eq_true rfl⟩ dX5_init_17 rfl ?_
  refine kc_N (N' := N + 3) (c' := 3) (s' := 108) rfl rfl rfl ?_
  refine kc_put (f := 2) (ty := .object "MirrorBench$Word") (v := vr g 1 11) hC hY w5 tyX5 tyX5_ok nmX5 (upE_s _ _ _ _) rfl (by decide) f18 rfl rfl rfl (by decide +kernel) rfl rfl (Nat.le_of_ble_eq_true rfl) (by decide) (by decide) (Nat.lt_add_right _ hb) dX5_init_20 rfl ?_
  refine kc_chC (ce' := upE ce0 10 0 (.inr (5, [.null, vr g 11 0, vr g 1 11]))) (upE_up _ _ _ _ _) ?_
  refine kc_aload_n hC dX5_init_23 rfl 0 rfl ?_
  refine kc_aload_n hC dX5_init_24 rfl 1 rfl ?_
  refine kc_put (f := 0) (ty := .object "MirrorBench$Mirrors") (v := vr g 3 16) hC hY w5 tyX5 tyX5_ok nmX5 (upE_s _ _ _ _) rfl (by decide) f22 rfl rfl rfl (by decide +kernel) rfl rfl (Nat.le_of_ble_eq_true rfl) (by decide) (by decide) (Nat.lt_add_right _ hb) dX5_init_25 rfl ?_
  refine kc_chC (ce' := upE ce0 10 0 (.inr (5, [vr g 3 16, vr g 11 0, vr g 1 11]))) (upE_up _ _ _ _ _) ?_
  refine kc_chC (upE_id hce) ?_
  exact hR _ _ dX5_init_28
set_option maxHeartbeats 4000000 in
set_option maxRecDepth 100000 in
/-- FormList() -/
theorem cn_X0_init {g : wG} (hD : wD g) {ce0 : Nat → Int → va_E} {N : Nat} (hce : ce0 16 0 = .inr (0, [vr g 3 16, vr g 17 0, vr g 18 0, vr g 19 0, vi 0, vi 0])) (hc17 : ce0 17 0 = ka_i g 3600 (fun _ => 0)) (hc18 : ce0 18 0 = ka_i g 13 (fun _ => 0)) (hc19 : ce0 19 0 = ka_l g 6 (fun _ => 0)) (ha : g.2.2 17 0 = N) (ha2 : g.2.2 18 0 = N + 1) (ha3 : g.2.2 19 0 = N + 2) (hb : g.2.2 16 0 < N) (l : Launch) : Kn l yX0_init wsX0_init ({ frames := 1, cells := 3, slots := 3619, locals := 12 } : Room) g (upE ce0 16 0 (.inr (0, [.null, .null, .null, .null, vi 0, vi 0]))) N [vr g 16 0, vr g 3 16] (upE ce0 18 0 (ka_i g 13 (fun j => if j = 0 then 1 else 0))) (N + 3) 3 3619 := by
  refine Kn.of (cc := cX0_init) (nL := 2) (own := RX0) rfl hD (by decide) rfl (Nat.le_of_ble_eq_true rfl) rfl ?_
  intro E hC hY hR
  have f11 : Cond.fieldLink RX0 11 "MirrorBench$FormList" "codes" "[I" ∈ wsX0_init := by decide +kernel
  have f15 : Cond.fieldLink RX0 15 "MirrorBench$FormList" "counts" "[I" ∈ wsX0_init := by decide +kernel
  have f18 : Cond.fieldLink RX0 18 "MirrorBench$FormList" "root" "[J" ∈ wsX0_init := by decide +kernel
  have f22 : Cond.fieldLink RX0 22 "MirrorBench$FormList" "set" "LMirrorBench$Mirrors;" ∈ wsX0_init := by decide +kernel
  have w0 : ∀ w ∈ wsX00, w ∈ wsX0_init := by decide +kernel
  show Wc E g 2 (upE ce0 16 0 (.inr (0, [.null, .null, .null, .null, vi 0, vi 0]))) N 0 0 0 [(0, vr g 16 0), (1, vr g 3 16)] []
  refine kc_aload_n hC dX0_init_0 rfl 0 rfl ?_
  refine kc_obj hC (by decide +kernel) (by decide +kernel) (by decide +kernel) (Nat.le_of_ble_eq_true rfl) (Nat.le_of_ble_eq_true rfl) dX0_init_1 rfl ?_
  refine kc_aload_n hC dX0_init_4 rfl 0 rfl ?_
  refine kc_sipush hC dX0_init_5 rfl (by decide) ?_
  refine kc_newi (k := 17) (i := 0) (n := 3600) hC (by decide +kernel) rfl (Nat.le_of_ble_eq_true rfl) (by omega) (by decide) (by decide) (by rw [upE_n _ _ (fun q => absurd q.1 (by decide))]; exact hc17) (Nat.le_of_ble_eq_true rfl) (Nat.le_of_ble_eq_true rfl) dX0_init_8 rfl ?_
  refine kc_N (N' := N + 1) (c' := 1) (s' := 3600) rfl rfl rfl ?_
  refine kc_put (f := 1) (ty := .array .int) (v := vr g 17 0) hC hY w0 tyX0 tyX0_ok nmX0 (upE_s _ _ _ _) rfl (by decide) f11 rfl rfl rfl (by decide +kernel) rfl rfl (Nat.le_of_ble_eq_true rfl) (by decide) (by decide) (Nat.lt_add_right _ hb) dX0_init_10 rfl ?_
  refine kc_chC (ce' := upE ce0 16 0 (.inr (0, [.null, vr g 17 0, .null, .null, vi 0, vi 0]))) (upE_up _ _ _ _ _) ?_
  refine kc_aload_n hC dX0_init_13 rfl 0 rfl ?_
  refine kc_bipush hC dX0_init_14 rfl (by decide) ?_
  refine kc_newi (k := 18) (i := 0) (n := 13) hC (by decide +kernel) rfl (Nat.le_of_ble_eq_true rfl) (by omega) (by decide) (by decide) (by rw [upE_n _ _ (fun q => absurd q.1 (by decide))]; exact hc18) (Nat.le_of_ble_eq_true rfl) (Nat.le_of_ble_eq_true rfl) dX0_init_16 rfl ?_
  refine kc_N (N' := N + 2) (c' := 2) (s' := 3613) rfl rfl rfl ?_
  refine kc_put (f := 2) (ty := .array .int) (v := vr g 18 0) hC hY w0 tyX0 tyX0_ok nmX0 (upE_s _ _ _ _) rfl (by decide) f15 rfl rfl rfl (by decide +kernel) rfl rfl (Nat.le_of_ble_eq_true rfl) (by decide) (by decide) (Nat.lt_add_right _ hb) dX0_init_18 rfl ?_
  refine kc_chC (ce' := upE ce0 16 0 (.inr (0, [.null, vr g 17 0, vr g 18 0, .null, vi 0, vi 0]))) (upE_up _ _ _ _ _) ?_
  refine kc_aload_n hC dX0_init_21 rfl 0 rfl ?_
  refine kc_bipush hC dX0_init_22 rfl (by decide) ?_
  refine kc_newl (k := 19) (i := 0) (n := 6) hC (by decide +kernel) rfl (Nat.le_of_ble_eq_true rfl) (by omega) (by decide) (by decide) (by rw [upE_n _ _ (fun q => absurd q.1 (by decide))]; exact hc19) (Nat.le_of_ble_eq_true rfl) (Nat.le_of_ble_eq_true rfl) dX0_init_24 rfl ?_
  refine kc_N (N' := N + 3) (c' := 3) (s' := 3619) rfl rfl rfl ?_
  refine kc_put (f := 3) (ty := .array .long) (v := vr g 19 0) hC hY w0 tyX0 tyX0_ok nmX0 (upE_s _ _ _ _) rfl (by decide) f18 rfl rfl rfl (by decide +kernel) rfl rfl (Nat.le_of_ble_eq_true rfl) (by decide) (by decide) (Nat.lt_add_right _ hb) dX0_init_26 rfl ?_
  refine kc_chC (ce' := upE ce0 16 0 (.inr (0, [.null, vr g 17 0, vr g 18 0, vr g 19 0, vi 0, vi 0]))) (upE_up _ _ _ _ _) ?_
  refine kc_aload_n hC dX0_init_29 rfl 0 rfl ?_
  refine kc_aload_n hC dX0_init_30 rfl 1 rfl ?_
  refine kc_put (f := 0) (ty := .object "MirrorBench$Mirrors") (v := vr g 3 16) hC hY w0 tyX0 tyX0_ok nmX0 (upE_s _ _ _ _) rfl (by decide) f22 rfl rfl rfl (by decide +kernel) rfl rfl (Nat.le_of_ble_eq_true rfl) (by decide) (by decide) (Nat.lt_add_right _ hb) dX0_init_31 rfl ?_
  refine kc_chC (ce' := upE ce0 16 0 (.inr (0, [vr g 3 16, vr g 17 0, vr g 18 0, vr g 19 0, vi 0, vi 0]))) (upE_up _ _ _ _ _) ?_
  refine kc_aload_n hC dX0_init_34 rfl 0 rfl ?_
  refine kc_get (f := 2) hC w0 (upE_s _ _ _ _) rfl (by decide) f15 rfl rfl (by decide) (by decide) (by omega) dX0_init_35 rfl ?_
  refine kc_iconst hC dX0_init_38 rfl ?_
  refine kc_iconst hC dX0_init_39 rfl ?_
  refine kc_iast (n := 13) (r := fun _ => 0) hC (by rw [upE_n _ _ (fun q => absurd q.1 (by decide))]; exact hc18) (by decide) (by decide) (by decide) (by omega) (by decide) (by decide) dX0_init_40 rfl ?_
  refine kc_chC (ce' := upE ce0 18 0 (ka_i g 13 (fun j => if j = 0 then 1 else 0))) (by rw [upE_id hce]) ?_
  exact hR _ _ dX0_init_41
theorem lane_step (x : Nat) : (fun j : Int => if j = (x : Int) then (-1 : Int) else if 0 ≤ j ∧ j < (x : Int) then -1 else 0) = fun j : Int => if 0 ≤ j ∧ j < ((x + 1 : Nat) : Int) then -1 else 0 := by
  funext j
  by_cases e1 : j = (x : Int)
  · rw [if_pos e1, if_pos (by omega)]
  · rw [if_neg e1]
    by_cases e2 : 0 ≤ j ∧ j < (x : Int)
    · rw [if_pos e2, if_pos (by omega)]
    · rw [if_neg e2, if_neg (by omega)]
theorem lane_0 : (fun j : Int => if 0 ≤ j ∧ j < ((0 : Nat) : Int) then (-1 : Int) else 0) = fun _ => 0 := by
  funext j
  rw [if_neg (by omega)]
