section KV
variable {E : wE} {g : wG} {nL : Nat} {ce : Nat → Int → va_E} {N cells slots : Nat} {pc : Nat} {lv : List (Nat × Value)} {st : List Value}
theorem upE_3 (ce : Nat → Int → va_E) {k k' : Nat} {i i' : Int} (e e' f : va_E) (h : ¬ (k' = k ∧ i' = i)) : upE (upE (upE ce k i e) k' i' e') k i f = upE (upE ce k i f) k' i' e' := by
  rw [upE_cm ce e e' h, upE_up]
  funext k9 i9
  simp only [upE]
  by_cases q1 : k9 = k' ∧ i9 = i'
  · rw [if_pos q1, if_pos q1, if_neg (fun q => h ⟨q1.1.symm.trans q.1, q1.2.symm.trans q.2⟩)]
  · rw [if_neg q1, if_neg q1]
theorem kc_full {k k' n t : Nat} {i : Int} (hce : ce k i = ka_r g t n k') (kk : Wc E g nL ce N cells slots pc lv st) : Wc E g nL (upE ce k i (ka_p g t n k' (n : Int))) N cells slots pc lv st := by
  refine kc_ce (fun k9 i9 H h0 h1 h2 h3 => ?_) kk
  by_cases q : k9 = k ∧ i9 = i
  · obtain ⟨rfl, rfl⟩ := q
    rw [upE_s] at h3
    rw [hce]
    show H[_]? = some (vp_cell _ _)
    have h4 : H[g.2.2 k9 i9]? = some (vp_cell (g.2.1 t) (n, .inr (.inr (.inr (.inr (fun j => if (j : Int) < (n : Int) then some (g.2.2 k' (j : Int)) else none)))))) := h3
    rw [h4]
    rw [vp_cell_q, vp_cell_q]
    exact congrArg some (arrV_congr fun j hj => by rw [if_pos (by omega)])
  · rw [upE_n _ _ q] at h3
    exact h3
end KV
theorem ad_3 {h m : Nat} (hm : m < 16) : adX h 3 (m : Int) = h + (6 + 3 * m) := by
  show h + (if (m : Int) = 16 then 1 else 6 + 3 * (m : Int).toNat) = _
  rw [if_neg (by omega), Int.toNat_natCast]
theorem ad_4 {h m : Nat} (hm : m < 16) : adX h 4 (m : Int) = h + (7 + 3 * m) := by
  show h + (if (m : Int) = 16 then 2 else 7 + 3 * (m : Int).toNat) = _
  rw [if_neg (by omega), Int.toNat_natCast]
theorem ad_5 {h m : Nat} (hm : m < 16) : adX h 5 (m : Int) = h + (8 + 3 * m) := by
  show h + (if (m : Int) = 16 then 3 else 8 + 3 * (m : Int).toNat) = _
  rw [if_neg (by omega), Int.toNat_natCast]
theorem ad_1 {h m : Nat} (hm : m < 8) : adX h 1 (m : Int) = h + (82 + 2 * m) := by
  show h + (if (m : Int) < 8 then 82 + 2 * (m : Int).toNat else _) = _
  rw [if_pos (by omega), Int.toNat_natCast]
theorem ad_2 {h m : Nat} (hm : m < 8) : adX h 2 (m : Int) = h + (83 + 2 * m) := by
  show h + (if (m : Int) < 8 then 83 + 2 * (m : Int).toNat else _) = _
  rw [if_pos (by omega), Int.toNat_natCast]
theorem ad_6 {h m : Nat} : adX h 6 (m : Int) = h + (98 + 2 * m) := by
  show h + (98 + 2 * (m : Int).toNat) = _
  rw [Int.toNat_natCast]
theorem ad_7 {h m : Nat} : adX h 7 (m : Int) = h + (99 + 2 * m) := by
  show h + (99 + 2 * (m : Int).toNat) = _
  rw [Int.toNat_natCast]
theorem ad_24 {h m : Nat} : adX h 24 (m : Int) = h + (76 + m) := by
  show h + (76 + (m : Int).toNat) = _
  rw [Int.toNat_natCast]
theorem cz_18 (g : wG) : czf g 18 0 = ka_i g 13 (fun j => if j = 0 then 1 else 0) := by
  show ka_i g 13 (S0_ 18 0) = _
  congr 1
  funext j
  unfold S0_
  by_cases h : j = 0
  · rw [if_pos ⟨rfl, h⟩, if_pos h]
  · rw [if_neg (fun q => h q.2), if_neg (fun q => absurd q.1 (by decide)), if_neg h]

set_option maxHeartbeats 4000000 in
set_option maxRecDepth 100000 in
theorem cn_X1_init {g : wG} {h : Nat} (hg : g.2.2 = adX h) {ce0 : Nat → Int → va_E} (hce : ce0 8 0 = .inr (1, [vr g 9 0, vi 0, vi 0])) (hc9 : ce0 9 0 = ka_r g 4 16 3) (hc3 : ∀ i : Int, 0 ≤ i → i < 16 → ce0 3 i = .inr (3, [vr g 4 i, vr g 5 i, vi 0]) ∧ ce0 4 i = ka_i g 6 (fun _ => 0) ∧ ce0 5 i = ka_i g 36 (fun _ => 0)) (l : Launch) : Kn l yX1_init wsX1_init ({ frames := 2, cells := 49, slots := 736, locals := 32 } : Room) g (upE ce0 8 0 (.inr (1, [.null, vi 0, vi 0]))) (h + 5) [vr g 8 0] (ce0) (h + 54) 49 736 := by
  have hD : wD g := wD_adX hg
  refine Kn.of (cc := cX1_init) (nL := 2) (own := RX1) rfl hD (by decide) rfl (Nat.le_of_ble_eq_true rfl) rfl ?_
  intro E hC hY hR
  have f11 : Cond.fieldLink RX1 11 "MirrorBench$History" "kept" "[LMirrorBench$Mirrors;" ∈ wsX1_init := by decide +kernel
  have w1 : ∀ w ∈ wsX10, w ∈ wsX1_init := by decide +kernel
  have w3 : ∀ w ∈ wsX30, w ∈ wsX1_init := by decide +kernel
  show Wc E g 2 (upE ce0 8 0 (.inr (1, [.null, vi 0, vi 0]))) (h + 5) 0 0 0 [(0, vr g 8 0)] []
  refine kc_aload_n hC dX1_init_0 rfl 0 rfl ?_
  refine kc_obj hC (by decide +kernel) (by decide +kernel) (by decide +kernel) (Nat.le_of_ble_eq_true rfl) (Nat.le_of_ble_eq_true rfl) dX1_init_1 rfl ?_
  refine kc_aload_n hC dX1_init_4 rfl 0 rfl ?_
  refine kc_bipush hC dX1_init_5 rfl (by decide) ?_
  refine kc_anew (k := 9) (k' := 3) (i := 0) (n := 16) (t := 4) (C := RX3) hC hY (by decide +kernel) (by decide +kernel) rfl rfl (Nat.le_of_ble_eq_true rfl) (by rw [hg]; rfl) (by decide) (by decide) (Nat.le_of_ble_eq_true rfl) (Nat.le_of_ble_eq_true rfl) dX1_init_7 rfl ?_
  refine kc_put (f := 0) (ty := .array (.object "MirrorBench$Mirrors")) (v := vr g 9 0) (fs := [.null, vi 0, vi 0]) hC hY w1 tyX1 tyX1_ok nmX1 (by rw [upE_n _ _ (fun q => absurd q.1 (by decide))]; exact upE_s _ _ _ _) rfl (by decide) f11 rfl rfl rfl (by decide +kernel) rfl rfl (Nat.le_of_ble_eq_true rfl) (by decide) (by decide) (by rw [hg]; show h + 4 < _; omega) dX1_init_10 rfl ?_
  refine kc_chC (ce' := upE ce0 9 0 (ka_p g 4 16 3 0)) (by rw [upE_3 _ _ _ _ (fun q => absurd q.1 (by decide))]; exact congrArg (fun c => upE c 9 0 (ka_p g 4 16 3 0)) (upE_id hce)) ?_
  refine kc_iconst hC dX1_init_13 rfl ?_
  refine kc_istore_n (lv' := [(1, _), (0, _)]) hC dX1_init_14 rfl (by decide) rfl ?_
  have hl : ∀ (n m : Nat), m ≤ 16 → 16 - m < n → Wc E g 2 (upE ce0 9 0 (ka_p g 4 16 3 (m : Int))) (h + (6 + 3 * m)) (1 + 3 * m) (16 + 45 * m) 15 [(0, vr g 8 0), (1, vi (m : Int))] [] := by
    intro n
    induction n with
    | zero => intro m h1 h2; exact absurd h2 (by omega)
    | succ n ih =>
      intro m hm hn
      refine kc_iload_n hC dX1_init_15 rfl 1 rfl ?_
      refine kc_bipush hC dX1_init_16 rfl (by decide) ?_
      refine kc_icmp_ge (tgt := 40) hC dX1_init_18 rfl (by decide) (by omega) (by omega) ⟨fun c1 => ?_, fun c1 => ?_⟩
      · obtain rfl : m = 16 := by omega
        refine kc_full (n := 16) hc9 ?_
        exact hR _ _ dX1_init_40
      · have hm2 : m < 16 := by omega
        obtain ⟨e3, e4, e5⟩ := hc3 (m : Int) (by omega) (by omega)
        have a3 : g.2.2 3 (m : Int) = h + (6 + 3 * m) := by rw [hg]; exact ad_3 hm2
        have a4 : g.2.2 4 (m : Int) = h + (7 + 3 * m) := by rw [hg]; exact ad_4 hm2
        have a5 : g.2.2 5 (m : Int) = h + (8 + 3 * m) := by rw [hg]; exact ad_5 hm2
        have a8 : g.2.2 8 0 = h + 4 := by rw [hg]; rfl
        have a9 : g.2.2 9 0 = h + 5 := by rw [hg]; rfl
        refine kc_aload_n hC dX1_init_21 rfl 0 rfl ?_
        refine kc_get (f := 0) hC w1 (by rw [upE_n _ _ (fun q => absurd q.1 (by decide))]; exact hce) rfl (by decide) f11 rfl rfl (by decide) (by decide) (by omega) dX1_init_22 rfl ?_
        refine kc_iload_n hC dX1_init_25 rfl 1 rfl ?_
        refine kc_new (k := 3) (i := (m : Int)) (ci := 3) (C := RX3) (T := TX3) (Nf := 3) (fs := [.null, .null, vi 0]) hC w3 tyX3 tyX3_ok (by decide +kernel) (by decide +kernel) (by decide +kernel) rfl (fun j hj => by rcases (show j = 0 ∨ j = 1 ∨ j = 2 by omega) with rfl | rfl | rfl <;> rfl) a3 (by omega) (show (_ : Int) < 17 by omega) (by show _ ≤ 49; omega) (by show _ ≤ 736; omega) dX1_init_26 rfl ?_
        refine kc_dup hC dX1_init_29 rfl rfl ?_
        refine kc_callIN (host := RX7) hC hY (cn_X3_init hD (by omega) (show (_ : Int) < 17 by omega) (by rw [upE_n _ _ (fun q => absurd q.1 (by decide))]; exact e3) (by rw [upE_n _ _ (fun q => absurd q.1 (by decide))]; exact e4) (by rw [upE_n _ _ (fun q => absurd q.1 (by decide))]; exact e5) (by omega) (by omega) (by omega)) (by decide +kernel) ggX1_init_X3_init (by decide +kernel) (by decide +kernel) rfl ⟨rfl, rfl⟩ 0 rfl (by decide +kernel) ⟨by decide, by decide⟩ rfl rfl (Nat.le_of_ble_eq_true rfl) ⟨by show _ ≤ 49; omega, by show _ ≤ 736; omega⟩ dX1_init_30 rfl ?_
        refine kc_aast (n := 16) (t := 4) (ci := 3) hC (upE_s _ _ _ _) rfl rfl ⟨_, by rw [upE_n _ _ (fun q => absurd q.1 (by decide))]; exact e3⟩ (Nat.le_of_ble_eq_true rfl) (by decide) (by decide) (by omega) (by omega) (by omega) (show (_ : Int) < 17 by omega) (by omega) dX1_init_33 rfl ?_
        refine kc_chC (upE_up _ _ _ _ _) ?_
        refine kc_iinc (lv' := [(1, _), (0, _)]) hC dX1_init_34 rfl 1 rfl (by decide) rfl ?_
        refine kc_goto (tgt := 15) hC dX1_init_37 rfl (by decide) ?_
        refine kc_lv [1, 0] rfl ?_
        refine kc_N (N' := h + (6 + 3 * (m + 1))) (c' := 1 + 3 * (m + 1)) (s' := 16 + 45 * (m + 1)) (by omega) (by omega) (by omega) ?_
        exact ih (m + 1) (by omega) (by omega)
  refine kc_lv [1, 0] rfl ?_
  exact hl 17 0 (by omega) (by omega)

set_option maxHeartbeats 4000000 in
set_option maxRecDepth 100000 in
theorem cn_X7_init {g : wG} {h : Nat} (hg : g.2.2 = adX h)  (l : Launch) : Kn l yX7_init wsX7_init ({ frames := 3, cells := 105, slots := 6726, locals := 53 } : Room) g (upE (czf g) 0 0 (.inr (7, [.null, .null, .null, .null, .null, .null, .null, .null, .null, .null, .null, .null]))) (h + 1) [vr g 0 0] (czf g) (h + 106) 105 6726 := by
  have hD : wD g := wD_adX hg
  refine Kn.of (cc := cX7_init) (nL := 2) (own := RX7) rfl hD (by decide) rfl (Nat.le_of_ble_eq_true rfl) rfl ?_
  intro E hC hY hR
  have f12 : Cond.fieldLink RX7 12 "MirrorBench" "set" "LMirrorBench$Mirrors;" ∈ wsX7_init := by decide +kernel
  have f19 : Cond.fieldLink RX7 19 "MirrorBench" "history" "LMirrorBench$History;" ∈ wsX7_init := by decide +kernel
  have f25 : Cond.fieldLink RX7 25 "MirrorBench" "slots" "[LMirrorBench$Word;" ∈ wsX7_init := by decide +kernel
  have f31 : Cond.fieldLink RX7 31 "MirrorBench" "leaves" "[LMirrorBench$Leaf;" ∈ wsX7_init := by decide +kernel
  have f40 : Cond.fieldLink RX7 40 "MirrorBench" "shortener" "LMirrorBench$Shortener;" ∈ wsX7_init := by decide +kernel
  have f47 : Cond.fieldLink RX7 47 "MirrorBench" "rootList" "LMirrorBench$RootList;" ∈ wsX7_init := by decide +kernel
  have f54 : Cond.fieldLink RX7 54 "MirrorBench" "formList" "LMirrorBench$FormList;" ∈ wsX7_init := by decide +kernel
  have f59 : Cond.fieldLink RX7 59 "MirrorBench" "made" "LMirrorBench$Word;" ∈ wsX7_init := by decide +kernel
  have f63 : Cond.fieldLink RX7 63 "MirrorBench" "other" "LMirrorBench$Word;" ∈ wsX7_init := by decide +kernel
  have f66 : Cond.fieldLink RX7 66 "MirrorBench" "joined" "LMirrorBench$Word;" ∈ wsX7_init := by decide +kernel
  have f69 : Cond.fieldLink RX7 69 "MirrorBench" "spare" "[J" ∈ wsX7_init := by decide +kernel
  have f75 : Cond.fieldLink RX7 75 "MirrorBench" "images" "[[J" ∈ wsX7_init := by decide +kernel
  have w7 : ∀ w ∈ wsX70, w ∈ wsX7_init := by decide +kernel
  have w3 : ∀ w ∈ wsX30, w ∈ wsX7_init := by decide +kernel
  have w1 : ∀ w ∈ wsX10, w ∈ wsX7_init := by decide +kernel
  have w5 : ∀ w ∈ wsX50, w ∈ wsX7_init := by decide +kernel
  have w4 : ∀ w ∈ wsX40, w ∈ wsX7_init := by decide +kernel
  have w0 : ∀ w ∈ wsX00, w ∈ wsX7_init := by decide +kernel
  have w6 : ∀ w ∈ wsX60, w ∈ wsX7_init := by decide +kernel
  have w2 : ∀ w ∈ wsX20, w ∈ wsX7_init := by decide +kernel
  show Wc E g 2 (upE (czf g) 0 0 (.inr (7, [.null, .null, .null, .null, .null, .null, .null, .null, .null, .null, .null, .null]))) (h + 1) 0 0 0 [(0, vr g 0 0)] []
  refine kc_aload_n hC dX7_init_0 rfl 0 rfl ?_
  refine kc_obj hC (by decide +kernel) (by decide +kernel) (by decide +kernel) (Nat.le_of_ble_eq_true rfl) (Nat.le_of_ble_eq_true rfl) dX7_init_1 rfl ?_
  refine kc_aload_n hC dX7_init_4 rfl 0 rfl ?_
  refine kc_new (k := 3) (i := 16) (ci := 3) (C := RX3) (T := TX3) (Nf := 3) (fs := [.null, .null, vi 0]) hC w3 tyX3 tyX3_ok (by decide +kernel) (by decide +kernel) (by decide +kernel) rfl (fun j hj => by rcases (show j = 0 ∨ j = 1 ∨ j = 2 by omega) with rfl | rfl | rfl <;> rfl) (by rw [hg]; rfl) (by decide) (by decide) (Nat.le_of_ble_eq_true rfl) (Nat.le_of_ble_eq_true rfl) dX7_init_5 rfl ?_
  refine kc_N (N' := h + 2) (c' := 1) (s' := 3) rfl rfl rfl ?_
  refine kc_dup hC dX7_init_8 rfl rfl ?_
  refine kc_callIN (host := RX7) hC hY (cn_X3_init hD (by decide) (by decide) rfl rfl rfl (by rw [hg]; rfl) (by rw [hg]; rfl) (by rw [hg]; show h + 1 < _; omega)) (by decide +kernel) ggX7_init_X3_init (by decide +kernel) (by decide +kernel) rfl ⟨rfl, rfl⟩ 0 rfl (by decide +kernel) ⟨by decide, by decide⟩ rfl rfl (Nat.le_of_ble_eq_true rfl) ⟨Nat.le_of_ble_eq_true rfl, Nat.le_of_ble_eq_true rfl⟩ dX7_init_9 rfl ?_
  refine kc_N (N' := h + 4) (c' := 3) (s' := 45) rfl rfl rfl ?_
  refine kc_put (f := 0) (ty := .object "MirrorBench$Mirrors") (v := vr g 3 16) (fs := [.null, .null, .null, .null, .null, .null, .null, .null, .null, .null, .null, .null]) hC hY w7 tyX7 tyX7_ok nmX7 (upE_s _ _ _ _) rfl (by decide) f12 rfl rfl rfl (by decide +kernel) rfl rfl (Nat.le_of_ble_eq_true rfl) (by decide) (by decide) (by rw [hg]; show h + 0 < _; omega) dX7_init_12 rfl ?_
  refine kc_chC (ce' := upE (czf g) 0 0 (.inr (7, [vr g 3 16, .null, .null, .null, .null, .null, .null, .null, .null, .null, .null, .null]))) (upE_up _ _ _ _ _) ?_
  refine kc_aload_n hC dX7_init_15 rfl 0 rfl ?_
  refine kc_new (k := 8) (i := 0) (ci := 1) (C := RX1) (T := TX1) (Nf := 3) (fs := [.null, vi 0, vi 0]) hC w1 tyX1 tyX1_ok (by decide +kernel) (by decide +kernel) (by decide +kernel) rfl (fun j hj => by rcases (show j = 0 ∨ j = 1 ∨ j = 2 by omega) with rfl | rfl | rfl <;> rfl) (by rw [hg]; rfl) (by decide) (by decide) (Nat.le_of_ble_eq_true rfl) (Nat.le_of_ble_eq_true rfl) dX7_init_16 rfl ?_
  refine kc_N (N' := h + 5) (c' := 4) (s' := 48) rfl rfl rfl ?_
  refine kc_dup hC dX7_init_19 rfl rfl ?_
  refine kc_callI hC hY.kc (cn_X1_init hg rfl rfl (fun i _ _ => ⟨rfl, rfl, rfl⟩)) ggX7_init_X1_init (by decide +kernel) (by decide +kernel) (by decide +kernel) rfl ⟨rfl, rfl⟩ 0 rfl (by decide +kernel) ⟨by decide, by decide⟩ rfl rfl (Nat.le_of_ble_eq_true rfl) ⟨Nat.le_of_ble_eq_true rfl, Nat.le_of_ble_eq_true rfl⟩ dX7_init_20 rfl ?_
  refine kc_N (N' := h + 54) (c' := 53) (s' := 784) rfl rfl rfl ?_
  refine kc_put (f := 1) (ty := .object "MirrorBench$History") (v := vr g 8 0) (fs := [vr g 3 16, .null, .null, .null, .null, .null, .null, .null, .null, .null, .null, .null]) hC hY w7 tyX7 tyX7_ok nmX7 (upE_s _ _ _ _) rfl (by decide) f19 rfl rfl rfl (by decide +kernel) rfl rfl (Nat.le_of_ble_eq_true rfl) (by decide) (by decide) (by rw [hg]; show h + 0 < _; omega) dX7_init_23 rfl ?_
  refine kc_chC (ce' := upE (czf g) 0 0 (.inr (7, [vr g 3 16, vr g 8 0, .null, .null, .null, .null, .null, .null, .null, .null, .null, .null]))) (upE_up _ _ _ _ _) ?_
  refine kc_aload_n hC dX7_init_26 rfl 0 rfl ?_
  refine kc_bipush hC dX7_init_27 rfl (by decide) ?_
  refine kc_anew (k := 20) (k' := 1) (i := 0) (n := 8) (t := 2) (C := RX6) hC hY (by decide +kernel) (by decide +kernel) rfl rfl (Nat.le_of_ble_eq_true rfl) (by rw [hg]; rfl) (by decide) (by decide) (Nat.le_of_ble_eq_true rfl) (Nat.le_of_ble_eq_true rfl) dX7_init_29 rfl ?_
  refine kc_N (N' := h + 55) (c' := 54) (s' := 792) rfl rfl rfl ?_
  refine kc_chC (ce' := upE (upE (czf g) 20 0 (ka_p g 2 8 1 0)) 0 0 (.inr (7, [vr g 3 16, vr g 8 0, .null, .null, .null, .null, .null, .null, .null, .null, .null, .null]))) (upE_cm _ _ _ (fun q => absurd q.1 (by decide))) ?_
  refine kc_put (f := 2) (ty := .array (.object "MirrorBench$Word")) (v := vr g 20 0) (fs := [vr g 3 16, vr g 8 0, .null, .null, .null, .null, .null, .null, .null, .null, .null, .null]) hC hY w7 tyX7 tyX7_ok nmX7 (upE_s _ _ _ _) rfl (by decide) f25 rfl rfl rfl (by decide +kernel) rfl rfl (Nat.le_of_ble_eq_true rfl) (by decide) (by decide) (by rw [hg]; show h + 0 < _; omega) dX7_init_32 rfl ?_
  refine kc_chC (ce' := upE (upE (czf g) 20 0 (ka_p g 2 8 1 0)) 0 0 (.inr (7, [vr g 3 16, vr g 8 0, vr g 20 0, .null, .null, .null, .null, .null, .null, .null, .null, .null]))) (upE_up _ _ _ _ _) ?_
  refine kc_aload_n hC dX7_init_35 rfl 0 rfl ?_
  refine kc_iconst hC dX7_init_36 rfl ?_
  refine kc_anew (k := 21) (k' := 6) (i := 0) (n := 4) (t := 3) (C := RX2) hC hY (by decide +kernel) (by decide +kernel) rfl rfl (Nat.le_of_ble_eq_true rfl) (by rw [hg]; rfl) (by decide) (by decide) (Nat.le_of_ble_eq_true rfl) (Nat.le_of_ble_eq_true rfl) dX7_init_37 rfl ?_
  refine kc_N (N' := h + 56) (c' := 55) (s' := 796) rfl rfl rfl ?_
  refine kc_chC (ce' := upE (upE (upE (czf g) 20 0 (ka_p g 2 8 1 0)) 21 0 (ka_p g 3 4 6 0)) 0 0 (.inr (7, [vr g 3 16, vr g 8 0, vr g 20 0, .null, .null, .null, .null, .null, .null, .null, .null, .null]))) (upE_cm _ _ _ (fun q => absurd q.1 (by decide))) ?_
  refine kc_put (f := 3) (ty := .array (.object "MirrorBench$Leaf")) (v := vr g 21 0) (fs := [vr g 3 16, vr g 8 0, vr g 20 0, .null, .null, .null, .null, .null, .null, .null, .null, .null]) hC hY w7 tyX7 tyX7_ok nmX7 (upE_s _ _ _ _) rfl (by decide) f31 rfl rfl rfl (by decide +kernel) rfl rfl (Nat.le_of_ble_eq_true rfl) (by decide) (by decide) (by rw [hg]; show h + 0 < _; omega) dX7_init_40 rfl ?_
  refine kc_chC (ce' := upE (upE (upE (czf g) 20 0 (ka_p g 2 8 1 0)) 21 0 (ka_p g 3 4 6 0)) 0 0 (.inr (7, [vr g 3 16, vr g 8 0, vr g 20 0, vr g 21 0, .null, .null, .null, .null, .null, .null, .null, .null]))) (upE_up _ _ _ _ _) ?_
  refine kc_aload_n hC dX7_init_43 rfl 0 rfl ?_
  refine kc_new (k := 10) (i := 0) (ci := 5) (C := RX5) (T := TX5) (Nf := 3) (fs := [.null, .null, .null]) hC w5 tyX5 tyX5_ok (by decide +kernel) (by decide +kernel) (by decide +kernel) rfl (fun j hj => by rcases (show j = 0 ∨ j = 1 ∨ j = 2 by omega) with rfl | rfl | rfl <;> rfl) (by rw [hg]; rfl) (by decide) (by decide) (Nat.le_of_ble_eq_true rfl) (Nat.le_of_ble_eq_true rfl) dX7_init_44 rfl ?_
  refine kc_N (N' := h + 57) (c' := 56) (s' := 799) rfl rfl rfl ?_
  refine kc_dup hC dX7_init_47 rfl rfl ?_
  refine kc_aload_n hC dX7_init_48 rfl 0 rfl ?_
  refine kc_get (f := 0) (fs := [vr g 3 16, vr g 8 0, vr g 20 0, vr g 21 0, .null, .null, .null, .null, .null, .null, .null, .null]) hC w7 (by first | exact upE_s _ _ _ _ | (rw [upE_n _ _ (fun q => absurd q.1 (by decide))]; exact upE_s _ _ _ _)) rfl (by decide) f12 rfl rfl (by decide) (by decide) (by rw [hg]; show h + 0 < _; omega) dX7_init_49 rfl ?_
  refine kc_callI hC hY.kc (cn_X5_init hD rfl rfl rfl rfl (by rw [hg]; rfl) (by rw [hg]; rfl) (by rw [hg]; rfl) (by rw [hg]; show h + 56 < _; omega)) ggX7_init_X5_init (by decide +kernel) (by decide +kernel) (by decide +kernel) rfl ⟨rfl, rfl⟩ 1 rfl (by decide +kernel) ⟨by decide, by decide⟩ rfl rfl (Nat.le_of_ble_eq_true rfl) ⟨Nat.le_of_ble_eq_true rfl, Nat.le_of_ble_eq_true rfl⟩ dX7_init_52 rfl ?_
  refine kc_N (N' := h + 60) (c' := 59) (s' := 907) rfl rfl rfl ?_
  refine kc_put (f := 4) (ty := .object "MirrorBench$Shortener") (v := vr g 10 0) (fs := [vr g 3 16, vr g 8 0, vr g 20 0, vr g 21 0, .null, .null, .null, .null, .null, .null, .null, .null]) hC hY w7 tyX7 tyX7_ok nmX7 (upE_s _ _ _ _) rfl (by decide) f40 rfl rfl rfl (by decide +kernel) rfl rfl (Nat.le_of_ble_eq_true rfl) (by decide) (by decide) (by rw [hg]; show h + 0 < _; omega) dX7_init_55 rfl ?_
  refine kc_chC (ce' := upE (upE (upE (czf g) 20 0 (ka_p g 2 8 1 0)) 21 0 (ka_p g 3 4 6 0)) 0 0 (.inr (7, [vr g 3 16, vr g 8 0, vr g 20 0, vr g 21 0, vr g 10 0, .null, .null, .null, .null, .null, .null, .null]))) (upE_up _ _ _ _ _) ?_
  refine kc_aload_n hC dX7_init_58 rfl 0 rfl ?_
  refine kc_new (k := 12) (i := 0) (ci := 4) (C := RX4) (T := TX4) (Nf := 6) (fs := [.null, .null, .null, .null, vi 0, vi 0]) hC w4 tyX4 tyX4_ok (by decide +kernel) (by decide +kernel) (by decide +kernel) rfl (fun j hj => by rcases (show j = 0 ∨ j = 1 ∨ j = 2 ∨ j = 3 ∨ j = 4 ∨ j = 5 by omega) with rfl | rfl | rfl | rfl | rfl | rfl <;> rfl) (by rw [hg]; rfl) (by decide) (by decide) (Nat.le_of_ble_eq_true rfl) (Nat.le_of_ble_eq_true rfl) dX7_init_59 rfl ?_
  refine kc_N (N' := h + 61) (c' := 60) (s' := 913) rfl rfl rfl ?_
  refine kc_dup hC dX7_init_62 rfl rfl ?_
  refine kc_aload_n hC dX7_init_63 rfl 0 rfl ?_
  refine kc_get (f := 0) (fs := [vr g 3 16, vr g 8 0, vr g 20 0, vr g 21 0, vr g 10 0, .null, .null, .null, .null, .null, .null, .null]) hC w7 (by first | exact upE_s _ _ _ _ | (rw [upE_n _ _ (fun q => absurd q.1 (by decide))]; exact upE_s _ _ _ _)) rfl (by decide) f12 rfl rfl (by decide) (by decide) (by rw [hg]; show h + 0 < _; omega) dX7_init_64 rfl ?_
  refine kc_callI hC hY.kc (cn_X4_init hD rfl rfl rfl rfl (by rw [hg]; rfl) (by rw [hg]; rfl) (by rw [hg]; rfl) (by rw [hg]; show h + 60 < _; omega)) ggX7_init_X4_init (by decide +kernel) (by decide +kernel) (by decide +kernel) rfl ⟨rfl, rfl⟩ 1 rfl (by decide +kernel) ⟨by decide, by decide⟩ rfl rfl (Nat.le_of_ble_eq_true rfl) ⟨Nat.le_of_ble_eq_true rfl, Nat.le_of_ble_eq_true rfl⟩ dX7_init_67 rfl ?_
  refine kc_N (N' := h + 64) (c' := 63) (s' := 1755) rfl rfl rfl ?_
  refine kc_put (f := 5) (ty := .object "MirrorBench$RootList") (v := vr g 12 0) (fs := [vr g 3 16, vr g 8 0, vr g 20 0, vr g 21 0, vr g 10 0, .null, .null, .null, .null, .null, .null, .null]) hC hY w7 tyX7 tyX7_ok nmX7 (upE_s _ _ _ _) rfl (by decide) f47 rfl rfl rfl (by decide +kernel) rfl rfl (Nat.le_of_ble_eq_true rfl) (by decide) (by decide) (by rw [hg]; show h + 0 < _; omega) dX7_init_70 rfl ?_
  refine kc_chC (ce' := upE (upE (upE (czf g) 20 0 (ka_p g 2 8 1 0)) 21 0 (ka_p g 3 4 6 0)) 0 0 (.inr (7, [vr g 3 16, vr g 8 0, vr g 20 0, vr g 21 0, vr g 10 0, vr g 12 0, .null, .null, .null, .null, .null, .null]))) (upE_up _ _ _ _ _) ?_
  refine kc_aload_n hC dX7_init_73 rfl 0 rfl ?_
  refine kc_new (k := 16) (i := 0) (ci := 0) (C := RX0) (T := TX0) (Nf := 6) (fs := [.null, .null, .null, .null, vi 0, vi 0]) hC w0 tyX0 tyX0_ok (by decide +kernel) (by decide +kernel) (by decide +kernel) rfl (fun j hj => by rcases (show j = 0 ∨ j = 1 ∨ j = 2 ∨ j = 3 ∨ j = 4 ∨ j = 5 by omega) with rfl | rfl | rfl | rfl | rfl | rfl <;> rfl) (by rw [hg]; rfl) (by decide) (by decide) (Nat.le_of_ble_eq_true rfl) (Nat.le_of_ble_eq_true rfl) dX7_init_74 rfl ?_
  refine kc_N (N' := h + 65) (c' := 64) (s' := 1761) rfl rfl rfl ?_
  refine kc_dup hC dX7_init_77 rfl rfl ?_
  refine kc_aload_n hC dX7_init_78 rfl 0 rfl ?_
  refine kc_get (f := 0) (fs := [vr g 3 16, vr g 8 0, vr g 20 0, vr g 21 0, vr g 10 0, vr g 12 0, .null, .null, .null, .null, .null, .null]) hC w7 (by first | exact upE_s _ _ _ _ | (rw [upE_n _ _ (fun q => absurd q.1 (by decide))]; exact upE_s _ _ _ _)) rfl (by decide) f12 rfl rfl (by decide) (by decide) (by rw [hg]; show h + 0 < _; omega) dX7_init_79 rfl ?_
  refine kc_un (k := 18) (i := 0) (ka_i g 13 (fun _ => 0)) (by rw [hg]; show _ ≤ h + 66; omega) ?_
  refine kc_chC (upE_cm _ _ _ (fun q => absurd q.1 (by decide))) ?_
  refine kc_callI hC hY.kc (cn_X0_init hD (by rw [upE_n _ _ (fun q => absurd q.1 (by decide))]; rfl) (by rw [upE_n _ _ (fun q => absurd q.1 (by decide))]; rfl) (upE_s _ _ _ _) (by rw [upE_n _ _ (fun q => absurd q.1 (by decide))]; rfl) (by rw [hg]; rfl) (by rw [hg]; rfl) (by rw [hg]; rfl) (by rw [hg]; show h + 64 < _; omega)) ggX7_init_X0_init (by decide +kernel) (by decide +kernel) (by decide +kernel) rfl ⟨rfl, rfl⟩ 1 rfl (by decide +kernel) ⟨by decide, by decide⟩ rfl rfl (Nat.le_of_ble_eq_true rfl) ⟨Nat.le_of_ble_eq_true rfl, Nat.le_of_ble_eq_true rfl⟩ dX7_init_82 rfl ?_
  refine kc_N (N' := h + 68) (c' := 67) (s' := 5380) rfl rfl rfl ?_
  refine kc_chC (ce' := upE (upE (upE (czf g) 20 0 (ka_p g 2 8 1 0)) 21 0 (ka_p g 3 4 6 0)) 0 0 (.inr (7, [vr g 3 16, vr g 8 0, vr g 20 0, vr g 21 0, vr g 10 0, vr g 12 0, .null, .null, .null, .null, .null, .null]))) (by rw [upE_up]; exact upE_id (cz_18 g)) ?_
  refine kc_put (f := 6) (ty := .object "MirrorBench$FormList") (v := vr g 16 0) (fs := [vr g 3 16, vr g 8 0, vr g 20 0, vr g 21 0, vr g 10 0, vr g 12 0, .null, .null, .null, .null, .null, .null]) hC hY w7 tyX7 tyX7_ok nmX7 (upE_s _ _ _ _) rfl (by decide) f54 rfl rfl rfl (by decide +kernel) rfl rfl (Nat.le_of_ble_eq_true rfl) (by decide) (by decide) (by rw [hg]; show h + 0 < _; omega) dX7_init_85 rfl ?_
  refine kc_chC (ce' := upE (upE (upE (czf g) 20 0 (ka_p g 2 8 1 0)) 21 0 (ka_p g 3 4 6 0)) 0 0 (.inr (7, [vr g 3 16, vr g 8 0, vr g 20 0, vr g 21 0, vr g 10 0, vr g 12 0, vr g 16 0, .null, .null, .null, .null, .null]))) (upE_up _ _ _ _ _) ?_
  refine kc_aload_n hC dX7_init_88 rfl 0 rfl ?_
  refine kc_new (k := 1) (i := 8) (ci := 6) (C := RX6) (T := TX6) (Nf := 2) (fs := [.null, vi 0]) hC w6 tyX6 tyX6_ok (by decide +kernel) (by decide +kernel) (by decide +kernel) rfl (fun j hj => by rcases (show j = 0 ∨ j = 1 by omega) with rfl | rfl <;> rfl) (by rw [hg]; rfl) (by decide) (by decide) (Nat.le_of_ble_eq_true rfl) (Nat.le_of_ble_eq_true rfl) dX7_init_89 rfl ?_
  refine kc_N (N' := h + 69) (c' := 68) (s' := 5382) rfl rfl rfl ?_
  refine kc_dup hC dX7_init_92 rfl rfl ?_
  refine kc_callIN (host := RX7) hC hY (cn_X6_init hD (by decide) (by decide) rfl rfl (by rw [hg]; rfl) (by rw [hg]; show h + 68 < _; omega)) (by decide +kernel) ggX7_init_X6_init (by decide +kernel) (by decide +kernel) rfl ⟨rfl, rfl⟩ 0 rfl (by decide +kernel) ⟨by decide, by decide⟩ rfl rfl (Nat.le_of_ble_eq_true rfl) ⟨Nat.le_of_ble_eq_true rfl, Nat.le_of_ble_eq_true rfl⟩ dX7_init_93 rfl ?_
  refine kc_N (N' := h + 70) (c' := 69) (s' := 5482) rfl rfl rfl ?_
  refine kc_put (f := 7) (ty := .object "MirrorBench$Word") (v := vr g 1 8) (fs := [vr g 3 16, vr g 8 0, vr g 20 0, vr g 21 0, vr g 10 0, vr g 12 0, vr g 16 0, .null, .null, .null, .null, .null]) hC hY w7 tyX7 tyX7_ok nmX7 (upE_s _ _ _ _) rfl (by decide) f59 rfl rfl rfl (by decide +kernel) rfl rfl (Nat.le_of_ble_eq_true rfl) (by decide) (by decide) (by rw [hg]; show h + 0 < _; omega) dX7_init_96 rfl ?_
  refine kc_chC (ce' := upE (upE (upE (czf g) 20 0 (ka_p g 2 8 1 0)) 21 0 (ka_p g 3 4 6 0)) 0 0 (.inr (7, [vr g 3 16, vr g 8 0, vr g 20 0, vr g 21 0, vr g 10 0, vr g 12 0, vr g 16 0, vr g 1 8, .null, .null, .null, .null]))) (upE_up _ _ _ _ _) ?_
  refine kc_aload_n hC dX7_init_99 rfl 0 rfl ?_
  refine kc_new (k := 1) (i := 9) (ci := 6) (C := RX6) (T := TX6) (Nf := 2) (fs := [.null, vi 0]) hC w6 tyX6 tyX6_ok (by decide +kernel) (by decide +kernel) (by decide +kernel) rfl (fun j hj => by rcases (show j = 0 ∨ j = 1 by omega) with rfl | rfl <;> rfl) (by rw [hg]; rfl) (by decide) (by decide) (Nat.le_of_ble_eq_true rfl) (Nat.le_of_ble_eq_true rfl) dX7_init_100 rfl ?_
  refine kc_N (N' := h + 71) (c' := 70) (s' := 5484) rfl rfl rfl ?_
  refine kc_dup hC dX7_init_103 rfl rfl ?_
  refine kc_callIN (host := RX7) hC hY (cn_X6_init hD (by decide) (by decide) rfl rfl (by rw [hg]; rfl) (by rw [hg]; show h + 70 < _; omega)) (by decide +kernel) ggX7_init_X6_init (by decide +kernel) (by decide +kernel) rfl ⟨rfl, rfl⟩ 0 rfl (by decide +kernel) ⟨by decide, by decide⟩ rfl rfl (Nat.le_of_ble_eq_true rfl) ⟨Nat.le_of_ble_eq_true rfl, Nat.le_of_ble_eq_true rfl⟩ dX7_init_104 rfl ?_
  refine kc_N (N' := h + 72) (c' := 71) (s' := 5584) rfl rfl rfl ?_
  refine kc_put (f := 8) (ty := .object "MirrorBench$Word") (v := vr g 1 9) (fs := [vr g 3 16, vr g 8 0, vr g 20 0, vr g 21 0, vr g 10 0, vr g 12 0, vr g 16 0, vr g 1 8, .null, .null, .null, .null]) hC hY w7 tyX7 tyX7_ok nmX7 (upE_s _ _ _ _) rfl (by decide) f63 rfl rfl rfl (by decide +kernel) rfl rfl (Nat.le_of_ble_eq_true rfl) (by decide) (by decide) (by rw [hg]; show h + 0 < _; omega) dX7_init_107 rfl ?_
  refine kc_chC (ce' := upE (upE (upE (czf g) 20 0 (ka_p g 2 8 1 0)) 21 0 (ka_p g 3 4 6 0)) 0 0 (.inr (7, [vr g 3 16, vr g 8 0, vr g 20 0, vr g 21 0, vr g 10 0, vr g 12 0, vr g 16 0, vr g 1 8, vr g 1 9, .null, .null, .null]))) (upE_up _ _ _ _ _) ?_
  refine kc_aload_n hC dX7_init_110 rfl 0 rfl ?_
  refine kc_new (k := 1) (i := 10) (ci := 6) (C := RX6) (T := TX6) (Nf := 2) (fs := [.null, vi 0]) hC w6 tyX6 tyX6_ok (by decide +kernel) (by decide +kernel) (by decide +kernel) rfl (fun j hj => by rcases (show j = 0 ∨ j = 1 by omega) with rfl | rfl <;> rfl) (by rw [hg]; rfl) (by decide) (by decide) (Nat.le_of_ble_eq_true rfl) (Nat.le_of_ble_eq_true rfl) dX7_init_111 rfl ?_
  refine kc_N (N' := h + 73) (c' := 72) (s' := 5586) rfl rfl rfl ?_
  refine kc_dup hC dX7_init_114 rfl rfl ?_
  refine kc_callIN (host := RX7) hC hY (cn_X6_init hD (by decide) (by decide) rfl rfl (by rw [hg]; rfl) (by rw [hg]; show h + 72 < _; omega)) (by decide +kernel) ggX7_init_X6_init (by decide +kernel) (by decide +kernel) rfl ⟨rfl, rfl⟩ 0 rfl (by decide +kernel) ⟨by decide, by decide⟩ rfl rfl (Nat.le_of_ble_eq_true rfl) ⟨Nat.le_of_ble_eq_true rfl, Nat.le_of_ble_eq_true rfl⟩ dX7_init_115 rfl ?_
  refine kc_N (N' := h + 74) (c' := 73) (s' := 5686) rfl rfl rfl ?_
  refine kc_put (f := 9) (ty := .object "MirrorBench$Word") (v := vr g 1 10) (fs := [vr g 3 16, vr g 8 0, vr g 20 0, vr g 21 0, vr g 10 0, vr g 12 0, vr g 16 0, vr g 1 8, vr g 1 9, .null, .null, .null]) hC hY w7 tyX7 tyX7_ok nmX7 (upE_s _ _ _ _) rfl (by decide) f66 rfl rfl rfl (by decide +kernel) rfl rfl (Nat.le_of_ble_eq_true rfl) (by decide) (by decide) (by rw [hg]; show h + 0 < _; omega) dX7_init_118 rfl ?_
  refine kc_chC (ce' := upE (upE (upE (czf g) 20 0 (ka_p g 2 8 1 0)) 21 0 (ka_p g 3 4 6 0)) 0 0 (.inr (7, [vr g 3 16, vr g 8 0, vr g 20 0, vr g 21 0, vr g 10 0, vr g 12 0, vr g 16 0, vr g 1 8, vr g 1 9, vr g 1 10, .null, .null]))) (upE_up _ _ _ _ _) ?_
  refine kc_aload_n hC dX7_init_121 rfl 0 rfl ?_
  refine kc_bipush hC dX7_init_122 rfl (by decide) ?_
  refine kc_newl (k := 22) (i := 0) (n := 6) hC (by decide +kernel) rfl (Nat.le_of_ble_eq_true rfl) (by rw [hg]; rfl) (by decide) (by decide) rfl (Nat.le_of_ble_eq_true rfl) (Nat.le_of_ble_eq_true rfl) dX7_init_124 rfl ?_
  refine kc_N (N' := h + 75) (c' := 74) (s' := 5692) rfl rfl rfl ?_
  refine kc_put (f := 10) (ty := .array .long) (v := vr g 22 0) (fs := [vr g 3 16, vr g 8 0, vr g 20 0, vr g 21 0, vr g 10 0, vr g 12 0, vr g 16 0, vr g 1 8, vr g 1 9, vr g 1 10, .null, .null]) hC hY w7 tyX7 tyX7_ok nmX7 (upE_s _ _ _ _) rfl (by decide) f69 rfl rfl rfl (by decide +kernel) rfl rfl (Nat.le_of_ble_eq_true rfl) (by decide) (by decide) (by rw [hg]; show h + 0 < _; omega) dX7_init_126 rfl ?_
  refine kc_chC (ce' := upE (upE (upE (czf g) 20 0 (ka_p g 2 8 1 0)) 21 0 (ka_p g 3 4 6 0)) 0 0 (.inr (7, [vr g 3 16, vr g 8 0, vr g 20 0, vr g 21 0, vr g 10 0, vr g 12 0, vr g 16 0, vr g 1 8, vr g 1 9, vr g 1 10, vr g 22 0, .null]))) (upE_up _ _ _ _ _) ?_
  refine kc_aload_n hC dX7_init_129 rfl 0 rfl ?_
  refine kc_bipush hC dX7_init_130 rfl (by decide) ?_
  refine kc_bipush hC dX7_init_132 rfl (by decide) ?_
  refine kc_mna (k := 23) (k' := 24) (i := 0) (n := 6) (n2 := 6) hC hY (by decide +kernel) (by decide +kernel) rfl rfl (Nat.le_of_ble_eq_true rfl) (Nat.le_of_ble_eq_true rfl) (by rw [hg]; rfl) (by decide) (by decide) rfl (fun j hj => by rw [hg, ad_24]; omega) rfl (fun j _ _ => rfl) (Nat.le_of_ble_eq_true rfl) (Nat.le_of_ble_eq_true rfl) dX7_init_134 rfl ?_
  refine kc_N (N' := h + 82) (c' := 81) (s' := 5734) rfl rfl rfl ?_
  refine kc_put (f := 11) (ty := .array (.array .long)) (v := vr g 23 0) (fs := [vr g 3 16, vr g 8 0, vr g 20 0, vr g 21 0, vr g 10 0, vr g 12 0, vr g 16 0, vr g 1 8, vr g 1 9, vr g 1 10, vr g 22 0, .null]) hC hY w7 tyX7 tyX7_ok nmX7 (upE_s _ _ _ _) rfl (by decide) f75 rfl rfl rfl (by decide +kernel) rfl rfl (Nat.le_of_ble_eq_true rfl) (by decide) (by decide) (by rw [hg]; show h + 0 < _; omega) dX7_init_138 rfl ?_
  refine kc_chC (ce' := upE (upE (upE (czf g) 20 0 (ka_p g 2 8 1 0)) 21 0 (ka_p g 3 4 6 0)) 0 0 (.inr (7, [vr g 3 16, vr g 8 0, vr g 20 0, vr g 21 0, vr g 10 0, vr g 12 0, vr g 16 0, vr g 1 8, vr g 1 9, vr g 1 10, vr g 22 0, vr g 23 0]))) (upE_up _ _ _ _ _) ?_
  refine kc_chC (ce' := upE (upE (czf g) 20 0 (ka_p g 2 8 1 0)) 21 0 (ka_p g 3 4 6 0)) (upE_id rfl) ?_
  refine kc_iconst hC dX7_init_141 rfl ?_
  refine kc_istore_n (lv' := [(1, _), (0, _)]) hC dX7_init_142 rfl (by decide) rfl ?_
  refine kc_chC (ce' := upE (upE (czf g) 21 0 (ka_p g 3 4 6 0)) 20 0 (ka_p g 2 8 1 0)) (upE_cm _ _ _ (fun q => absurd q.1 (by decide))) ?_
  have hl170 : ∀ (n m : Nat), m ≤ 4 → 4 - m < n → Wc E g 2 (upE (czf g) 21 0 (ka_p g 3 4 6 (m : Int))) (h + (98 + 2 * m)) (97 + 2 * m) (6550 + 44 * m) 170 [(0, vr g 0 0), (1, vi (m : Int))] [] := by
    intro n
    induction n with
    | zero => intro m h1 h2; exact absurd h2 (by omega)
    | succ n ih =>
      intro m hm hn
      refine kc_iload_n hC dX7_init_170 rfl 1 rfl ?_
      refine kc_iconst hC dX7_init_171 rfl ?_
      refine kc_icmp_ge (tgt := 194) hC dX7_init_172 rfl (by decide) (by omega) (by omega) ⟨fun c1 => ?_, fun c1 => ?_⟩
      · obtain rfl : m = 4 := by omega
        refine kc_full (n := 4) rfl ?_
        exact hR _ _ dX7_init_194
      · have hm2 : m < 4 := by omega
        have a1 : g.2.2 6 (m : Int) = h + (98 + 2 * m) := by rw [hg]; exact ad_6
        have a2 : g.2.2 7 (m : Int) = h + (99 + 2 * m) := by rw [hg]; exact ad_7
        have a0 : g.2.2 0 0 = h + 0 := by rw [hg]; rfl
        have ak : g.2.2 21 0 = h + 55 := by rw [hg]; rfl
        refine kc_aload_n hC dX7_init_175 rfl 0 rfl ?_
        refine kc_get (f := 3) (fs := [vr g 3 16, vr g 8 0, vr g 20 0, vr g 21 0, vr g 10 0, vr g 12 0, vr g 16 0, vr g 1 8, vr g 1 9, vr g 1 10, vr g 22 0, vr g 23 0]) hC w7 (by first | rfl | (rw [upE_n _ _ (fun q => absurd q.1 (by decide))]; rfl)) rfl (by decide) f31 rfl rfl (by decide) (by decide) (by omega) dX7_init_176 rfl ?_
        refine kc_iload_n hC dX7_init_179 rfl 1 rfl ?_
        refine kc_new (k := 6) (i := (m : Int)) (ci := 2) (C := RX2) (T := TX2) (Nf := 4) (fs := [.null, vi 0, vi 0, vi 0]) hC w2 tyX2 tyX2_ok (by decide +kernel) (by decide +kernel) (by decide +kernel) rfl (fun j hj => by rcases (show j = 0 ∨ j = 1 ∨ j = 2 ∨ j = 3 by omega) with rfl | rfl | rfl | rfl <;> rfl) a1 (by omega) (show (_ : Int) < 4 by omega) (by show _ ≤ 105; omega) (by show _ ≤ 6726; omega) dX7_init_180 rfl ?_
        refine kc_dup hC dX7_init_183 rfl rfl ?_
        refine kc_callIN (host := RX7) hC hY (cn_X2_init hD (by omega) (show (_ : Int) < 4 by omega) rfl rfl (by omega) (by omega)) (by decide +kernel) ggX7_init_X2_init (by decide +kernel) (by decide +kernel) rfl ⟨rfl, rfl⟩ 0 rfl (by decide +kernel) ⟨by decide, by decide⟩ rfl rfl (Nat.le_of_ble_eq_true rfl) ⟨by show _ ≤ 105; omega, by show _ ≤ 6726; omega⟩ dX7_init_184 rfl ?_
        refine kc_aast (n := 4) (t := 3) (ci := 2) hC (upE_s _ _ _ _) rfl rfl ⟨_, rfl⟩ (Nat.le_of_ble_eq_true rfl) (by decide) (by decide) (by omega) (by omega) (by omega) (show (_ : Int) < 4 by omega) (by omega) dX7_init_187 rfl ?_
        refine kc_chC (upE_up _ _ _ _ _) ?_
        refine kc_iinc (lv' := [(1, _), (0, _)]) hC dX7_init_188 rfl 1 rfl (by decide) rfl ?_
        refine kc_goto (tgt := 170) hC dX7_init_191 rfl (by decide) ?_
        refine kc_lv [1, 0] rfl ?_
        refine kc_N (N' := h + (98 + 2 * (m + 1))) (c' := 97 + 2 * (m + 1)) (s' := 6550 + 44 * (m + 1)) (by omega) (by omega) (by omega) ?_
        exact ih (m + 1) (by omega) (by omega)
  have hl143 : ∀ (n m : Nat), m ≤ 8 → 8 - m < n → Wc E g 2 (upE (upE (czf g) 21 0 (ka_p g 3 4 6 0)) 20 0 (ka_p g 2 8 1 (m : Int))) (h + (82 + 2 * m)) (81 + 2 * m) (5734 + 102 * m) 143 [(0, vr g 0 0), (1, vi (m : Int))] [] := by
    intro n
    induction n with
    | zero => intro m h1 h2; exact absurd h2 (by omega)
    | succ n ih =>
      intro m hm hn
      refine kc_iload_n hC dX7_init_143 rfl 1 rfl ?_
      refine kc_bipush hC dX7_init_144 rfl (by decide) ?_
      refine kc_icmp_ge (tgt := 168) hC dX7_init_146 rfl (by decide) (by omega) (by omega) ⟨fun c1 => ?_, fun c1 => ?_⟩
      · obtain rfl : m = 8 := by omega
        refine kc_full (n := 8) rfl ?_
        refine kc_iconst hC dX7_init_168 rfl ?_
        refine kc_istore_n (lv' := [(1, _), (0, _)]) hC dX7_init_169 rfl (by decide) rfl ?_
        refine kc_lv [1, 0] rfl ?_
        exact hl170 5 0 (by omega) (by omega)
      · have hm2 : m < 8 := by omega
        have a1 : g.2.2 1 (m : Int) = h + (82 + 2 * m) := by rw [hg]; exact ad_1 hm2
        have a2 : g.2.2 2 (m : Int) = h + (83 + 2 * m) := by rw [hg]; exact ad_2 hm2
        have a0 : g.2.2 0 0 = h + 0 := by rw [hg]; rfl
        have ak : g.2.2 20 0 = h + 54 := by rw [hg]; rfl
        refine kc_aload_n hC dX7_init_149 rfl 0 rfl ?_
        refine kc_get (f := 2) (fs := [vr g 3 16, vr g 8 0, vr g 20 0, vr g 21 0, vr g 10 0, vr g 12 0, vr g 16 0, vr g 1 8, vr g 1 9, vr g 1 10, vr g 22 0, vr g 23 0]) hC w7 (by first | rfl | (rw [upE_n _ _ (fun q => absurd q.1 (by decide))]; rfl)) rfl (by decide) f25 rfl rfl (by decide) (by decide) (by omega) dX7_init_150 rfl ?_
        refine kc_iload_n hC dX7_init_153 rfl 1 rfl ?_
        refine kc_new (k := 1) (i := (m : Int)) (ci := 6) (C := RX6) (T := TX6) (Nf := 2) (fs := [.null, vi 0]) hC w6 tyX6 tyX6_ok (by decide +kernel) (by decide +kernel) (by decide +kernel) rfl (fun j hj => by rcases (show j = 0 ∨ j = 1 by omega) with rfl | rfl <;> rfl) a1 (by omega) (show (_ : Int) < 12 by omega) (by show _ ≤ 105; omega) (by show _ ≤ 6726; omega) dX7_init_154 rfl ?_
        refine kc_dup hC dX7_init_157 rfl rfl ?_
        refine kc_callIN (host := RX7) hC hY (cn_X6_init hD (by omega) (show (_ : Int) < 12 by omega) rfl rfl (by omega) (by omega)) (by decide +kernel) ggX7_init_X6_init (by decide +kernel) (by decide +kernel) rfl ⟨rfl, rfl⟩ 0 rfl (by decide +kernel) ⟨by decide, by decide⟩ rfl rfl (Nat.le_of_ble_eq_true rfl) ⟨by show _ ≤ 105; omega, by show _ ≤ 6726; omega⟩ dX7_init_158 rfl ?_
        refine kc_aast (n := 8) (t := 2) (ci := 6) hC (upE_s _ _ _ _) rfl rfl ⟨_, rfl⟩ (Nat.le_of_ble_eq_true rfl) (by decide) (by decide) (by omega) (by omega) (by omega) (show (_ : Int) < 12 by omega) (by omega) dX7_init_161 rfl ?_
        refine kc_chC (upE_up _ _ _ _ _) ?_
        refine kc_iinc (lv' := [(1, _), (0, _)]) hC dX7_init_162 rfl 1 rfl (by decide) rfl ?_
        refine kc_goto (tgt := 143) hC dX7_init_165 rfl (by decide) ?_
        refine kc_lv [1, 0] rfl ?_
        refine kc_N (N' := h + (82 + 2 * (m + 1))) (c' := 81 + 2 * (m + 1)) (s' := 5734 + 102 * (m + 1)) (by omega) (by omega) (by omega) ?_
        exact ih (m + 1) (by omega) (by omega)
  refine kc_lv [1, 0] rfl ?_
  exact hl143 9 0 (by omega) (by omega)

