section
theorem dns_s {M : Nat → Nat → Int} {n : Nat} {u : Int} {R : List Nat} {s z T : Int} (h : dnsP M n u R (n - s.toNat) z = T) (s0 : 0 ≤ s) (s1 : s.toNat < n) : (dnP M n u R s.toNat = -4 → T = -4) ∧ (dnP M n u R s.toNat = -1 → dnsP M n u R (n - (s + 1).toNat) z = T) ∧ (0 ≤ dnP M n u R s.toNat → dnsP M n u R (n - (s + 1).toNat) (i_or z (i_shl 1 s)) = T) := by
  rw [show n - s.toNat = (n - (s.toNat + 1)) + 1 by omega, dnsP, show n - (n - (s.toNat + 1) + 1) = s.toNat by omega, Int.toNat_of_nonneg s0] at h
  rw [show (s + 1).toNat = s.toNat + 1 by omega]
  refine ⟨fun q => ?_, fun q => ?_, fun q => ?_⟩
  · rw [if_pos q] at h; exact h.symm
  · rw [if_neg (by omega), if_neg (by omega)] at h; exact h
  · rw [if_neg (by omega), if_pos q] at h; exact h
theorem dns_e {M : Nat → Nat → Int} {n : Nat} {u : Int} {R : List Nat} {s z T : Int} (h : dnsP M n u R (n - s.toNat) z = T) (s1 : n ≤ s.toNat) : T = z := by
  rw [show n - s.toNat = 0 by omega, dnsP] at h
  exact h.symm
theorem dnP_r (M : Nat → Nat → Int) (n : Nat) (u : Int) (R : List Nat) (s : Nat) : dnP M n u R s = -4 ∨ dnP M n u R s = -1 ∨ (0 ≤ dnP M n u R s ∧ dnP M n u R s < R.length) := by
  unfold dnP
  split
  · have := bh_r M n R s; omega
  · exact ah_r M n R s
theorem TbT.goR {S W W' : wSt} {f : Int → Int} {m x : Int} {B : Option (Nat → Int)} (h : TbT (S 42 0) f m (S 30 0 0) (W 55 0) B x) (hR : RI S) (hw : WV f m (S 30 0 0)) (x0 : 0 ≤ x) (x1 : x < m) (h0 : W 30 0 0 = S 30 0 0) (h2 : ∀ j, W 42 0 j = S 42 0 j) (h16 : W 30 0 16 = 0) (hv : W' 55 0 (f x) = tvp W (f x) (W 30 0 0)) (ho : ∀ j, j ≠ f x → W' 55 0 j = W 55 0 j) (hg : W' 30 0 16 = bz (ni (W 30 0 16) ≠ 0 ∨ ¬ (-1000000000000 ≤ nl (tvp W (f x) (W 30 0 0)) ∧ nl (tvp W (f x) (W 30 0 0)) ≤ 1000000000000))) : (W' 30 0 16 = 1 ∧ B = none) ∨ (W' 30 0 16 = 0 ∧ TbT (S 42 0) f m (S 30 0 0) (W' 55 0) B (x - 1)) := by
  have hr := hw x x0 x1
  rw [tvp_tvc hR hr.1 hr.2 h0 h2] at hv hg
  have z0 : ni (W 30 0 16) = 0 := by rw [h16]; rfl
  rcases h.go hR.set hw x0 x1 hv ho with q | q
  · exact Or.inl ⟨by rw [hg]; exact bz_t (Or.inr q.1), q.2⟩
  · exact Or.inr ⟨by rw [hg]; exact bz_f (fun z => z.elim (fun z => z z0) (fun z => z q.1)), q.2⟩
theorem blw_s {M : Nat → Nat → Int} {n : Nat} {f : Int → Int} {m x : Int} {R : List Nat} {T : Option (List Nat)} (h : blw M n (wl f m.toNat) (x + 1).toNat R = T) (x0 : 0 ≤ x) (x1 : x < m) : (bh M n R (f x).toNat = -4 → T = none) ∧ (bh M n R (f x).toNat = -1 → blw M n (wl f m.toNat) (x - 1 + 1).toNat R = T) ∧ (0 ≤ bh M n R (f x).toNat → blw M n (wl f m.toNat) (x - 1 + 1).toNat (R.eraseIdx (bh M n R (f x).toNat).toNat) = T) := by
  rw [show (x + 1).toNat = x.toNat + 1 by omega, blw, wl_get f (by omega), Int.toNat_of_nonneg x0] at h
  rw [show (x - 1 + 1).toNat = x.toNat by omega]
  refine ⟨fun q => ?_, fun q => ?_, fun q => ?_⟩
  · rw [if_pos q] at h; exact h.symm
  · rw [if_neg (by omega), if_neg (by omega)] at h; exact h
  · rw [if_neg (by omega), if_pos q] at h; exact h
theorem blw_e {M : Nat → Nat → Int} {n : Nat} {W : List Nat} {x : Int} {R : List Nat} {T : Option (List Nat)} (h : blw M n W (x + 1).toNat R = T) (hx : x = -1) : T = some R := by
  rw [hx] at h
  exact h.symm
theorem mAt_c {S : wSt} (hR : RI S) {p q : Int} (p0 : 0 ≤ p) (p1 : p < S 30 0 0) (q0 : 0 ≤ q) (q1 : q < S 30 0 0) : mtA (rM S) p.toNat q.toNat = mAt p q (S 42 0 (6 * p + q)) (S 42 0 (6 * q + p)) := by
  unfold mtA
  rw [rM_c hR p0 p1 q0 q1, rM_c hR q0 q1 p0 p1, Int.toNat_of_nonneg p0, Int.toNat_of_nonneg q0]
theorem wl_chg {f f' : Int → Int} {L : List Nat} {len k m : Int} {p q : Int} (hL : L = wl f len.toNat) (k0 : 0 ≤ k) (m0 : 0 ≤ m) (h1 : ∀ j, 0 ≤ j → j < len → ¬ (k ≤ j ∧ j < k + m) → f' j = f j) (h2 : ∀ y, 0 ≤ y → y < m → f' (k + y) = if y % 2 = 0 then q else p) : wl f' len.toNat = chg L k.toNat m.toNat p.toNat q.toNat := by
  subst hL
  unfold chg
  rw [wl_len]
  unfold wl
  refine List.map_congr_left (fun i hi => ?_)
  have hi := List.mem_range.mp hi
  by_cases e : k.toNat ≤ i ∧ i < k.toNat + m.toNat
  · rw [if_pos e]
    have h3 := h2 ((i : Int) - k) (by omega) (by omega)
    rw [show k + ((i : Int) - k) = i by omega] at h3
    rw [h3]
    by_cases e2 : (i - k.toNat) % 2 = 0
    · rw [if_pos e2, if_pos (by omega)]
    · rw [if_neg e2, if_neg (by omega)]
  · rw [if_neg e, h1 _ (by omega) (by omega) (by omega)]
    rw [List.getD_eq_getElem?_getD, List.getElem?_map, List.getElem?_range hi]
    rfl
theorem likP_y {A B : List Nat} (h : A = B) : likP (some A) (some B) = 1 := if_pos h
theorem likP_n {A B : List Nat} (h : ¬ A = B) : likP (some A) (some B) = 0 := if_neg h
end
section
set_option maxHeartbeats 4000000 in
set_option maxRecDepth 100000 in
theorem f_X8_change {g : wG} (hD : wD g) {S : wSt} {a b : Int} (ha : -2147483648 ≤ a ∧ a ≤ 2147483647) (hb : -2147483648 ≤ b ∧ b ≤ 2147483647) (hRS : RI S) (l : Launch) : Kt l yX8_change wsX8_change ({ frames := 2, cells := 0, slots := 0, locals := 45 } : Room) g S [vr g 30 0, vi a, vi b] (pI (fun r S' => RI S' ∧ Fr tW S S' ∧ fChange (rM S) a b (rSl S) = (r, rSl S'))) := by
  refine Kt.of (cc := cX8_change) (nL := 7) (ret := (some .int)) (own := RX8) rfl hD (by decide) rfl (Nat.le_of_ble_eq_true rfl) ⟨rfl, rfl⟩ ?_
  intro E hC hR9
  have f43 : Cond.fieldLink RX8 43 "MirrorBenchModel" "lengths" "[I" ∈ wsX8_change := by decide +kernel
  have f52 : Cond.fieldLink RX8 52 "MirrorBenchModel" "words" "[I" ∈ wsX8_change := by decide +kernel
  have w8 : ∀ w ∈ wsX80, w ∈ wsX8_change := by decide +kernel
  show Wk E g 7 S 0 [(0, vr g 30 0), (1, vi a), (2, vi b)] []
  have hfS : Fr fV S S := Fr.rfl _ S
  have hnS := hRS.n
  have hnn : (rn S : Int) = S 30 0 0 := by unfold rn; omega
  refine kw_iload_n hC dX8_change_0 rfl 1 rfl ?_
  refine kw_callS hC (d_X8_isSlot hD (by omega)) gX8_change_X8_isSlot rfl ⟨rfl, rfl⟩ 1 (by decide +kernel) ⟨by decide, by decide⟩ rfl rfl (Nat.le_of_ble_eq_true rfl) dX8_change_1 rfl (kd_ie ?_)
  refine kw_ifeq_b (tgt := 25) hC dX8_change_4 rfl (by decide) ⟨fun c4 => ?_, fun c4 => ?_⟩
  · refine kw_iconst hC dX8_change_25 rfl ?_
    exact hR9.1 rfl _ _ _ _ dX8_change_26 (by first | (exfalso; omega) | exact ⟨_, rfl, hRS, Fr.rfl _ S, by unfold fChange; rw [if_neg (by omega)]⟩ | exact ⟨_, rfl, hRS, Fr.rfl _ S, by unfold fChange; rw [if_pos (by omega), if_pos (Or.inl (by omega))]⟩ | exact ⟨_, rfl, hRS, Fr.rfl _ S, by unfold fChange; rw [if_pos (by omega), if_pos (Or.inr (Or.inl (by omega)))]⟩ | exact ⟨_, rfl, hRS, Fr.rfl _ S, by unfold fChange; rw [if_pos (by omega), if_pos (Or.inr (Or.inr hne9))]⟩ | exact ⟨_, rfl, hw9, fV_tW hfS, by unfold fChange; rw [if_pos (by omega), if_neg (fun z => by rcases z with z | z | z; omega; omega; exact z hall9), hst]; exact Prod.ext (by show _ = _; omega) rfl⟩)
  · have hla := hRS.ln a (by omega) (by omega)
    have hLa := rSl_len hRS (a := a) (by omega) (by omega)
    refine kw_iload_n hC dX8_change_7 rfl 2 rfl ?_
    refine kw_i2l hC dX8_change_8 rfl (by omega) ?_
    refine kw_lconst (z := 0) hC dX8_change_9 rfl rfl ?_
    refine kw_aload_n hC dX8_change_10 rfl 0 rfl ?_
    refine kg_30_6 hC w8 f43 dX8_change_11 rfl (by decide) (by decide) ?_
    refine kw_iload_n hC dX8_change_14 rfl 1 rfl ?_
    refine ka_46 hC dX8_change_15 rfl (by decide) (by decide) (by omega) (by omega) ?_
    refine kw_iconst hC dX8_change_16 rfl ?_
    refine kw_isub hC dX8_change_17 rfl ?_
    refine kw_i2l hC dX8_change_18 rfl (by omega) ?_
    refine kw_callS hC (d_X8_in hD (by omega) (by omega) (by omega)) gX8_change_X8_in rfl ⟨rfl, rfl⟩ 3 (by decide +kernel) ⟨by decide, by decide⟩ rfl rfl (Nat.le_of_ble_eq_true rfl) dX8_change_19 rfl (kd_ie ?_)
    refine kw_ifne_b (tgt := 27) hC dX8_change_22 rfl (by decide) ⟨fun c22 => ?_, fun c22 => ?_⟩
    · have hl1 := hRS.lt a b (by omega) (by omega) (by omega) (by omega)
      have hl2 := hRS.lt a (b + 1) (by omega) (by omega) (by omega) (by omega)
      have hg1 := rSl_get (S := S) (a := a) (k := b) (by omega) (by omega) (by omega) (by omega)
      have hg2 := rSl_get (S := S) (a := a) (k := b + 1) (by omega) (by omega) (by omega) (by omega)
      rw [← Int.add_assoc] at hl2 hg2
      refine kw_aload_n hC dX8_change_27 rfl 0 rfl ?_
      refine kg_30_5 hC w8 f52 dX8_change_28 rfl (by decide) (by decide) ?_
      refine kw_bipush hC dX8_change_31 rfl (by decide) ?_
      refine kw_iload_n hC dX8_change_33 rfl 1 rfl ?_
      refine kw_imul hC dX8_change_34 rfl ?_
      refine kw_iload_n hC dX8_change_35 rfl 2 rfl ?_
      refine kw_iadd hC dX8_change_36 rfl ?_
      refine ka_45 hC dX8_change_37 rfl (by decide) (by decide) (by omega) (by omega) ?_
      refine kw_istore_n (lv' := [(3, _), (0, _), (1, _), (2, _)]) hC dX8_change_38 rfl (by decide) rfl ?_
      refine kw_aload_n hC dX8_change_39 rfl 1 rfl ?_
      refine kg_30_5 hC w8 f52 dX8_change_40 rfl (by decide) (by decide) ?_
      refine kw_bipush hC dX8_change_43 rfl (by decide) ?_
      refine kw_iload_n hC dX8_change_45 rfl 2 rfl ?_
      refine kw_imul hC dX8_change_46 rfl ?_
      refine kw_iload_n hC dX8_change_47 rfl 3 rfl ?_
      refine kw_iadd hC dX8_change_48 rfl ?_
      refine kw_iconst hC dX8_change_49 rfl ?_
      refine kw_iadd hC dX8_change_50 rfl ?_
      refine ka_45 hC dX8_change_51 rfl (by decide) (by decide) (by omega) (by omega) ?_
      refine kw_istore (lv' := [(4, _), (3, _), (0, _), (1, _), (2, _)]) hC dX8_change_52 rfl (by decide) rfl ?_
      refine kw_aload_n hC dX8_change_54 rfl 2 rfl ?_
      refine kw_iload_n hC dX8_change_55 rfl 1 rfl ?_
      refine kw_iload hC dX8_change_56 rfl 0 rfl ?_
      refine kw_callV hC (d_X8_meetsAt hD (by omega) (by omega) (by omega) (by omega) hRS) gX8_change_X8_meetsAt ⟨_, rfl⟩ rfl (by decide) (by decide) rfl ⟨rfl, rfl⟩ 2 (by decide +kernel) ⟨by decide, by decide⟩ rfl rfl (Nat.le_of_ble_eq_true rfl) dX8_change_58 rfl (kd_ie ?_)
      obtain ⟨m, hm⟩ : ∃ m, m = mAt (S 45 0 (100 * a + b)) (S 45 0 (100 * a + b + 1)) (S 42 0 (6 * S 45 0 (100 * a + b) + S 45 0 (100 * a + b + 1))) (S 42 0 (6 * S 45 0 (100 * a + b + 1) + S 45 0 (100 * a + b))) := ⟨_, rfl⟩
      rw [← hm]
      have hmr : 0 ≤ m ∧ m ≤ 6 := hm ▸ mAt_r _ _ _ _
      have hmA : mtA (rM S) ((rSl S a).getD b.toNat 0) ((rSl S a).getD (b + 1).toNat 0) = m := by rw [hg1, hg2, mAt_c hRS hl1.1 hl1.2 hl2.1 hl2.2, hm]
      refine kw_istore (lv' := [(5, _), (4, _), (3, _), (0, _), (1, _), (2, _)]) hC dX8_change_61 rfl (by decide) rfl ?_
      refine kw_iload hC dX8_change_63 rfl 0 rfl ?_
      refine kw_iconst hC dX8_change_65 rfl ?_
      refine kw_icmp_lt (tgt := 82) hC dX8_change_66 rfl (by decide) (by omega) (by omega) ⟨fun c66 => ?_, fun c66 => ?_⟩
      · refine kw_bipush hC dX8_change_82 rfl (by decide) ?_
        exact hR9.1 rfl _ _ _ _ dX8_change_84 (by first | (exfalso; omega) | exact ⟨_, rfl, hRS, Fr.rfl _ S, by unfold fChange; rw [if_neg (by omega)]⟩ | exact ⟨_, rfl, hRS, Fr.rfl _ S, by unfold fChange; rw [if_pos (by omega), if_pos (Or.inl (by omega))]⟩ | exact ⟨_, rfl, hRS, Fr.rfl _ S, by unfold fChange; rw [if_pos (by omega), if_pos (Or.inr (Or.inl (by omega)))]⟩ | exact ⟨_, rfl, hRS, Fr.rfl _ S, by unfold fChange; rw [if_pos (by omega), if_pos (Or.inr (Or.inr hne9))]⟩ | exact ⟨_, rfl, hw9, fV_tW hfS, by unfold fChange; rw [if_pos (by omega), if_neg (fun z => by rcases z with z | z | z; omega; omega; exact z hall9), hst]; exact Prod.ext (by show _ = _; omega) rfl⟩)
      · refine kw_iload_n hC dX8_change_69 rfl 5 rfl ?_
        refine kw_iload hC dX8_change_70 rfl 0 rfl ?_
        refine kw_iadd hC dX8_change_72 rfl ?_
        refine kw_aload_n hC dX8_change_73 rfl 3 rfl ?_
        refine kg_30_6 hC w8 f43 dX8_change_74 rfl (by decide) (by decide) ?_
        refine kw_iload_n hC dX8_change_77 rfl 4 rfl ?_
        refine ka_46 hC dX8_change_78 rfl (by decide) (by decide) (by omega) (by omega) ?_
        refine kw_icmp_le (tgt := 85) hC dX8_change_79 rfl (by decide) (by omega) (by omega) ⟨fun c79 => ?_, fun c79 => ?_⟩
        · refine kw_iconst hC dX8_change_85 rfl ?_
          refine kw_istore (lv' := [(6, _), (5, _), (4, _), (3, _), (0, _), (1, _), (2, _)]) hC dX8_change_86 rfl (by decide) rfl ?_
          have hL88 : ∀ (n88 : Nat) (x : Int), (0 ≤ x) → (x ≤ m) → (∀ j, 0 ≤ j → j < x → S 45 0 (100 * a + b + j) = if j % 2 = 0 then S 45 0 (100 * a + b) else S 45 0 (100 * a + b + 1)) → m - x < (n88 : Int) → Wk E g 7 S 88 [(0, vr g 30 0), (1, vi a), (2, vi b), (3, vi (S 45 0 (100 * a + b))), (4, vi (S 45 0 (100 * a + b + 1))), (5, vi m), (6, vi x)] [] := by
            intro n88
            induction n88 with
            | zero => intro x hx0 hx1 hall hm88; exact absurd hm88 (by omega)
            | succ n88 ih88 =>
              intro x hx0 hx1 hall hm88
              refine kw_iload hC dX8_change_88 rfl 6 rfl ?_
              refine kw_iload hC dX8_change_90 rfl 5 rfl ?_
              refine kw_icmp_ge (tgt := 134) hC dX8_change_92 rfl (by decide) (by omega) (by omega) ⟨fun c92 => ?_, fun c92 => ?_⟩
              · have hall9 : ∀ j : Nat, j < (mtA (rM S) ((rSl S a).getD b.toNat 0) ((rSl S a).getD (b + 1).toNat 0)).toNat → (rSl S a).getD (b.toNat + j) 0 = if j % 2 = 0 then (rSl S a).getD b.toNat 0 else (rSl S a).getD (b + 1).toNat 0 := fun j hj => by rw [hg1, hg2]; have h9 := hall (j : Int) (by omega) (by omega); rw [show b.toNat + j = (b + (j : Int)).toNat by omega, rSl_get (by omega) (by omega) (by omega) (by omega), ← Int.add_assoc, h9]; rcases Decidable.em (j % 2 = 0) with e | e; exact (by rw [if_pos e, if_pos (by omega)]); exact (by rw [if_neg e, if_neg (by omega)])
                refine kw_iconst hC dX8_change_134 rfl ?_
                refine kw_istore (lv' := [(6, _), (0, _), (1, _), (2, _), (3, _), (4, _), (5, _)]) hC dX8_change_135 rfl (by decide) rfl ?_
                have hL137 : ∀ (n137 : Nat) (y : Int) (W137 : wSt), Fr fV S W137 → (0 ≤ y) → (y ≤ m) → (WdO (S 30 0 0) W137) → (∀ s, W137 46 0 s = S 46 0 s) → (∀ j, 0 ≤ j → j < y → W137 45 0 (100 * a + b + j) = if j % 2 = 0 then S 45 0 (100 * a + b + 1) else S 45 0 (100 * a + b)) → (∀ j, ¬ (100 * a + b ≤ j ∧ j < 100 * a + b + y) → W137 45 0 j = S 45 0 j) → m - y < (n137 : Int) → Wk E g 7 W137 137 [(0, vr g 30 0), (1, vi a), (2, vi b), (3, vi (S 45 0 (100 * a + b))), (4, vi (S 45 0 (100 * a + b + 1))), (5, vi m), (6, vi y)] [] := by
                  intro n137
                  induction n137 with
                  | zero => intro y W137 hfW137 hy0 hy1 hW h46 h43 h45 hm137; exact absurd hm137 (by omega)
                  | succ n137 ih137 =>
                    intro y W137 hfW137 hy0 hy1 hW h46 h43 h45 hm137
                    refine kw_iload hC dX8_change_137 rfl 6 rfl ?_
                    refine kw_iload hC dX8_change_139 rfl 5 rfl ?_
                    refine kw_icmp_ge (tgt := 177) hC dX8_change_141 rfl (by decide) (by omega) (by omega) ⟨fun c141 => ?_, fun c141 => ?_⟩
                    · refine kw_iload hC dX8_change_177 rfl 5 rfl ?_
                      have hw9 := hRS.wd hfW137 hW
                      have hst : rSl W137 = upw (rSl S) a (chg (rSl S a) b.toNat (mtA (rM S) ((rSl S a).getD b.toNat 0) ((rSl S a).getD (b + 1).toNat 0)).toNat ((rSl S a).getD b.toNat 0) ((rSl S a).getD (b + 1).toNat 0)) := by rw [rSl_st hRS (W := W137) (m := S 46 0 a) (f := fun j => W137 45 0 (100 * a + j)) (by omega) (by omega) (h46 a) (fun s _ => h46 s) (fun _ _ _ => rfl) (fun j hj => h45 j (by omega)), hmA, hg1, hg2]; congr 1; exact wl_chg (f := fun j => S 45 0 (100 * a + j)) (rSl_at (by omega) (by omega)) (by omega) (by omega) (fun j j0 j1 j2 => h45 _ (by omega)) (fun z z0 z1 => by show W137 45 0 (100 * a + (b + z)) = _; rw [← Int.add_assoc]; exact h43 z z0 (by omega))
                      exact hR9.1 rfl _ _ _ _ dX8_change_179 (by first | (exfalso; omega) | exact ⟨_, rfl, hRS, Fr.rfl _ S, by unfold fChange; rw [if_neg (by omega)]⟩ | exact ⟨_, rfl, hRS, Fr.rfl _ S, by unfold fChange; rw [if_pos (by omega), if_pos (Or.inl (by omega))]⟩ | exact ⟨_, rfl, hRS, Fr.rfl _ S, by unfold fChange; rw [if_pos (by omega), if_pos (Or.inr (Or.inl (by omega)))]⟩ | exact ⟨_, rfl, hRS, Fr.rfl _ S, by unfold fChange; rw [if_pos (by omega), if_pos (Or.inr (Or.inr hne9))]⟩ | exact ⟨_, rfl, hw9, fV_tW hfW137, by unfold fChange; rw [if_pos (by omega), if_neg (fun z => by rcases z with z | z | z; omega; omega; exact z hall9), hst]; exact Prod.ext (by show _ = _; omega) rfl⟩)
                    · refine kw_aload_n hC dX8_change_144 rfl 0 rfl ?_
                      refine kg_30_5 hC w8 f52 dX8_change_145 rfl (by decide) (by decide) ?_
                      refine kw_bipush hC dX8_change_148 rfl (by decide) ?_
                      refine kw_iload_n hC dX8_change_150 rfl 1 rfl ?_
                      refine kw_imul hC dX8_change_151 rfl ?_
                      refine kw_iload_n hC dX8_change_152 rfl 2 rfl ?_
                      refine kw_iadd hC dX8_change_153 rfl ?_
                      refine kw_iload hC dX8_change_154 rfl 6 rfl ?_
                      refine kw_iadd hC dX8_change_156 rfl ?_
                      refine kw_iload hC dX8_change_157 rfl 6 rfl ?_
                      refine kw_iconst hC dX8_change_159 rfl ?_
                      refine kw_irem hC dX8_change_160 rfl (by omega) (by omega) ?_
                      refine kw_if_ne (tgt := 169) hC dX8_change_161 rfl (by decide) (by omega) ⟨fun c161 => ?_, fun c161 => ?_⟩
                      · refine kw_iload_n hC dX8_change_169 rfl 3 rfl ?_
                        refine ks_45 hC dX8_change_170 rfl (by decide) (by decide) (by omega) (by omega) ?_
                        refine kw_hv hfW137 (by unfold fV; omega) (fun S8 hfS8 hv8 ho8 => ?_)
                        have hW9 := hW.let (W' := S8) (p := 100 * a + b + y) (fun s => ho8 46 0 s (by omega)) (fun j hj => ho8 45 0 j (by omega)) (by rw [hv8]; omega)
                        refine kw_iinc (lv' := [(6, _), (0, _), (1, _), (2, _), (3, _), (4, _), (5, _)]) hC dX8_change_171 rfl 6 rfl (by decide) rfl ?_
                        refine kw_goto (tgt := 137) hC dX8_change_174 rfl (by decide) ?_
                        refine kw_lv [1, 2, 3, 4, 5, 6, 0] rfl ?_
                        exact ih137 (y + 1) S8 hfS8 (by omega) (by omega) hW9 (fun s => (ho8 46 0 s (by omega)).trans (h46 s)) (fun j j0 j1 => by rcases Decidable.em (j = y) with e | e; exact (by rw [e, hv8]; first | rw [if_pos (by omega)] | rw [if_neg (by omega)]); exact (by rw [ho8 45 0 _ (by omega)]; exact h43 j j0 (by omega))) (fun j hj => by rw [ho8 45 0 j (by omega)]; exact h45 j (by omega)) (by omega)
                      · refine kw_iload hC dX8_change_164 rfl 4 rfl ?_
                        refine kw_goto (tgt := 170) hC dX8_change_166 rfl (by decide) ?_
                        refine ks_45 hC dX8_change_170 rfl (by decide) (by decide) (by omega) (by omega) ?_
                        refine kw_hv hfW137 (by unfold fV; omega) (fun S9 hfS9 hv9 ho9 => ?_)
                        have hW9 := hW.let (W' := S9) (p := 100 * a + b + y) (fun s => ho9 46 0 s (by omega)) (fun j hj => ho9 45 0 j (by omega)) (by rw [hv9]; omega)
                        refine kw_iinc (lv' := [(6, _), (0, _), (1, _), (2, _), (3, _), (4, _), (5, _)]) hC dX8_change_171 rfl 6 rfl (by decide) rfl ?_
                        refine kw_goto (tgt := 137) hC dX8_change_174 rfl (by decide) ?_
                        refine kw_lv [1, 2, 3, 4, 5, 6, 0] rfl ?_
                        exact ih137 (y + 1) S9 hfS9 (by omega) (by omega) hW9 (fun s => (ho9 46 0 s (by omega)).trans (h46 s)) (fun j j0 j1 => by rcases Decidable.em (j = y) with e | e; exact (by rw [e, hv9]; first | rw [if_pos (by omega)] | rw [if_neg (by omega)]); exact (by rw [ho9 45 0 _ (by omega)]; exact h43 j j0 (by omega))) (fun j hj => by rw [ho9 45 0 j (by omega)]; exact h45 j (by omega)) (by omega)
                refine kw_lv [1, 2, 3, 4, 5, 6, 0] rfl ?_
                exact hL137 7 0 S hfS (by omega) (by omega) hRS.wdo (fun _ => rfl) (fun j _ _ => by omega) (fun _ _ => rfl) (by omega)
              · refine kw_aload_n hC dX8_change_95 rfl 0 rfl ?_
                refine kg_30_5 hC w8 f52 dX8_change_96 rfl (by decide) (by decide) ?_
                refine kw_bipush hC dX8_change_99 rfl (by decide) ?_
                refine kw_iload_n hC dX8_change_101 rfl 1 rfl ?_
                refine kw_imul hC dX8_change_102 rfl ?_
                refine kw_iload_n hC dX8_change_103 rfl 2 rfl ?_
                refine kw_iadd hC dX8_change_104 rfl ?_
                refine kw_iload hC dX8_change_105 rfl 6 rfl ?_
                refine kw_iadd hC dX8_change_107 rfl ?_
                refine ka_45 hC dX8_change_108 rfl (by decide) (by decide) (by omega) (by omega) ?_
                have hl4 := hRS.lt a (b + x) (by omega) (by omega) (by omega) (by omega)
                have hg4 := rSl_get (S := S) (a := a) (k := b + x) (by omega) (by omega) (by omega) (by omega)
                rw [← Int.add_assoc] at hl4 hg4
                refine kw_iload hC dX8_change_109 rfl 6 rfl ?_
                refine kw_iconst hC dX8_change_111 rfl ?_
                refine kw_irem hC dX8_change_112 rfl (by omega) (by omega) ?_
                refine kw_if_ne (tgt := 120) hC dX8_change_113 rfl (by decide) (by omega) ⟨fun c113 => ?_, fun c113 => ?_⟩
                · refine kw_iload hC dX8_change_120 rfl 4 rfl ?_
                  refine kw_icmp_eq (tgt := 128) hC dX8_change_122 rfl (by decide) (by omega) (by omega) ⟨fun c122 => ?_, fun c122 => ?_⟩
                  · refine kw_iinc (lv' := [(6, _), (0, _), (1, _), (2, _), (3, _), (4, _), (5, _)]) hC dX8_change_128 rfl 6 rfl (by decide) rfl ?_
                    refine kw_goto (tgt := 88) hC dX8_change_131 rfl (by decide) ?_
                    refine kw_lv [1, 2, 3, 4, 5, 6, 0] rfl ?_
                    exact ih88 (x + 1) (by omega) (by omega) (fun j j0 j1 => by rcases Decidable.em (j = x) with e | e; exact (by rw [e]; first | (rw [if_pos (by omega)]; omega) | (rw [if_neg (by omega)]; omega)); exact hall j j0 (by omega)) (by omega)
                  · have hne9 : ¬ (∀ j : Nat, j < (mtA (rM S) ((rSl S a).getD b.toNat 0) ((rSl S a).getD (b + 1).toNat 0)).toNat → (rSl S a).getD (b.toNat + j) 0 = if j % 2 = 0 then (rSl S a).getD b.toNat 0 else (rSl S a).getD (b + 1).toNat 0) := fun z => by have z2 := z x.toNat (by omega); rw [show b.toNat + x.toNat = (b + x).toNat by omega, hg4, hg1, hg2] at z2; first | (rw [if_pos (by omega)] at z2; omega) | (rw [if_neg (by omega)] at z2; omega)
                    refine kw_bipush hC dX8_change_125 rfl (by decide) ?_
                    exact hR9.1 rfl _ _ _ _ dX8_change_127 (by first | (exfalso; omega) | exact ⟨_, rfl, hRS, Fr.rfl _ S, by unfold fChange; rw [if_neg (by omega)]⟩ | exact ⟨_, rfl, hRS, Fr.rfl _ S, by unfold fChange; rw [if_pos (by omega), if_pos (Or.inl (by omega))]⟩ | exact ⟨_, rfl, hRS, Fr.rfl _ S, by unfold fChange; rw [if_pos (by omega), if_pos (Or.inr (Or.inl (by omega)))]⟩ | exact ⟨_, rfl, hRS, Fr.rfl _ S, by unfold fChange; rw [if_pos (by omega), if_pos (Or.inr (Or.inr hne9))]⟩ | exact ⟨_, rfl, hw9, fV_tW hfS, by unfold fChange; rw [if_pos (by omega), if_neg (fun z => by rcases z with z | z | z; omega; omega; exact z hall9), hst]; exact Prod.ext (by show _ = _; omega) rfl⟩)
                · refine kw_iload_n hC dX8_change_116 rfl 3 rfl ?_
                  refine kw_goto (tgt := 122) hC dX8_change_117 rfl (by decide) ?_
                  refine kw_icmp_eq (tgt := 128) hC dX8_change_122 rfl (by decide) (by omega) (by omega) ⟨fun c122 => ?_, fun c122 => ?_⟩
                  · refine kw_iinc (lv' := [(6, _), (0, _), (1, _), (2, _), (3, _), (4, _), (5, _)]) hC dX8_change_128 rfl 6 rfl (by decide) rfl ?_
                    refine kw_goto (tgt := 88) hC dX8_change_131 rfl (by decide) ?_
                    refine kw_lv [1, 2, 3, 4, 5, 6, 0] rfl ?_
                    exact ih88 (x + 1) (by omega) (by omega) (fun j j0 j1 => by rcases Decidable.em (j = x) with e | e; exact (by rw [e]; first | (rw [if_pos (by omega)]; omega) | (rw [if_neg (by omega)]; omega)); exact hall j j0 (by omega)) (by omega)
                  · have hne9 : ¬ (∀ j : Nat, j < (mtA (rM S) ((rSl S a).getD b.toNat 0) ((rSl S a).getD (b + 1).toNat 0)).toNat → (rSl S a).getD (b.toNat + j) 0 = if j % 2 = 0 then (rSl S a).getD b.toNat 0 else (rSl S a).getD (b + 1).toNat 0) := fun z => by have z2 := z x.toNat (by omega); rw [show b.toNat + x.toNat = (b + x).toNat by omega, hg4, hg1, hg2] at z2; first | (rw [if_pos (by omega)] at z2; omega) | (rw [if_neg (by omega)] at z2; omega)
                    refine kw_bipush hC dX8_change_125 rfl (by decide) ?_
                    exact hR9.1 rfl _ _ _ _ dX8_change_127 (by first | (exfalso; omega) | exact ⟨_, rfl, hRS, Fr.rfl _ S, by unfold fChange; rw [if_neg (by omega)]⟩ | exact ⟨_, rfl, hRS, Fr.rfl _ S, by unfold fChange; rw [if_pos (by omega), if_pos (Or.inl (by omega))]⟩ | exact ⟨_, rfl, hRS, Fr.rfl _ S, by unfold fChange; rw [if_pos (by omega), if_pos (Or.inr (Or.inl (by omega)))]⟩ | exact ⟨_, rfl, hRS, Fr.rfl _ S, by unfold fChange; rw [if_pos (by omega), if_pos (Or.inr (Or.inr hne9))]⟩ | exact ⟨_, rfl, hw9, fV_tW hfS, by unfold fChange; rw [if_pos (by omega), if_neg (fun z => by rcases z with z | z | z; omega; omega; exact z hall9), hst]; exact Prod.ext (by show _ = _; omega) rfl⟩)
          refine kw_lv [4, 5, 6, 3, 2, 1, 0] rfl ?_
          exact hL88 7 0 (by omega) (by omega) (fun j _ _ => by omega) (by omega)
        · refine kw_bipush hC dX8_change_82 rfl (by decide) ?_
          exact hR9.1 rfl _ _ _ _ dX8_change_84 (by first | (exfalso; omega) | exact ⟨_, rfl, hRS, Fr.rfl _ S, by unfold fChange; rw [if_neg (by omega)]⟩ | exact ⟨_, rfl, hRS, Fr.rfl _ S, by unfold fChange; rw [if_pos (by omega), if_pos (Or.inl (by omega))]⟩ | exact ⟨_, rfl, hRS, Fr.rfl _ S, by unfold fChange; rw [if_pos (by omega), if_pos (Or.inr (Or.inl (by omega)))]⟩ | exact ⟨_, rfl, hRS, Fr.rfl _ S, by unfold fChange; rw [if_pos (by omega), if_pos (Or.inr (Or.inr hne9))]⟩ | exact ⟨_, rfl, hw9, fV_tW hfS, by unfold fChange; rw [if_pos (by omega), if_neg (fun z => by rcases z with z | z | z; omega; omega; exact z hall9), hst]; exact Prod.ext (by show _ = _; omega) rfl⟩)
    · refine kw_iconst hC dX8_change_25 rfl ?_
      exact hR9.1 rfl _ _ _ _ dX8_change_26 (by first | (exfalso; omega) | exact ⟨_, rfl, hRS, Fr.rfl _ S, by unfold fChange; rw [if_neg (by omega)]⟩ | exact ⟨_, rfl, hRS, Fr.rfl _ S, by unfold fChange; rw [if_pos (by omega), if_pos (Or.inl (by omega))]⟩ | exact ⟨_, rfl, hRS, Fr.rfl _ S, by unfold fChange; rw [if_pos (by omega), if_pos (Or.inr (Or.inl (by omega)))]⟩ | exact ⟨_, rfl, hRS, Fr.rfl _ S, by unfold fChange; rw [if_pos (by omega), if_pos (Or.inr (Or.inr hne9))]⟩ | exact ⟨_, rfl, hw9, fV_tW hfS, by unfold fChange; rw [if_pos (by omega), if_neg (fun z => by rcases z with z | z | z; omega; omega; exact z hall9), hst]; exact Prod.ext (by show _ = _; omega) rfl⟩)

set_option maxHeartbeats 4000000 in
set_option maxRecDepth 100000 in
theorem f_X8_same {g : wG} (hD : wD g) {S : wSt} {a b : Int} (ha : -2147483648 ≤ a ∧ a ≤ 2147483647) (hb : -2147483648 ≤ b ∧ b ≤ 2147483647) (hRS : RI S) (l : Launch) : Kt l yX8_same wsX8_same ({ frames := 5, cells := 0, slots := 0, locals := 114 } : Room) g S [vr g 30 0, vi a, vi b] (pI (fun r S' => RI S' ∧ Fr tW S S' ∧ (fSame (rM S) (rn S) a b (rSl S), rSl S) = (r, rSl S'))) := by
  refine Kt.of (cc := cX8_same) (nL := 5) (ret := (some .int)) (own := RX8) rfl hD (by decide) rfl (Nat.le_of_ble_eq_true rfl) ⟨rfl, rfl⟩ ?_
  intro E hC hR9
  have f57 : Cond.fieldLink RX8 57 "MirrorBenchModel" "wMany" "I" ∈ wsX8_same := by decide +kernel
  have f60 : Cond.fieldLink RX8 60 "MirrorBenchModel" "w" "[I" ∈ wsX8_same := by decide +kernel
  have f126 : Cond.fieldLink RX8 126 "MirrorBenchModel" "vMany" "I" ∈ wsX8_same := by decide +kernel
  have f129 : Cond.fieldLink RX8 129 "MirrorBenchModel" "v" "[I" ∈ wsX8_same := by decide +kernel
  have w8 : ∀ w ∈ wsX80, w ∈ wsX8_same := by decide +kernel
  show Wk E g 5 S 0 [(0, vr g 30 0), (1, vi a), (2, vi b)] []
  have hfS : Fr tR S S := Fr.rfl _ S
  have hRS := hRS.fr hfS
  have hnS := hRS.n
  have enS : S 30 0 0 = S 30 0 0 := hfS 30 0 0 (by unfold tR; omega)
  have hnS := hRS.n
  have hnn : (rn S : Int) = S 30 0 0 := by unfold rn; omega
  refine kw_iload_n hC dX8_same_0 rfl 1 rfl ?_
  refine kw_callS hC (d_X8_isSlot hD (by omega)) gX8_same_X8_isSlot rfl ⟨rfl, rfl⟩ 1 (by decide +kernel) ⟨by decide, by decide⟩ rfl rfl (Nat.le_of_ble_eq_true rfl) dX8_same_1 rfl (kd_ie ?_)
  refine kw_ifeq_b (tgt := 14) hC dX8_same_4 rfl (by decide) ⟨fun c4 => ?_, fun c4 => ?_⟩
  · refine kw_iconst hC dX8_same_14 rfl ?_
    exact hR9.1 rfl _ _ _ _ dX8_same_15 (by first | (exfalso; omega) | exact ⟨_, rfl, hRS, tR_tW hfS, by unfold fSame; rw [if_neg (by omega), rSl_tR hfS]⟩ | exact ⟨_, rfl, hRS, tR_tW hfS, by unfold fSame; rw [if_pos (by omega), (hfoa.resolve_right (fun z => by omega)).2.2, rSl_tR hfS]; rfl⟩ | exact ⟨_, rfl, hRS, tR_tW hfS, by unfold fSame; rw [if_pos (by omega), hA9, (hfob.resolve_right (fun z => by omega)).2.2, rSl_tR hfS]; rfl⟩ | exact ⟨_, rfl, hRS, tR_tW hfS, by unfold fSame; rw [if_pos (by omega), hA9, hB9, rSl_tR hfS]; first | rw [likP_y (hz9.mp (by omega))] | rw [likP_n (fun q => by have := hz9.mpr q; omega)]⟩)
  · refine kw_iload_n hC dX8_same_7 rfl 2 rfl ?_
    refine kw_callS hC (d_X8_isSlot hD (by omega)) gX8_same_X8_isSlot rfl ⟨rfl, rfl⟩ 1 (by decide +kernel) ⟨by decide, by decide⟩ rfl rfl (Nat.le_of_ble_eq_true rfl) dX8_same_8 rfl (kd_ie ?_)
    refine kw_ifne_b (tgt := 16) hC dX8_same_11 rfl (by decide) ⟨fun c11 => ?_, fun c11 => ?_⟩
    · refine kw_aload_n hC dX8_same_16 rfl 0 rfl ?_
      refine kw_iload_n hC dX8_same_17 rfl 1 rfl ?_
      refine kw_callV hC (d_X8_load hD (by omega) (by omega) hRS) gX8_same_X8_load ⟨_, rfl⟩ rfl (by decide) (by decide) rfl ⟨rfl, rfl⟩ 1 (by decide +kernel) ⟨by decide, by decide⟩ rfl rfl (Nat.le_of_ble_eq_true rfl) dX8_same_18 rfl (kd_v (fun S3 hp3 => ?_))
      obtain ⟨hg3, hp3⟩ := hp3
      have hfS3 : Fr tR S S3 := hfS.trans (hg3.mono (fun k i j h => by unfold fL at h; unfold tR; omega))
      have hRS3 := hRS.fr hfS3
      have hnS3 := hRS3.n
      have enS3 : S3 30 0 0 = S 30 0 0 := hfS3 30 0 0 (by unfold tR; omega)
      obtain ⟨q14, qW⟩ := hp3
      have hwv : WV (S3 53 0) (S3 30 0 14) (S3 30 0 0) := ldWV hRS (by omega) (by omega) q14 qW (by omega)
      have hl3 := hRS.ln a (by omega) (by omega)
      have eWa : rW S3 = rSl S a := (ld_rW (by omega) (by omega) q14 qW).trans (by rw [rSl_tR hfS])
      refine kw_aload_n hC dX8_same_21 rfl 0 rfl ?_
      refine kw_callV hC (f_X8_formOfW hD hRS3 hwv (by omega) (by omega)) gX8_same_X8_formOfW ⟨_, rfl⟩ rfl (by decide) (by decide) rfl ⟨rfl, rfl⟩ 0 (by decide +kernel) ⟨by decide, by decide⟩ rfl rfl (Nat.le_of_ble_eq_true rfl) dX8_same_22 rfl (kd_i (fun r4 S4 hp4 => ?_))
      obtain ⟨hg4, hp4⟩ := hp4
      have hfS4 : Fr tR S S4 := hfS3.trans (hg4.mono (fun k i j h => by unfold fW at h; unfold tR; omega))
      have hRS4 := hRS.fr hfS4
      have hnS4 := hRS4.n
      have enS4 : S4 30 0 0 = S 30 0 0 := hfS4 30 0 0 (by unfold tR; omega)
      obtain ⟨⟨w0, w1⟩, hwv, hq4⟩ := hp4
      rw [rM_eq (W := S3) (S := S) (hfS3 30 0 0 (by unfold tR; omega)) (fun j => hfS3 42 0 j (by unfold tR; omega)), rn_eq (W := S3) (S := S) (hfS3 30 0 0 (by unfold tR; omega))] at hq4
      rw [eWa] at hq4
      have hfoa := hq4
      replace hwv : WV (S4 53 0) (S4 30 0 14) (S4 30 0 0) := hwv.eq (fun _ _ _ => rfl) rfl (by omega)
      refine kw_if_ne (tgt := 31) hC dX8_same_25 rfl (by decide) (by omega) ⟨fun c25 => ?_, fun c25 => ?_⟩
      · refine kw_aload_n hC dX8_same_31 rfl 0 rfl ?_
        refine kw_callV hC (d_X8_wToV hD (by omega) (by omega)) gX8_same_X8_wToV ⟨_, rfl⟩ rfl (by decide) (by decide) rfl ⟨rfl, rfl⟩ 0 (by decide +kernel) ⟨by decide, by decide⟩ rfl rfl (Nat.le_of_ble_eq_true rfl) dX8_same_32 rfl (kd_v (fun S6 hp6 => ?_))
        obtain ⟨hg6, hp6⟩ := hp6
        have hfS6 : Fr tR S S6 := hfS4.trans (hg6.mono (fun k i j h => by unfold fX at h; unfold tR; omega))
        have hRS6 := hRS.fr hfS6
        have hnS6 := hRS6.n
        have enS6 : S6 30 0 0 = S 30 0 0 := hfS6 30 0 0 (by unfold tR; omega)
        obtain ⟨q12, qV⟩ := hp6
        have eV9 : rV S6 = rW S4 := wl_eq q12 qV
        have hvv : WV (S6 51 0) (S6 30 0 12) (S6 30 0 0) := hwv.eq (fun j j0 j1 => qV j j0 j1) q12 (by omega)
        have hA9 := (hfoa.resolve_left (fun z => by omega)).2.2
        have eV8 := eV9
        rw [← eV8] at hA9
        refine kw_aload_n hC dX8_same_35 rfl 0 rfl ?_
        refine kw_iload_n hC dX8_same_36 rfl 2 rfl ?_
        refine kw_callV hC (d_X8_load hD (by omega) (by omega) hRS6) gX8_same_X8_load ⟨_, rfl⟩ rfl (by decide) (by decide) rfl ⟨rfl, rfl⟩ 1 (by decide +kernel) ⟨by decide, by decide⟩ rfl rfl (Nat.le_of_ble_eq_true rfl) dX8_same_37 rfl (kd_v (fun S7 hp7 => ?_))
        obtain ⟨hg7, hp7⟩ := hp7
        have hfS7 : Fr tR S S7 := hfS6.trans (hg7.mono (fun k i j h => by unfold fL at h; unfold tR; omega))
        have hRS7 := hRS.fr hfS7
        have hnS7 := hRS7.n
        have enS7 : S7 30 0 0 = S 30 0 0 := hfS7 30 0 0 (by unfold tR; omega)
        obtain ⟨q14, qW⟩ := hp7
        have hwv : WV (S7 53 0) (S7 30 0 14) (S7 30 0 0) := ldWV hRS6 (by omega) (by omega) q14 qW (by omega)
        have hl7 := hRS6.ln b (by omega) (by omega)
        have eWb : rW S7 = rSl S b := (ld_rW (by omega) (by omega) q14 qW).trans (by rw [rSl_tR hfS6])
        have e12_7 : S7 30 0 12 = S6 30 0 12 := hg7 30 0 12 (by unfold fL; omega)
        replace hvv : WV (S7 51 0) (S7 30 0 12) (S7 30 0 0) := hvv.eq (fun j _ _ => hg7 51 0 j (by unfold fL; omega)) e12_7 (hg7 30 0 0 (by unfold fL; omega))
        have eV9 : rV S7 = rV S6 := wl_eq (hg7 30 0 12 (by unfold fL; omega)) (fun j _ _ => hg7 51 0 j (by unfold fL; omega))
        rw [← eV9] at hA9
        refine kw_aload_n hC dX8_same_40 rfl 0 rfl ?_
        refine kw_callV hC (f_X8_formOfW hD hRS7 hwv (by omega) (by omega)) gX8_same_X8_formOfW ⟨_, rfl⟩ rfl (by decide) (by decide) rfl ⟨rfl, rfl⟩ 0 (by decide +kernel) ⟨by decide, by decide⟩ rfl rfl (Nat.le_of_ble_eq_true rfl) dX8_same_41 rfl (kd_i (fun r8 S8 hp8 => ?_))
        obtain ⟨hg8, hp8⟩ := hp8
        have hfS8 : Fr tR S S8 := hfS7.trans (hg8.mono (fun k i j h => by unfold fW at h; unfold tR; omega))
        have hRS8 := hRS.fr hfS8
        have hnS8 := hRS8.n
        have enS8 : S8 30 0 0 = S 30 0 0 := hfS8 30 0 0 (by unfold tR; omega)
        obtain ⟨⟨w0, w1⟩, hwv, hq8⟩ := hp8
        rw [rM_eq (W := S7) (S := S) (hfS7 30 0 0 (by unfold tR; omega)) (fun j => hfS7 42 0 j (by unfold tR; omega)), rn_eq (W := S7) (S := S) (hfS7 30 0 0 (by unfold tR; omega))] at hq8
        rw [eWb] at hq8
        have hfob := hq8
        replace hwv : WV (S8 53 0) (S8 30 0 14) (S8 30 0 0) := hwv.eq (fun _ _ _ => rfl) rfl (by omega)
        have e12_8 : S8 30 0 12 = S7 30 0 12 := hg8 30 0 12 (by unfold fW; omega)
        replace hvv : WV (S8 51 0) (S8 30 0 12) (S8 30 0 0) := hvv.eq (fun j _ _ => hg8 51 0 j (by unfold fW; omega)) e12_8 (hg8 30 0 0 (by unfold fW; omega))
        have eV9 : rV S8 = rV S7 := wl_eq (hg8 30 0 12 (by unfold fW; omega)) (fun j _ _ => hg8 51 0 j (by unfold fW; omega))
        rw [← eV9] at hA9
        have eV8 : rV S8 = rV S8 := rfl
        refine kw_if_ne (tgt := 50) hC dX8_same_44 rfl (by decide) (by omega) ⟨fun c44 => ?_, fun c44 => ?_⟩
        · have hB9 := (hfob.resolve_left (fun z => by omega)).2.2
          refine kw_aload_n hC dX8_same_50 rfl 0 rfl ?_
          refine kg_30_12 hC w8 f126 dX8_same_51 rfl (by decide) (by decide) ?_
          refine kw_aload_n hC dX8_same_54 rfl 0 rfl ?_
          refine kg_30_14 hC w8 f57 dX8_same_55 rfl (by decide) (by decide) ?_
          refine kw_icmp_ne (tgt := 65) hC dX8_same_58 rfl (by decide) (by omega) (by omega) ⟨fun c58 => ?_, fun c58 => ?_⟩
          · refine kw_iconst hC dX8_same_65 rfl ?_
            refine kw_istore_n (lv' := [(3, _), (0, _), (1, _), (2, _)]) hC dX8_same_66 rfl (by decide) rfl ?_
            refine kw_iconst hC dX8_same_67 rfl ?_
            refine kw_istore (lv' := [(4, _), (3, _), (0, _), (1, _), (2, _)]) hC dX8_same_68 rfl (by decide) rfl ?_
            have hL70 : ∀ (n70 : Nat) (x : Int) (z : Int), (0 ≤ x) → (x ≤ S8 30 0 14) → (z = 0 ∨ z = 1) → ((z = 0 → rV S8 ≠ rW S8) ∧ (z = 1 → ∀ j, 0 ≤ j → j < x → S8 51 0 j = S8 53 0 j)) → (z = 1 → S8 30 0 12 = S8 30 0 14) → S8 30 0 14 - x < (n70 : Int) → Wk E g 5 S8 70 [(0, vr g 30 0), (1, vi a), (2, vi b), (3, vi z), (4, vi x)] [] := by
              intro n70
              induction n70 with
              | zero => intro x z hx0 hx1 hz h3 h4 hm70; exact absurd hm70 (by omega)
              | succ n70 ih70 =>
                intro x z hx0 hx1 hz h3 h4 hm70
                refine kw_iload hC dX8_same_70 rfl 4 rfl ?_
                refine kw_aload_n hC dX8_same_72 rfl 0 rfl ?_
                refine kg_30_14 hC w8 f57 dX8_same_73 rfl (by decide) (by decide) ?_
                refine kw_icmp_ge (tgt := 112) hC dX8_same_76 rfl (by decide) (by omega) (by omega) ⟨fun c76 => ?_, fun c76 => ?_⟩
                · have hz9 : z = 1 ↔ rV S8 = rW S8 := ⟨fun q => wl_eq (by omega) (fun j j0 j1 => h3.2 q j j0 (by omega)), fun q => by rcases hz with z9 | z9; exact absurd q (h3.1 z9); exact z9⟩
                  refine kw_iload_n hC dX8_same_112 rfl 3 rfl ?_
                  refine kw_if_eq (tgt := 120) hC dX8_same_113 rfl (by decide) (by omega) ⟨fun c113 => ?_, fun c113 => ?_⟩
                  · refine kw_iconst hC dX8_same_120 rfl ?_
                    exact hR9.1 rfl _ _ _ _ dX8_same_121 (by first | (exfalso; omega) | exact ⟨_, rfl, hRS8, tR_tW hfS8, by unfold fSame; rw [if_neg (by omega), rSl_tR hfS8]⟩ | exact ⟨_, rfl, hRS8, tR_tW hfS8, by unfold fSame; rw [if_pos (by omega), (hfoa.resolve_right (fun z => by omega)).2.2, rSl_tR hfS8]; rfl⟩ | exact ⟨_, rfl, hRS8, tR_tW hfS8, by unfold fSame; rw [if_pos (by omega), hA9, (hfob.resolve_right (fun z => by omega)).2.2, rSl_tR hfS8]; rfl⟩ | exact ⟨_, rfl, hRS8, tR_tW hfS8, by unfold fSame; rw [if_pos (by omega), hA9, hB9, rSl_tR hfS8]; first | rw [likP_y (hz9.mp (by omega))] | rw [likP_n (fun q => by have := hz9.mpr q; omega)]⟩)
                  · refine kw_iconst hC dX8_same_116 rfl ?_
                    refine kw_goto (tgt := 121) hC dX8_same_117 rfl (by decide) ?_
                    exact hR9.1 rfl _ _ _ _ dX8_same_121 (by first | (exfalso; omega) | exact ⟨_, rfl, hRS8, tR_tW hfS8, by unfold fSame; rw [if_neg (by omega), rSl_tR hfS8]⟩ | exact ⟨_, rfl, hRS8, tR_tW hfS8, by unfold fSame; rw [if_pos (by omega), (hfoa.resolve_right (fun z => by omega)).2.2, rSl_tR hfS8]; rfl⟩ | exact ⟨_, rfl, hRS8, tR_tW hfS8, by unfold fSame; rw [if_pos (by omega), hA9, (hfob.resolve_right (fun z => by omega)).2.2, rSl_tR hfS8]; rfl⟩ | exact ⟨_, rfl, hRS8, tR_tW hfS8, by unfold fSame; rw [if_pos (by omega), hA9, hB9, rSl_tR hfS8]; first | rw [likP_y (hz9.mp (by omega))] | rw [likP_n (fun q => by have := hz9.mpr q; omega)]⟩)
                · refine kw_iload_n hC dX8_same_79 rfl 3 rfl ?_
                  refine kw_if_eq (tgt := 112) hC dX8_same_80 rfl (by decide) (by omega) ⟨fun c80 => ?_, fun c80 => ?_⟩
                  · have hz9 : z = 1 ↔ rV S8 = rW S8 := ⟨fun q => wl_eq (by omega) (fun j j0 j1 => h3.2 q j j0 (by omega)), fun q => by rcases hz with z9 | z9; exact absurd q (h3.1 z9); exact z9⟩
                    refine kw_iload_n hC dX8_same_112 rfl 3 rfl ?_
                    refine kw_if_eq (tgt := 120) hC dX8_same_113 rfl (by decide) (by omega) ⟨fun c113 => ?_, fun c113 => ?_⟩
                    · refine kw_iconst hC dX8_same_120 rfl ?_
                      exact hR9.1 rfl _ _ _ _ dX8_same_121 (by first | (exfalso; omega) | exact ⟨_, rfl, hRS8, tR_tW hfS8, by unfold fSame; rw [if_neg (by omega), rSl_tR hfS8]⟩ | exact ⟨_, rfl, hRS8, tR_tW hfS8, by unfold fSame; rw [if_pos (by omega), (hfoa.resolve_right (fun z => by omega)).2.2, rSl_tR hfS8]; rfl⟩ | exact ⟨_, rfl, hRS8, tR_tW hfS8, by unfold fSame; rw [if_pos (by omega), hA9, (hfob.resolve_right (fun z => by omega)).2.2, rSl_tR hfS8]; rfl⟩ | exact ⟨_, rfl, hRS8, tR_tW hfS8, by unfold fSame; rw [if_pos (by omega), hA9, hB9, rSl_tR hfS8]; first | rw [likP_y (hz9.mp (by omega))] | rw [likP_n (fun q => by have := hz9.mpr q; omega)]⟩)
                    · refine kw_iconst hC dX8_same_116 rfl ?_
                      refine kw_goto (tgt := 121) hC dX8_same_117 rfl (by decide) ?_
                      exact hR9.1 rfl _ _ _ _ dX8_same_121 (by first | (exfalso; omega) | exact ⟨_, rfl, hRS8, tR_tW hfS8, by unfold fSame; rw [if_neg (by omega), rSl_tR hfS8]⟩ | exact ⟨_, rfl, hRS8, tR_tW hfS8, by unfold fSame; rw [if_pos (by omega), (hfoa.resolve_right (fun z => by omega)).2.2, rSl_tR hfS8]; rfl⟩ | exact ⟨_, rfl, hRS8, tR_tW hfS8, by unfold fSame; rw [if_pos (by omega), hA9, (hfob.resolve_right (fun z => by omega)).2.2, rSl_tR hfS8]; rfl⟩ | exact ⟨_, rfl, hRS8, tR_tW hfS8, by unfold fSame; rw [if_pos (by omega), hA9, hB9, rSl_tR hfS8]; first | rw [likP_y (hz9.mp (by omega))] | rw [likP_n (fun q => by have := hz9.mpr q; omega)]⟩)
                  · refine kw_aload_n hC dX8_same_83 rfl 0 rfl ?_
                    refine kg_30_11 hC w8 f129 dX8_same_84 rfl (by decide) (by decide) ?_
                    refine kw_iload hC dX8_same_87 rfl 4 rfl ?_
                    refine ka_51 hC dX8_same_89 rfl (by decide) (by decide) (by omega) (by omega) ?_
                    have hva := hvv x (by omega) (by omega)
                    refine kw_aload_n hC dX8_same_90 rfl 0 rfl ?_
                    refine kg_30_13 hC w8 f60 dX8_same_91 rfl (by decide) (by decide) ?_
                    refine kw_iload hC dX8_same_94 rfl 4 rfl ?_
                    refine ka_53 hC dX8_same_96 rfl (by decide) (by decide) (by omega) (by omega) ?_
                    have hwa := hwv x (by omega) (by omega)
                    refine kw_icmp_ne (tgt := 104) hC dX8_same_97 rfl (by decide) (by omega) (by omega) ⟨fun c97 => ?_, fun c97 => ?_⟩
                    · refine kw_iconst hC dX8_same_104 rfl ?_
                      refine kw_istore_n (lv' := [(3, _), (0, _), (1, _), (2, _), (4, _)]) hC dX8_same_105 rfl (by decide) rfl ?_
                      refine kw_iinc (lv' := [(4, _), (3, _), (0, _), (1, _), (2, _)]) hC dX8_same_106 rfl 4 rfl (by decide) rfl ?_
                      refine kw_goto (tgt := 70) hC dX8_same_109 rfl (by decide) ?_
                      refine kw_lv [2, 3, 4, 1, 0] rfl ?_
                      exact ih70 (x + 1) _ (by omega) (by omega) (by omega) ⟨fun q => by first | (exfalso; omega) | exact (fun q9 => by have h5 := congrArg (fun l => List.getD l x.toNat 0) q9; simp only [rV, rW] at h5; rw [wl_get _ (by omega), wl_get _ (by omega), Int.toNat_of_nonneg hx0] at h5; omega), fun q j j0 j1 => by first | (exfalso; omega) | (rcases Decidable.em (j = x) with e | e; exact (by rw [e]; omega); exact h3.2 (by omega) j j0 (by omega))⟩ (fun q => h4 (by omega)) (by omega)
                    · refine kw_iconst hC dX8_same_100 rfl ?_
                      refine kw_goto (tgt := 105) hC dX8_same_101 rfl (by decide) ?_
                      refine kw_istore_n (lv' := [(3, _), (0, _), (1, _), (2, _), (4, _)]) hC dX8_same_105 rfl (by decide) rfl ?_
                      refine kw_iinc (lv' := [(4, _), (3, _), (0, _), (1, _), (2, _)]) hC dX8_same_106 rfl 4 rfl (by decide) rfl ?_
                      refine kw_goto (tgt := 70) hC dX8_same_109 rfl (by decide) ?_
                      refine kw_lv [2, 3, 4, 1, 0] rfl ?_
                      exact ih70 (x + 1) _ (by omega) (by omega) (by omega) ⟨fun q => by first | (exfalso; omega) | exact (fun q9 => by have h5 := congrArg (fun l => List.getD l x.toNat 0) q9; simp only [rV, rW] at h5; rw [wl_get _ (by omega), wl_get _ (by omega), Int.toNat_of_nonneg hx0] at h5; omega), fun q j j0 j1 => by first | (exfalso; omega) | (rcases Decidable.em (j = x) with e | e; exact (by rw [e]; omega); exact h3.2 (by omega) j j0 (by omega))⟩ (fun q => h4 (by omega)) (by omega)
            refine kw_lv [2, 3, 4, 1, 0] rfl ?_
            exact hL70 101 0 _ (by omega) (by omega) (by omega) ⟨fun q => by first | (exfalso; omega) | exact (fun q9 => by have h5 := congrArg List.length q9; unfold rV rW at h5; rw [wl_len, wl_len] at h5; omega), fun _ j _ _ => by omega⟩ (fun q => by omega) (by omega)
          · refine kw_iconst hC dX8_same_61 rfl ?_
            refine kw_goto (tgt := 66) hC dX8_same_62 rfl (by decide) ?_
            refine kw_istore_n (lv' := [(3, _), (0, _), (1, _), (2, _)]) hC dX8_same_66 rfl (by decide) rfl ?_
            refine kw_iconst hC dX8_same_67 rfl ?_
            refine kw_istore (lv' := [(4, _), (3, _), (0, _), (1, _), (2, _)]) hC dX8_same_68 rfl (by decide) rfl ?_
            have hL70 : ∀ (n70 : Nat) (x : Int) (z : Int), (0 ≤ x) → (x ≤ S8 30 0 14) → (z = 0 ∨ z = 1) → ((z = 0 → rV S8 ≠ rW S8) ∧ (z = 1 → ∀ j, 0 ≤ j → j < x → S8 51 0 j = S8 53 0 j)) → (z = 1 → S8 30 0 12 = S8 30 0 14) → S8 30 0 14 - x < (n70 : Int) → Wk E g 5 S8 70 [(0, vr g 30 0), (1, vi a), (2, vi b), (3, vi z), (4, vi x)] [] := by
              intro n70
              induction n70 with
              | zero => intro x z hx0 hx1 hz h3 h4 hm70; exact absurd hm70 (by omega)
              | succ n70 ih70 =>
                intro x z hx0 hx1 hz h3 h4 hm70
                refine kw_iload hC dX8_same_70 rfl 4 rfl ?_
                refine kw_aload_n hC dX8_same_72 rfl 0 rfl ?_
                refine kg_30_14 hC w8 f57 dX8_same_73 rfl (by decide) (by decide) ?_
                refine kw_icmp_ge (tgt := 112) hC dX8_same_76 rfl (by decide) (by omega) (by omega) ⟨fun c76 => ?_, fun c76 => ?_⟩
                · have hz9 : z = 1 ↔ rV S8 = rW S8 := ⟨fun q => wl_eq (by omega) (fun j j0 j1 => h3.2 q j j0 (by omega)), fun q => by rcases hz with z9 | z9; exact absurd q (h3.1 z9); exact z9⟩
                  refine kw_iload_n hC dX8_same_112 rfl 3 rfl ?_
                  refine kw_if_eq (tgt := 120) hC dX8_same_113 rfl (by decide) (by omega) ⟨fun c113 => ?_, fun c113 => ?_⟩
                  · refine kw_iconst hC dX8_same_120 rfl ?_
                    exact hR9.1 rfl _ _ _ _ dX8_same_121 (by first | (exfalso; omega) | exact ⟨_, rfl, hRS8, tR_tW hfS8, by unfold fSame; rw [if_neg (by omega), rSl_tR hfS8]⟩ | exact ⟨_, rfl, hRS8, tR_tW hfS8, by unfold fSame; rw [if_pos (by omega), (hfoa.resolve_right (fun z => by omega)).2.2, rSl_tR hfS8]; rfl⟩ | exact ⟨_, rfl, hRS8, tR_tW hfS8, by unfold fSame; rw [if_pos (by omega), hA9, (hfob.resolve_right (fun z => by omega)).2.2, rSl_tR hfS8]; rfl⟩ | exact ⟨_, rfl, hRS8, tR_tW hfS8, by unfold fSame; rw [if_pos (by omega), hA9, hB9, rSl_tR hfS8]; first | rw [likP_y (hz9.mp (by omega))] | rw [likP_n (fun q => by have := hz9.mpr q; omega)]⟩)
                  · refine kw_iconst hC dX8_same_116 rfl ?_
                    refine kw_goto (tgt := 121) hC dX8_same_117 rfl (by decide) ?_
                    exact hR9.1 rfl _ _ _ _ dX8_same_121 (by first | (exfalso; omega) | exact ⟨_, rfl, hRS8, tR_tW hfS8, by unfold fSame; rw [if_neg (by omega), rSl_tR hfS8]⟩ | exact ⟨_, rfl, hRS8, tR_tW hfS8, by unfold fSame; rw [if_pos (by omega), (hfoa.resolve_right (fun z => by omega)).2.2, rSl_tR hfS8]; rfl⟩ | exact ⟨_, rfl, hRS8, tR_tW hfS8, by unfold fSame; rw [if_pos (by omega), hA9, (hfob.resolve_right (fun z => by omega)).2.2, rSl_tR hfS8]; rfl⟩ | exact ⟨_, rfl, hRS8, tR_tW hfS8, by unfold fSame; rw [if_pos (by omega), hA9, hB9, rSl_tR hfS8]; first | rw [likP_y (hz9.mp (by omega))] | rw [likP_n (fun q => by have := hz9.mpr q; omega)]⟩)
                · refine kw_iload_n hC dX8_same_79 rfl 3 rfl ?_
                  refine kw_if_eq (tgt := 112) hC dX8_same_80 rfl (by decide) (by omega) ⟨fun c80 => ?_, fun c80 => ?_⟩
                  · have hz9 : z = 1 ↔ rV S8 = rW S8 := ⟨fun q => wl_eq (by omega) (fun j j0 j1 => h3.2 q j j0 (by omega)), fun q => by rcases hz with z9 | z9; exact absurd q (h3.1 z9); exact z9⟩
                    refine kw_iload_n hC dX8_same_112 rfl 3 rfl ?_
                    refine kw_if_eq (tgt := 120) hC dX8_same_113 rfl (by decide) (by omega) ⟨fun c113 => ?_, fun c113 => ?_⟩
                    · refine kw_iconst hC dX8_same_120 rfl ?_
                      exact hR9.1 rfl _ _ _ _ dX8_same_121 (by first | (exfalso; omega) | exact ⟨_, rfl, hRS8, tR_tW hfS8, by unfold fSame; rw [if_neg (by omega), rSl_tR hfS8]⟩ | exact ⟨_, rfl, hRS8, tR_tW hfS8, by unfold fSame; rw [if_pos (by omega), (hfoa.resolve_right (fun z => by omega)).2.2, rSl_tR hfS8]; rfl⟩ | exact ⟨_, rfl, hRS8, tR_tW hfS8, by unfold fSame; rw [if_pos (by omega), hA9, (hfob.resolve_right (fun z => by omega)).2.2, rSl_tR hfS8]; rfl⟩ | exact ⟨_, rfl, hRS8, tR_tW hfS8, by unfold fSame; rw [if_pos (by omega), hA9, hB9, rSl_tR hfS8]; first | rw [likP_y (hz9.mp (by omega))] | rw [likP_n (fun q => by have := hz9.mpr q; omega)]⟩)
                    · refine kw_iconst hC dX8_same_116 rfl ?_
                      refine kw_goto (tgt := 121) hC dX8_same_117 rfl (by decide) ?_
                      exact hR9.1 rfl _ _ _ _ dX8_same_121 (by first | (exfalso; omega) | exact ⟨_, rfl, hRS8, tR_tW hfS8, by unfold fSame; rw [if_neg (by omega), rSl_tR hfS8]⟩ | exact ⟨_, rfl, hRS8, tR_tW hfS8, by unfold fSame; rw [if_pos (by omega), (hfoa.resolve_right (fun z => by omega)).2.2, rSl_tR hfS8]; rfl⟩ | exact ⟨_, rfl, hRS8, tR_tW hfS8, by unfold fSame; rw [if_pos (by omega), hA9, (hfob.resolve_right (fun z => by omega)).2.2, rSl_tR hfS8]; rfl⟩ | exact ⟨_, rfl, hRS8, tR_tW hfS8, by unfold fSame; rw [if_pos (by omega), hA9, hB9, rSl_tR hfS8]; first | rw [likP_y (hz9.mp (by omega))] | rw [likP_n (fun q => by have := hz9.mpr q; omega)]⟩)
                  · refine kw_aload_n hC dX8_same_83 rfl 0 rfl ?_
                    refine kg_30_11 hC w8 f129 dX8_same_84 rfl (by decide) (by decide) ?_
                    refine kw_iload hC dX8_same_87 rfl 4 rfl ?_
                    refine ka_51 hC dX8_same_89 rfl (by decide) (by decide) (by omega) (by omega) ?_
                    have hva := hvv x (by omega) (by omega)
                    refine kw_aload_n hC dX8_same_90 rfl 0 rfl ?_
                    refine kg_30_13 hC w8 f60 dX8_same_91 rfl (by decide) (by decide) ?_
                    refine kw_iload hC dX8_same_94 rfl 4 rfl ?_
                    refine ka_53 hC dX8_same_96 rfl (by decide) (by decide) (by omega) (by omega) ?_
                    have hwa := hwv x (by omega) (by omega)
                    refine kw_icmp_ne (tgt := 104) hC dX8_same_97 rfl (by decide) (by omega) (by omega) ⟨fun c97 => ?_, fun c97 => ?_⟩
                    · refine kw_iconst hC dX8_same_104 rfl ?_
                      refine kw_istore_n (lv' := [(3, _), (0, _), (1, _), (2, _), (4, _)]) hC dX8_same_105 rfl (by decide) rfl ?_
                      refine kw_iinc (lv' := [(4, _), (3, _), (0, _), (1, _), (2, _)]) hC dX8_same_106 rfl 4 rfl (by decide) rfl ?_
                      refine kw_goto (tgt := 70) hC dX8_same_109 rfl (by decide) ?_
                      refine kw_lv [2, 3, 4, 1, 0] rfl ?_
                      exact ih70 (x + 1) _ (by omega) (by omega) (by omega) ⟨fun q => by first | (exfalso; omega) | exact (fun q9 => by have h5 := congrArg (fun l => List.getD l x.toNat 0) q9; simp only [rV, rW] at h5; rw [wl_get _ (by omega), wl_get _ (by omega), Int.toNat_of_nonneg hx0] at h5; omega), fun q j j0 j1 => by first | (exfalso; omega) | (rcases Decidable.em (j = x) with e | e; exact (by rw [e]; omega); exact h3.2 (by omega) j j0 (by omega))⟩ (fun q => h4 (by omega)) (by omega)
                    · refine kw_iconst hC dX8_same_100 rfl ?_
                      refine kw_goto (tgt := 105) hC dX8_same_101 rfl (by decide) ?_
                      refine kw_istore_n (lv' := [(3, _), (0, _), (1, _), (2, _), (4, _)]) hC dX8_same_105 rfl (by decide) rfl ?_
                      refine kw_iinc (lv' := [(4, _), (3, _), (0, _), (1, _), (2, _)]) hC dX8_same_106 rfl 4 rfl (by decide) rfl ?_
                      refine kw_goto (tgt := 70) hC dX8_same_109 rfl (by decide) ?_
                      refine kw_lv [2, 3, 4, 1, 0] rfl ?_
                      exact ih70 (x + 1) _ (by omega) (by omega) (by omega) ⟨fun q => by first | (exfalso; omega) | exact (fun q9 => by have h5 := congrArg (fun l => List.getD l x.toNat 0) q9; simp only [rV, rW] at h5; rw [wl_get _ (by omega), wl_get _ (by omega), Int.toNat_of_nonneg hx0] at h5; omega), fun q j j0 j1 => by first | (exfalso; omega) | (rcases Decidable.em (j = x) with e | e; exact (by rw [e]; omega); exact h3.2 (by omega) j j0 (by omega))⟩ (fun q => h4 (by omega)) (by omega)
            refine kw_lv [2, 3, 4, 1, 0] rfl ?_
            exact hL70 101 0 _ (by omega) (by omega) (by omega) ⟨fun q => by first | (exfalso; omega) | exact (fun q9 => by have h5 := congrArg List.length q9; unfold rV rW at h5; rw [wl_len, wl_len] at h5; omega), fun _ j _ _ => by omega⟩ (fun q => by omega) (by omega)
        · refine kw_bipush hC dX8_same_47 rfl (by decide) ?_
          exact hR9.1 rfl _ _ _ _ dX8_same_49 (by first | (exfalso; omega) | exact ⟨_, rfl, hRS8, tR_tW hfS8, by unfold fSame; rw [if_neg (by omega), rSl_tR hfS8]⟩ | exact ⟨_, rfl, hRS8, tR_tW hfS8, by unfold fSame; rw [if_pos (by omega), (hfoa.resolve_right (fun z => by omega)).2.2, rSl_tR hfS8]; rfl⟩ | exact ⟨_, rfl, hRS8, tR_tW hfS8, by unfold fSame; rw [if_pos (by omega), hA9, (hfob.resolve_right (fun z => by omega)).2.2, rSl_tR hfS8]; rfl⟩ | exact ⟨_, rfl, hRS8, tR_tW hfS8, by unfold fSame; rw [if_pos (by omega), hA9, hB9, rSl_tR hfS8]; first | rw [likP_y (hz9.mp (by omega))] | rw [likP_n (fun q => by have := hz9.mpr q; omega)]⟩)
      · refine kw_bipush hC dX8_same_28 rfl (by decide) ?_
        exact hR9.1 rfl _ _ _ _ dX8_same_30 (by first | (exfalso; omega) | exact ⟨_, rfl, hRS4, tR_tW hfS4, by unfold fSame; rw [if_neg (by omega), rSl_tR hfS4]⟩ | exact ⟨_, rfl, hRS4, tR_tW hfS4, by unfold fSame; rw [if_pos (by omega), (hfoa.resolve_right (fun z => by omega)).2.2, rSl_tR hfS4]; rfl⟩ | exact ⟨_, rfl, hRS4, tR_tW hfS4, by unfold fSame; rw [if_pos (by omega), hA9, (hfob.resolve_right (fun z => by omega)).2.2, rSl_tR hfS4]; rfl⟩ | exact ⟨_, rfl, hRS4, tR_tW hfS4, by unfold fSame; rw [if_pos (by omega), hA9, hB9, rSl_tR hfS4]; first | rw [likP_y (hz9.mp (by omega))] | rw [likP_n (fun q => by have := hz9.mpr q; omega)]⟩)
    · refine kw_iconst hC dX8_same_14 rfl ?_
      exact hR9.1 rfl _ _ _ _ dX8_same_15 (by first | (exfalso; omega) | exact ⟨_, rfl, hRS, tR_tW hfS, by unfold fSame; rw [if_neg (by omega), rSl_tR hfS]⟩ | exact ⟨_, rfl, hRS, tR_tW hfS, by unfold fSame; rw [if_pos (by omega), (hfoa.resolve_right (fun z => by omega)).2.2, rSl_tR hfS]; rfl⟩ | exact ⟨_, rfl, hRS, tR_tW hfS, by unfold fSame; rw [if_pos (by omega), hA9, (hfob.resolve_right (fun z => by omega)).2.2, rSl_tR hfS]; rfl⟩ | exact ⟨_, rfl, hRS, tR_tW hfS, by unfold fSame; rw [if_pos (by omega), hA9, hB9, rSl_tR hfS]; first | rw [likP_y (hz9.mp (by omega))] | rw [likP_n (fun q => by have := hz9.mpr q; omega)]⟩)

set_option maxHeartbeats 4000000 in
set_option maxRecDepth 100000 in
theorem f_X8_downs {g : wG} (hD : wD g) {S : wSt} {a b : Int} (ha : -2147483648 ≤ a ∧ a ≤ 2147483647) (hb : -2147483648 ≤ b ∧ b ≤ 2147483647) (hRS : RI S) (l : Launch) : Kt l yX8_downs wsX8_downs ({ frames := 4, cells := 0, slots := 0, locals := 93 } : Room) g S [vr g 30 0, vi a, vi b] (pI (fun r S' => RI S' ∧ Fr tW S S' ∧ (fDowns (rM S) (rn S) a b (rSl S), rSl S) = (r, rSl S'))) := by
  refine Kt.of (cc := cX8_downs) (nL := 6) (ret := (some .int)) (own := RX8) rfl hD (by decide) rfl (Nat.le_of_ble_eq_true rfl) ⟨rfl, rfl⟩ ?_
  intro E hC hR9
  have f11 : Cond.fieldLink RX8 11 "MirrorBenchModel" "mirrors" "I" ∈ wsX8_downs := by decide +kernel
  have f81 : Cond.fieldLink RX8 81 "MirrorBenchModel" "isGreat" "Z" ∈ wsX8_downs := by decide +kernel
  have w8 : ∀ w ∈ wsX80, w ∈ wsX8_downs := by decide +kernel
  show Wk E g 6 S 0 [(0, vr g 30 0), (1, vi a), (2, vi b)] []
  have hfS : Fr tR S S := Fr.rfl _ S
  have hRS := hRS.fr hfS
  have hnS := hRS.n
  have enS : S 30 0 0 = S 30 0 0 := hfS 30 0 0 (by unfold tR; omega)
  have hnS := hRS.n
  have hnn : (rn S : Int) = S 30 0 0 := by unfold rn; omega
  refine kw_iload_n hC dX8_downs_0 rfl 1 rfl ?_
  refine kw_callS hC (d_X8_isSlot hD (by omega)) gX8_downs_X8_isSlot rfl ⟨rfl, rfl⟩ 1 (by decide +kernel) ⟨by decide, by decide⟩ rfl rfl (Nat.le_of_ble_eq_true rfl) dX8_downs_1 rfl (kd_ie ?_)
  refine kw_ifne_b (tgt := 9) hC dX8_downs_4 rfl (by decide) ⟨fun c4 => ?_, fun c4 => ?_⟩
  · refine kw_aload_n hC dX8_downs_9 rfl 0 rfl ?_
    refine kw_iload_n hC dX8_downs_10 rfl 1 rfl ?_
    refine kw_callV hC (d_X8_load hD (by omega) (by omega) hRS) gX8_downs_X8_load ⟨_, rfl⟩ rfl (by decide) (by decide) rfl ⟨rfl, rfl⟩ 1 (by decide +kernel) ⟨by decide, by decide⟩ rfl rfl (Nat.le_of_ble_eq_true rfl) dX8_downs_11 rfl (kd_v (fun S2 hp2 => ?_))
    obtain ⟨hg2, hp2⟩ := hp2
    have hfS2 : Fr tR S S2 := hfS.trans (hg2.mono (fun k i j h => by unfold fL at h; unfold tR; omega))
    have hRS2 := hRS.fr hfS2
    have hnS2 := hRS2.n
    have enS2 : S2 30 0 0 = S 30 0 0 := hfS2 30 0 0 (by unfold tR; omega)
    obtain ⟨q14, qW⟩ := hp2
    have hwv : WV (S2 53 0) (S2 30 0 14) (S2 30 0 0) := ldWV hRS (by omega) (by omega) q14 qW (by omega)
    have hl2 := hRS.ln a (by omega) (by omega)
    have eWa : rW S2 = rSl S a := (ld_rW (by omega) (by omega) q14 qW).trans (by rw [rSl_tR hfS])
    refine kw_aload_n hC dX8_downs_14 rfl 0 rfl ?_
    refine kw_callV hC (f_X8_shortOf hD hRS2 hwv (by omega) (by omega)) gX8_downs_X8_shortOf ⟨_, rfl⟩ rfl (by decide) (by decide) rfl ⟨rfl, rfl⟩ 0 (by decide +kernel) ⟨by decide, by decide⟩ rfl rfl (Nat.le_of_ble_eq_true rfl) dX8_downs_15 rfl (kd_i (fun r3 S3 hp3 => ?_))
    obtain ⟨hg3, hp3⟩ := hp3
    have hfS3 : Fr tR S S3 := hfS2.trans (hg3.mono (fun k i j h => by unfold fS at h; unfold tR; omega))
    have hRS3 := hRS.fr hfS3
    have hnS3 := hRS3.n
    have enS3 : S3 30 0 0 = S 30 0 0 := hfS3 30 0 0 (by unfold tR; omega)
    obtain ⟨⟨r0, r1⟩, hrv, hq3⟩ := hp3
    rw [rM_eq (W := S2) (S := S) (hfS2 30 0 0 (by unfold tR; omega)) (fun j => hfS2 42 0 j (by unfold tR; omega)), rn_eq (W := S2) (S := S) (hfS2 30 0 0 (by unfold tR; omega))] at hq3
    rw [eWa] at hq3
    have hsh := hq3
    replace hrv : WV (S3 47 0) (S3 30 0 8) (S3 30 0 0) := hrv.eq (fun _ _ _ => rfl) rfl (by omega)
    refine kw_if_ne (tgt := 24) hC dX8_downs_18 rfl (by decide) (by omega) ⟨fun c18 => ?_, fun c18 => ?_⟩
    · have hs9 := hsh.resolve_left (fun z => by omega)
      obtain ⟨RS, hRS9⟩ : ∃ q, q = rR S3 := ⟨_, rfl⟩
      have hsR : shoP (rM S) (rn S) [] (rSl S a) = some RS := by rw [hs9.2.2, hRS9]
      have hgw : S3 30 0 16 = 0 := hs9.2.1
      refine kw_iconst hC dX8_downs_24 rfl ?_
      refine kw_istore_n (lv' := [(3, _), (0, _), (1, _), (2, _)]) hC dX8_downs_25 rfl (by decide) rfl ?_
      refine kw_iconst hC dX8_downs_26 rfl ?_
      refine kw_istore (lv' := [(4, _), (3, _), (0, _), (1, _), (2, _)]) hC dX8_downs_27 rfl (by decide) rfl ?_
      have hL29 : ∀ (n29 : Nat) (s : Int) (z : Int) (W29 : wSt), Fr tR S W29 → (0 ≤ s) → (s ≤ W29 30 0 0) → (s ≤ 6) → (-2147483648 ≤ z ∧ z ≤ 2147483647) → (rR W29 = RS) → (dnsP (rM S) (rn S) b RS (rn S - s.toNat) z = dnsP (rM S) (rn S) b RS (rn S) 0) → (WV (W29 47 0) (W29 30 0 8) (W29 30 0 0)) → (0 ≤ W29 30 0 8) → (W29 30 0 8 ≤ 100) → (W29 30 0 16 = 0) → 6 - s < (n29 : Int) → Wk E g 6 W29 29 [(0, vr g 30 0), (1, vi a), (2, vi b), (3, vi z), (4, vi s)] [] := by
        intro n29
        induction n29 with
        | zero => intro s z W29 hfW29 s0 s1 s6 hzr hRR hd hrv r0 r1 hgw hm29; exact absurd hm29 (by omega)
        | succ n29 ih29 =>
          intro s z W29 hfW29 s0 s1 s6 hzr hRR hd hrv r0 r1 hgw hm29
          have hRW29 := hRS.fr hfW29
          have hnW29 := hRW29.n
          have enW29 : W29 30 0 0 = S 30 0 0 := hfW29 30 0 0 (by unfold tR; omega)
          have hdpr := dnP_r (rM S) (rn S) b RS s.toNat
          refine kw_iload hC dX8_downs_29 rfl 4 rfl ?_
          refine kw_aload_n hC dX8_downs_31 rfl 0 rfl ?_
          refine kg_30_0 hC w8 f11 dX8_downs_32 rfl (by decide) (by decide) ?_
          refine kw_icmp_ge (tgt := 91) hC dX8_downs_35 rfl (by decide) (by omega) (by omega) ⟨fun c35 => ?_, fun c35 => ?_⟩
          · refine kw_iload_n hC dX8_downs_91 rfl 3 rfl ?_
            exact hR9.1 rfl _ _ _ _ dX8_downs_92 (by first | (exfalso; omega) | exact ⟨_, rfl, hRW29, tR_tW hfW29, by unfold fDowns; rw [if_neg (by omega), rSl_tR hfW29]⟩ | exact ⟨_, rfl, hRW29, tR_tW hfW29, by unfold fDowns; rw [if_pos (by omega), (hsh.resolve_right (fun z => by omega)).2.2, rSl_tR hfW29]⟩ | exact ⟨_, rfl, hRW29, tR_tW hfW29, by unfold fDowns; rw [if_pos (by omega), hsR]; rw [rSl_tR hfW29]; exact Prod.ext (hds.1 (by omega)) rfl⟩ | exact ⟨_, rfl, hRW29, tR_tW hfW29, by unfold fDowns; rw [if_pos (by omega), hsR]; rw [rSl_tR hfW29]; exact Prod.ext (dns_e hd (by omega)) rfl⟩)
          · have hds := dns_s hd s0 (by omega)
            refine kw_iload_n hC dX8_downs_38 rfl 2 rfl ?_
            refine kw_if_eq (tgt := 51) hC dX8_downs_39 rfl (by decide) (by omega) ⟨fun c39 => ?_, fun c39 => ?_⟩
            · refine kw_aload_n hC dX8_downs_51 rfl 0 rfl ?_
              refine kw_iload hC dX8_downs_52 rfl 4 rfl ?_
              refine kw_callV hC (f_X8_behind hD (by omega) (by omega) hRW29 hrv (by omega) (by omega) hgw) gX8_downs_X8_behind ⟨_, rfl⟩ rfl (by decide) (by decide) rfl ⟨rfl, rfl⟩ 1 (by decide +kernel) ⟨by decide, by decide⟩ rfl rfl (Nat.le_of_ble_eq_true rfl) dX8_downs_54 rfl (kd_i (fun r7 S7 hp7 => ?_))
              obtain ⟨hg7, hp7⟩ := hp7
              have hfS7 : Fr tR S S7 := hfW29.trans (hg7.mono (fun k i j h => by unfold fT at h; unfold tR; omega))
              have hRS7 := hRS.fr hfS7
              have hnS7 := hRS7.n
              have enS7 : S7 30 0 0 = S 30 0 0 := hfS7 30 0 0 (by unfold tR; omega)
              have hq7 := hp7
              rw [rM_eq (W := W29) (S := S) (hfW29 30 0 0 (by unfold tR; omega)) (fun j => hfW29 42 0 j (by unfold tR; omega)), rn_eq (W := W29) (S := S) (hfW29 30 0 0 (by unfold tR; omega))] at hq7
              rw [hRR] at hq7
              have hk9 := hq7
              have hlr : (RS.length : Int) = W29 30 0 8 := by rw [← hRR]; unfold rR; rw [wl_len]; omega
              have hdp : dnP (rM S) (rn S) b RS s.toNat = bh (rM S) (rn S) RS s.toNat := by unfold dnP; first | rw [if_pos (by omega)] | rw [if_neg (by omega)]
              have e8_7 : S7 30 0 8 = W29 30 0 8 := hg7 30 0 8 (by unfold fT; omega)
              replace hrv : WV (S7 47 0) (S7 30 0 8) (S7 30 0 0) := hrv.eq (fun j _ _ => hg7 47 0 j (by unfold fT; omega)) e8_7 (hg7 30 0 0 (by unfold fT; omega))
              replace hRR : rR S7 = RS := (wl_eq (hg7 30 0 8 (by unfold fT; omega)) (fun j _ _ => hg7 47 0 j (by unfold fT; omega))).trans hRR
              refine kw_istore (lv' := [(5, _), (0, _), (1, _), (2, _), (3, _), (4, _)]) hC dX8_downs_57 rfl (by decide) rfl ?_
              refine kw_aload_n hC dX8_downs_59 rfl 1 rfl ?_
              refine kg_30_16 hC w8 f81 dX8_downs_60 rfl (by decide) (by decide) ?_
              refine kw_if_eq (tgt := 69) hC dX8_downs_63 rfl (by decide) (by omega) ⟨fun c63 => ?_, fun c63 => ?_⟩
              · refine kw_iload_n hC dX8_downs_69 rfl 4 rfl ?_
                refine kw_iload hC dX8_downs_70 rfl 0 rfl ?_
                refine kw_if_lt (tgt := 82) hC dX8_downs_72 rfl (by decide) (by omega) ⟨fun c72 => ?_, fun c72 => ?_⟩
                · refine kw_iconst hC dX8_downs_82 rfl ?_
                  refine kw_iorX hC dX8_downs_83 rfl ?_
                  refine kw_istore_n (lv' := [(3, _), (5, _), (0, _), (1, _), (2, _), (4, _)]) hC dX8_downs_84 rfl (by decide) rfl ?_
                  refine kw_iinc (lv' := [(4, _), (3, _), (5, _), (0, _), (1, _), (2, _)]) hC dX8_downs_85 rfl 5 rfl (by decide) rfl ?_
                  refine kw_goto (tgt := 29) hC dX8_downs_88 rfl (by decide) ?_
                  refine kw_lv [3, 4, 5, 1, 0] rfl ?_
                  exact ih29 (s + 1) _ S7 hfS7 (by omega) (by omega) (by omega) (xi_r _) hRR (by first | exact hds.2.2 (by omega) | (rw [i_or_0 hzr]; exact hds.2.1 (by omega))) hrv (by omega) (by omega) (by omega) (by omega)
                · refine kw_iconst hC dX8_downs_75 rfl ?_
                  refine kw_iload hC dX8_downs_76 rfl 5 rfl ?_
                  refine kw_ishlX hC dX8_downs_78 rfl ?_
                  refine kw_goto (tgt := 83) hC dX8_downs_79 rfl (by decide) ?_
                  refine kw_iorX hC dX8_downs_83 rfl ?_
                  refine kw_istore_n (lv' := [(3, _), (5, _), (0, _), (1, _), (2, _), (4, _)]) hC dX8_downs_84 rfl (by decide) rfl ?_
                  refine kw_iinc (lv' := [(4, _), (3, _), (5, _), (0, _), (1, _), (2, _)]) hC dX8_downs_85 rfl 5 rfl (by decide) rfl ?_
                  refine kw_goto (tgt := 29) hC dX8_downs_88 rfl (by decide) ?_
                  refine kw_lv [3, 4, 5, 1, 0] rfl ?_
                  exact ih29 (s + 1) _ S7 hfS7 (by omega) (by omega) (by omega) (xi_r _) hRR (by first | exact hds.2.2 (by omega) | (rw [i_or_0 hzr]; exact hds.2.1 (by omega))) hrv (by omega) (by omega) (by omega) (by omega)
              · refine kw_bipush hC dX8_downs_66 rfl (by decide) ?_
                exact hR9.1 rfl _ _ _ _ dX8_downs_68 (by first | (exfalso; omega) | exact ⟨_, rfl, hRS7, tR_tW hfS7, by unfold fDowns; rw [if_neg (by omega), rSl_tR hfS7]⟩ | exact ⟨_, rfl, hRS7, tR_tW hfS7, by unfold fDowns; rw [if_pos (by omega), (hsh.resolve_right (fun z => by omega)).2.2, rSl_tR hfS7]⟩ | exact ⟨_, rfl, hRS7, tR_tW hfS7, by unfold fDowns; rw [if_pos (by omega), hsR]; rw [rSl_tR hfS7]; exact Prod.ext (hds.1 (by omega)) rfl⟩ | exact ⟨_, rfl, hRS7, tR_tW hfS7, by unfold fDowns; rw [if_pos (by omega), hsR]; rw [rSl_tR hfS7]; exact Prod.ext (dns_e hd (by omega)) rfl⟩)
            · refine kw_aload_n hC dX8_downs_42 rfl 0 rfl ?_
              refine kw_iload hC dX8_downs_43 rfl 4 rfl ?_
              refine kw_callV hC (f_X8_ahead hD (by omega) (by omega) hRW29 hrv (by omega) (by omega) hgw) gX8_downs_X8_ahead ⟨_, rfl⟩ rfl (by decide) (by decide) rfl ⟨rfl, rfl⟩ 1 (by decide +kernel) ⟨by decide, by decide⟩ rfl rfl (Nat.le_of_ble_eq_true rfl) dX8_downs_45 rfl (kd_i (fun r10 S10 hp10 => ?_))
              obtain ⟨hg10, hp10⟩ := hp10
              have hfS10 : Fr tR S S10 := hfW29.trans (hg10.mono (fun k i j h => by unfold fT at h; unfold tR; omega))
              have hRS10 := hRS.fr hfS10
              have hnS10 := hRS10.n
              have enS10 : S10 30 0 0 = S 30 0 0 := hfS10 30 0 0 (by unfold tR; omega)
              have hq10 := hp10
              rw [rM_eq (W := W29) (S := S) (hfW29 30 0 0 (by unfold tR; omega)) (fun j => hfW29 42 0 j (by unfold tR; omega)), rn_eq (W := W29) (S := S) (hfW29 30 0 0 (by unfold tR; omega))] at hq10
              rw [hRR] at hq10
              have hk9 := hq10
              have hlr : (RS.length : Int) = W29 30 0 8 := by rw [← hRR]; unfold rR; rw [wl_len]; omega
              have hdp : dnP (rM S) (rn S) b RS s.toNat = ah (rM S) (rn S) RS s.toNat := by unfold dnP; first | rw [if_pos (by omega)] | rw [if_neg (by omega)]
              have e8_10 : S10 30 0 8 = W29 30 0 8 := hg10 30 0 8 (by unfold fT; omega)
              replace hrv : WV (S10 47 0) (S10 30 0 8) (S10 30 0 0) := hrv.eq (fun j _ _ => hg10 47 0 j (by unfold fT; omega)) e8_10 (hg10 30 0 0 (by unfold fT; omega))
              replace hRR : rR S10 = RS := (wl_eq (hg10 30 0 8 (by unfold fT; omega)) (fun j _ _ => hg10 47 0 j (by unfold fT; omega))).trans hRR
              refine kw_goto (tgt := 57) hC dX8_downs_48 rfl (by decide) ?_
              refine kw_istore (lv' := [(5, _), (0, _), (1, _), (2, _), (3, _), (4, _)]) hC dX8_downs_57 rfl (by decide) rfl ?_
              refine kw_aload_n hC dX8_downs_59 rfl 1 rfl ?_
              refine kg_30_16 hC w8 f81 dX8_downs_60 rfl (by decide) (by decide) ?_
              refine kw_if_eq (tgt := 69) hC dX8_downs_63 rfl (by decide) (by omega) ⟨fun c63 => ?_, fun c63 => ?_⟩
              · refine kw_iload_n hC dX8_downs_69 rfl 4 rfl ?_
                refine kw_iload hC dX8_downs_70 rfl 0 rfl ?_
                refine kw_if_lt (tgt := 82) hC dX8_downs_72 rfl (by decide) (by omega) ⟨fun c72 => ?_, fun c72 => ?_⟩
                · refine kw_iconst hC dX8_downs_82 rfl ?_
                  refine kw_iorX hC dX8_downs_83 rfl ?_
                  refine kw_istore_n (lv' := [(3, _), (5, _), (0, _), (1, _), (2, _), (4, _)]) hC dX8_downs_84 rfl (by decide) rfl ?_
                  refine kw_iinc (lv' := [(4, _), (3, _), (5, _), (0, _), (1, _), (2, _)]) hC dX8_downs_85 rfl 5 rfl (by decide) rfl ?_
                  refine kw_goto (tgt := 29) hC dX8_downs_88 rfl (by decide) ?_
                  refine kw_lv [3, 4, 5, 1, 0] rfl ?_
                  exact ih29 (s + 1) _ S10 hfS10 (by omega) (by omega) (by omega) (xi_r _) hRR (by first | exact hds.2.2 (by omega) | (rw [i_or_0 hzr]; exact hds.2.1 (by omega))) hrv (by omega) (by omega) (by omega) (by omega)
                · refine kw_iconst hC dX8_downs_75 rfl ?_
                  refine kw_iload hC dX8_downs_76 rfl 5 rfl ?_
                  refine kw_ishlX hC dX8_downs_78 rfl ?_
                  refine kw_goto (tgt := 83) hC dX8_downs_79 rfl (by decide) ?_
                  refine kw_iorX hC dX8_downs_83 rfl ?_
                  refine kw_istore_n (lv' := [(3, _), (5, _), (0, _), (1, _), (2, _), (4, _)]) hC dX8_downs_84 rfl (by decide) rfl ?_
                  refine kw_iinc (lv' := [(4, _), (3, _), (5, _), (0, _), (1, _), (2, _)]) hC dX8_downs_85 rfl 5 rfl (by decide) rfl ?_
                  refine kw_goto (tgt := 29) hC dX8_downs_88 rfl (by decide) ?_
                  refine kw_lv [3, 4, 5, 1, 0] rfl ?_
                  exact ih29 (s + 1) _ S10 hfS10 (by omega) (by omega) (by omega) (xi_r _) hRR (by first | exact hds.2.2 (by omega) | (rw [i_or_0 hzr]; exact hds.2.1 (by omega))) hrv (by omega) (by omega) (by omega) (by omega)
              · refine kw_bipush hC dX8_downs_66 rfl (by decide) ?_
                exact hR9.1 rfl _ _ _ _ dX8_downs_68 (by first | (exfalso; omega) | exact ⟨_, rfl, hRS10, tR_tW hfS10, by unfold fDowns; rw [if_neg (by omega), rSl_tR hfS10]⟩ | exact ⟨_, rfl, hRS10, tR_tW hfS10, by unfold fDowns; rw [if_pos (by omega), (hsh.resolve_right (fun z => by omega)).2.2, rSl_tR hfS10]⟩ | exact ⟨_, rfl, hRS10, tR_tW hfS10, by unfold fDowns; rw [if_pos (by omega), hsR]; rw [rSl_tR hfS10]; exact Prod.ext (hds.1 (by omega)) rfl⟩ | exact ⟨_, rfl, hRS10, tR_tW hfS10, by unfold fDowns; rw [if_pos (by omega), hsR]; rw [rSl_tR hfS10]; exact Prod.ext (dns_e hd (by omega)) rfl⟩)
      refine kw_lv [2, 3, 4, 1, 0] rfl ?_
      exact hL29 7 0 _ S3 hfS3 (by omega) (by omega) (by omega) (by omega) hRS9.symm rfl hrv (by omega) (by omega) hgw (by omega)
    · refine kw_bipush hC dX8_downs_21 rfl (by decide) ?_
      exact hR9.1 rfl _ _ _ _ dX8_downs_23 (by first | (exfalso; omega) | exact ⟨_, rfl, hRS3, tR_tW hfS3, by unfold fDowns; rw [if_neg (by omega), rSl_tR hfS3]⟩ | exact ⟨_, rfl, hRS3, tR_tW hfS3, by unfold fDowns; rw [if_pos (by omega), (hsh.resolve_right (fun z => by omega)).2.2, rSl_tR hfS3]⟩ | exact ⟨_, rfl, hRS3, tR_tW hfS3, by unfold fDowns; rw [if_pos (by omega), hsR]; rw [rSl_tR hfS3]; exact Prod.ext (hds.1 (by omega)) rfl⟩ | exact ⟨_, rfl, hRS3, tR_tW hfS3, by unfold fDowns; rw [if_pos (by omega), hsR]; rw [rSl_tR hfS3]; exact Prod.ext (dns_e hd (by omega)) rfl⟩)
  · refine kw_iconst hC dX8_downs_7 rfl ?_
    exact hR9.1 rfl _ _ _ _ dX8_downs_8 (by first | (exfalso; omega) | exact ⟨_, rfl, hRS, tR_tW hfS, by unfold fDowns; rw [if_neg (by omega), rSl_tR hfS]⟩ | exact ⟨_, rfl, hRS, tR_tW hfS, by unfold fDowns; rw [if_pos (by omega), (hsh.resolve_right (fun z => by omega)).2.2, rSl_tR hfS]⟩ | exact ⟨_, rfl, hRS, tR_tW hfS, by unfold fDowns; rw [if_pos (by omega), hsR]; rw [rSl_tR hfS]; exact Prod.ext (hds.1 (by omega)) rfl⟩ | exact ⟨_, rfl, hRS, tR_tW hfS, by unfold fDowns; rw [if_pos (by omega), hsR]; rw [rSl_tR hfS]; exact Prod.ext (dns_e hd (by omega)) rfl⟩)

set_option maxHeartbeats 4000000 in
set_option maxRecDepth 100000 in
theorem f_X8_doneBy {g : wG} (hD : wD g) {S : wSt} (hRS : RI S) (hwv : WV (S 53 0) (S 30 0 14) (S 30 0 0)) (w0 : 0 ≤ S 30 0 14) (w1 : S 30 0 14 ≤ 200) (hgw : S 30 0 16 = 0) (hb : bdd (S 30 0 0) (S 55 0)) (l : Launch) : Kt l yX8_doneBy wsX8_doneBy ({ frames := 2, cells := 0, slots := 0, locals := 49 } : Room) g S [vr g 30 0] (pI (fun r S' => Fr fT S S' ∧ ((∀ j, S 30 0 0 ≤ j → S' 55 0 j = S 55 0 j) ∧ ((r = 0 ∧ S' 30 0 16 = 1 ∧ tbd (rM S) (rn S) (rW S) (rW S).length (vC (rn S) (S 55 0)) = none) ∨ (r = 1 ∧ S' 30 0 16 = 0 ∧ tbd (rM S) (rn S) (rW S) (rW S).length (vC (rn S) (S 55 0)) = some (vC (rn S) (S' 55 0)) ∧ bdd (S 30 0 0) (S' 55 0)))))) := by
  refine Kt.of (cc := cX8_doneBy) (nL := 2) (ret := (some .boolean)) (own := RX8) rfl hD (by decide) rfl (Nat.le_of_ble_eq_true rfl) ⟨rfl, rfl⟩ ?_
  intro E hC hR9
  have f57 : Cond.fieldLink RX8 57 "MirrorBenchModel" "wMany" "I" ∈ wsX8_doneBy := by decide +kernel
  have f60 : Cond.fieldLink RX8 60 "MirrorBenchModel" "w" "[I" ∈ wsX8_doneBy := by decide +kernel
  have f81 : Cond.fieldLink RX8 81 "MirrorBenchModel" "isGreat" "Z" ∈ wsX8_doneBy := by decide +kernel
  have w8 : ∀ w ∈ wsX80, w ∈ wsX8_doneBy := by decide +kernel
  show Wk E g 2 S 0 [(0, vr g 30 0)] []
  have hfS : Fr fT S S := Fr.rfl _ S
  have hRS := hRS.fr (hfS.mono (fun k i j h => by unfold fT at h; unfold tR; omega))
  have hnS := hRS.n
  have enS : S 30 0 0 = S 30 0 0 := hfS 30 0 0 (by unfold fT; omega)
  refine kw_aload_n hC dX8_doneBy_0 rfl 0 rfl ?_
  refine kg_30_14 hC w8 f57 dX8_doneBy_1 rfl (by decide) (by decide) ?_
  refine kw_iconst hC dX8_doneBy_4 rfl ?_
  refine kw_isub hC dX8_doneBy_5 rfl ?_
  refine kw_istore_n (lv' := [(1, _), (0, _)]) hC dX8_doneBy_6 rfl (by decide) rfl ?_
  have hL7 : ∀ (n7 : Nat) (x : Int) (W7 : wSt), Fr fT S W7 → (-1 ≤ x) → (x < S 30 0 14) → (W7 30 0 16 = 0) → (∀ j, S 30 0 0 ≤ j → W7 55 0 j = S 55 0 j) → (TbT (S 42 0) (S 53 0) (S 30 0 14) (S 30 0 0) (W7 55 0) (tbd (rM S) (rn S) (rW S) (rW S).length (vC (rn S) (S 55 0))) x) → x + 1 < (n7 : Int) → Wk E g 2 W7 7 [(0, vr g 30 0), (1, vi x)] [] := by
    intro n7
    induction n7 with
    | zero => intro x W7 hfW7 hx0 hx1 hgw hz hB hm7; exact absurd hm7 (by omega)
    | succ n7 ih7 =>
      intro x W7 hfW7 hx0 hx1 hgw hz hB hm7
      have hRW7 := hRS.fr (hfW7.mono (fun k i j h => by unfold fT at h; unfold tR; omega))
      have hnW7 := hRW7.n
      have enW7 : W7 30 0 0 = S 30 0 0 := hfW7 30 0 0 (by unfold fT; omega)
      have e53 : ∀ j, W7 53 0 j = S 53 0 j := fun j => hfW7 53 0 j (by unfold fT; omega)
      refine kw_iload_n hC dX8_doneBy_7 rfl 1 rfl ?_
      refine kw_if_lt (tgt := 36) hC dX8_doneBy_8 rfl (by decide) (by omega) ⟨fun c8 => ?_, fun c8 => ?_⟩
      · refine kw_iconst hC dX8_doneBy_36 rfl ?_
        exact hR9.2.1 rfl _ _ _ _ dX8_doneBy_37 (by omega) ⟨_, rfl, hfW7, hz, Or.inr ⟨rfl, hgw, hB.end' (by omega)⟩⟩
      · refine kw_aload_n hC dX8_doneBy_11 rfl 0 rfl ?_
        refine kw_aload_n hC dX8_doneBy_12 rfl 0 rfl ?_
        refine kg_30_13 hC w8 f60 dX8_doneBy_13 rfl (by decide) (by decide) ?_
        refine kw_iload_n hC dX8_doneBy_16 rfl 1 rfl ?_
        refine ka_53 hC dX8_doneBy_17 rfl (by decide) (by decide) (by omega) (by omega) ?_
        refine kw_chi (z' := S 53 0 x) (e53 x) ?_
        have hl := hwv x (by omega) (by omega)
        refine kw_callV hC (d_X8_turn hD (by omega) (by omega) hRW7) gX8_doneBy_X8_turn ⟨_, rfl⟩ rfl (by decide) (by decide) rfl ⟨rfl, rfl⟩ 1 (by decide +kernel) ⟨by decide, by decide⟩ rfl rfl (Nat.le_of_ble_eq_true rfl) dX8_doneBy_18 rfl (kd_v (fun S2 hp2 => ?_))
        obtain ⟨hg2, hp2⟩ := hp2
        have hfS2 : Fr fT S S2 := hfW7.trans hg2
        have hRS2 := hRS.fr (hfS2.mono (fun k i j h => by unfold fT at h; unfold tR; omega))
        have hnS2 := hRS2.n
        have enS2 : S2 30 0 0 = S 30 0 0 := hfS2 30 0 0 (by unfold fT; omega)
        obtain ⟨hv9, ho9, hgw2, hb9⟩ := hp2
        have hB2 := hB.goR hRS hwv (by omega) (by omega) enW7 (fun j => hfW7 42 0 j (by unfold fT; omega)) hgw hv9 ho9 hb9
        refine kw_aload_n hC dX8_doneBy_21 rfl 0 rfl ?_
        refine kg_30_16 hC w8 f81 dX8_doneBy_22 rfl (by decide) (by decide) ?_
        refine kw_if_eq (tgt := 30) hC dX8_doneBy_25 rfl (by decide) (by omega) ⟨fun c25 => ?_, fun c25 => ?_⟩
        · replace hB2 := hB2.resolve_left (fun q => by omega)
          refine kw_iinc (lv' := [(1, _), (0, _)]) hC dX8_doneBy_30 rfl 1 rfl (by decide) rfl ?_
          refine kw_goto (tgt := 7) hC dX8_doneBy_33 rfl (by decide) ?_
          refine kw_lv [1, 0] rfl ?_
          exact ih7 (x + -1) S2 hfS2 (by omega) (by omega) hB2.1 (fun j j0 => by rw [ho9 j (by omega)]; exact hz j j0) (by rw [show x + -1 = x - 1 by omega]; exact hB2.2) (by omega)
        · refine kw_iconst hC dX8_doneBy_28 rfl ?_
          exact hR9.2.1 rfl _ _ _ _ dX8_doneBy_29 (by omega) ⟨_, rfl, hfS2, (fun j j0 => by rw [ho9 j (by omega)]; exact hz j j0), Or.inl (by rcases hB2 with q | q; exact ⟨rfl, q.1, q.2⟩; exact absurd q.1 (by omega))⟩
  refine kw_lv [1, 0] rfl ?_
  exact hL7 201 (S 30 0 14 - 1) S hfS (by omega) (by omega) hgw (fun _ _ => rfl) (by have h9 := TbT.st (mt := S 42 0) (f := S 53 0) (m := S 30 0 14) hb w0; unfold rW; rw [wl_len]; exact h9) (by omega)

set_option maxHeartbeats 4000000 in
set_option maxRecDepth 100000 in
theorem f_X8_does {g : wG} (hD : wD g) {S : wSt} {a b c : Int} (ha : -2147483648 ≤ a ∧ a ≤ 2147483647) (hb : -2147483648 ≤ b ∧ b ≤ 2147483647) (hc : -2147483648 ≤ c ∧ c ≤ 2147483647) (hRS : RI S) (l : Launch) : Kt l yX8_does wsX8_does ({ frames := 3, cells := 0, slots := 0, locals := 70 } : Room) g S [vr g 30 0, vi a, vi b, vi c] (pL (fun r S' => RI S' ∧ Fr tW S S' ∧ (fDoes (rM S) (rn S) a b c (rSl S), rSl S) = (r, rSl S'))) := by
  refine Kt.of (cc := cX8_does) (nL := 4) (ret := (some .long)) (own := RX8) rfl hD (by decide) rfl (Nat.le_of_ble_eq_true rfl) ⟨rfl, rfl⟩ ?_
  intro E hC hR9
  have f77 : Cond.fieldLink RX8 77 "MirrorBenchModel" "root" "[J" ∈ wsX8_does := by decide +kernel
  have f81 : Cond.fieldLink RX8 81 "MirrorBenchModel" "isGreat" "Z" ∈ wsX8_does := by decide +kernel
  have l141 : Cond.constantLong RX8 141 (Int64.ofInt (-10000000000001)) ∈ wsX8_does := by decide +kernel
  have l146 : Cond.constantLong RX8 146 (Int64.ofInt (-10000000000004)) ∈ wsX8_does := by decide +kernel
  have w8 : ∀ w ∈ wsX80, w ∈ wsX8_does := by decide +kernel
  show Wk E g 4 S 0 [(0, vr g 30 0), (1, vi a), (2, vi b), (3, vi c)] []
  have hfS : Fr tR S S := Fr.rfl _ S
  have hRS := hRS.fr hfS
  have hnS := hRS.n
  have enS : S 30 0 0 = S 30 0 0 := hfS 30 0 0 (by unfold tR; omega)
  have hnS := hRS.n
  have hnn : (rn S : Int) = S 30 0 0 := by unfold rn; omega
  refine kw_iload_n hC dX8_does_0 rfl 1 rfl ?_
  refine kw_callS hC (d_X8_isSlot hD (by omega)) gX8_does_X8_isSlot rfl ⟨rfl, rfl⟩ 1 (by decide +kernel) ⟨by decide, by decide⟩ rfl rfl (Nat.le_of_ble_eq_true rfl) dX8_does_1 rfl (kd_ie ?_)
  refine kw_ifeq_b (tgt := 25) hC dX8_does_4 rfl (by decide) ⟨fun c4 => ?_, fun c4 => ?_⟩
  · refine kw_ldc2 (z := -10000000000001) hC dX8_does_25 rfl l141 ?_
    exact hR9.2.2.1 rfl _ _ _ _ dX8_does_28 (by first | (exfalso; omega) | exact ⟨_, rfl, hRS, tR_tW hfS, by unfold fDoes; rw [if_neg (by omega), rSl_tR hfS]⟩ | exact ⟨_, rfl, hRS, tR_tW hfS, by unfold fDoes; rw [if_pos (by omega), (hq9.resolve_right (fun z => by omega)).2.2, rSl_tR hfS]⟩ | exact ⟨_, rfl, hRS, tR_tW hfS, by unfold fDoes; rw [if_pos (by omega), (hq9.resolve_left (fun z => by omega)).2.2.1, rSl_tR hfS]; exact Prod.ext (by show vC (rn S) _ c.toNat = _; unfold vC; rw [if_pos (by omega), Int.toNat_of_nonneg (by omega)]) rfl⟩)
  · refine kw_aload_n hC dX8_does_7 rfl 0 rfl ?_
    refine kw_iload_n hC dX8_does_8 rfl 2 rfl ?_
    refine kw_i2l hC dX8_does_9 rfl (by omega) ?_
    refine kw_callV hC (d_X8_isMirror hD (by omega) (by omega) (by omega)) gX8_does_X8_isMirror ⟨_, rfl⟩ rfl (by decide) (by decide) rfl ⟨rfl, rfl⟩ 1 (by decide +kernel) ⟨by decide, by decide⟩ rfl rfl (Nat.le_of_ble_eq_true rfl) dX8_does_10 rfl (kd_ie ?_)
    refine kw_ifeq_b (tgt := 25) hC dX8_does_13 rfl (by decide) ⟨fun c13 => ?_, fun c13 => ?_⟩
    · refine kw_ldc2 (z := -10000000000001) hC dX8_does_25 rfl l141 ?_
      exact hR9.2.2.1 rfl _ _ _ _ dX8_does_28 (by first | (exfalso; omega) | exact ⟨_, rfl, hRS, tR_tW hfS, by unfold fDoes; rw [if_neg (by omega), rSl_tR hfS]⟩ | exact ⟨_, rfl, hRS, tR_tW hfS, by unfold fDoes; rw [if_pos (by omega), (hq9.resolve_right (fun z => by omega)).2.2, rSl_tR hfS]⟩ | exact ⟨_, rfl, hRS, tR_tW hfS, by unfold fDoes; rw [if_pos (by omega), (hq9.resolve_left (fun z => by omega)).2.2.1, rSl_tR hfS]; exact Prod.ext (by show vC (rn S) _ c.toNat = _; unfold vC; rw [if_pos (by omega), Int.toNat_of_nonneg (by omega)]) rfl⟩)
    · refine kw_aload_n hC dX8_does_16 rfl 0 rfl ?_
      refine kw_iload_n hC dX8_does_17 rfl 3 rfl ?_
      refine kw_i2l hC dX8_does_18 rfl (by omega) ?_
      refine kw_callV hC (d_X8_isMirror hD (by omega) (by omega) (by omega)) gX8_does_X8_isMirror ⟨_, rfl⟩ rfl (by decide) (by decide) rfl ⟨rfl, rfl⟩ 1 (by decide +kernel) ⟨by decide, by decide⟩ rfl rfl (Nat.le_of_ble_eq_true rfl) dX8_does_19 rfl (kd_ie ?_)
      refine kw_ifne_b (tgt := 29) hC dX8_does_22 rfl (by decide) ⟨fun c22 => ?_, fun c22 => ?_⟩
      · refine kw_aload_n hC dX8_does_29 rfl 0 rfl ?_
        refine kw_iload_n hC dX8_does_30 rfl 1 rfl ?_
        refine kw_callV hC (d_X8_load hD (by omega) (by omega) hRS) gX8_does_X8_load ⟨_, rfl⟩ rfl (by decide) (by decide) rfl ⟨rfl, rfl⟩ 1 (by decide +kernel) ⟨by decide, by decide⟩ rfl rfl (Nat.le_of_ble_eq_true rfl) dX8_does_31 rfl (kd_v (fun S4 hp4 => ?_))
        obtain ⟨hg4, hp4⟩ := hp4
        have hfS4 : Fr tR S S4 := hfS.trans (hg4.mono (fun k i j h => by unfold fL at h; unfold tR; omega))
        have hRS4 := hRS.fr hfS4
        have hnS4 := hRS4.n
        have enS4 : S4 30 0 0 = S 30 0 0 := hfS4 30 0 0 (by unfold tR; omega)
        obtain ⟨q14, qW⟩ := hp4
        have hwv : WV (S4 53 0) (S4 30 0 14) (S4 30 0 0) := ldWV hRS (by omega) (by omega) q14 qW (by omega)
        have hl4 := hRS.ln a (by omega) (by omega)
        have eWa : rW S4 = rSl S a := (ld_rW (by omega) (by omega) q14 qW).trans (by rw [rSl_tR hfS])
        refine kw_aload_n hC dX8_does_34 rfl 0 rfl ?_
        refine kw_iconst hC dX8_does_35 rfl ?_
        refine kp_30_16 hC w8 f81 dX8_does_36 rfl (by decide) (by decide) (by omega) ?_
        refine kw_hv hfS4 (by unfold tR; omega) (fun S5 hfS5 hv5 ho5 => ?_)
        have hRS5 := hRS.fr hfS5
        have hnS5 := hRS5.n
        have enS5 : S5 30 0 0 = S 30 0 0 := hfS5 30 0 0 (by unfold tR; omega)
        have e14_5 : S5 30 0 14 = S4 30 0 14 := ho5 30 0 14 (by omega)
        replace hwv : WV (S5 53 0) (S5 30 0 14) (S5 30 0 0) := hwv.eq (fun j _ _ => ho5 53 0 j (by omega)) e14_5 (ho5 30 0 0 (by omega))
        have hgw : S5 30 0 16 = 0 := hv5
        have eW9 : rW S5 = rSl S a := (wl_eq (ho5 30 0 14 (by omega)) (fun j _ _ => ho5 53 0 j (by omega))).trans eWa
        refine kw_aload_n hC dX8_does_39 rfl 0 rfl ?_
        refine kw_iload_n hC dX8_does_40 rfl 2 rfl ?_
        refine kw_callV hC (d_X8_own hD (by omega)) gX8_does_X8_own ⟨_, rfl⟩ rfl (by decide) (by decide) rfl ⟨rfl, rfl⟩ 1 (by decide +kernel) ⟨by decide, by decide⟩ rfl rfl (Nat.le_of_ble_eq_true rfl) dX8_does_41 rfl (kd_v (fun S6 hp6 => ?_))
        obtain ⟨hg6, hp6⟩ := hp6
        have hfS6 : Fr tR S S6 := hfS5.trans (hg6.mono (fun k i j h => by unfold fO at h; unfold tR; omega))
        have hRS6 := hRS.fr hfS6
        have hnS6 := hRS6.n
        have enS6 : S6 30 0 0 = S 30 0 0 := hfS6 30 0 0 (by unfold tR; omega)
        have e14_6 : S6 30 0 14 = S5 30 0 14 := hg6 30 0 14 (by unfold fO; omega)
        replace hwv : WV (S6 53 0) (S6 30 0 14) (S6 30 0 0) := hwv.eq (fun j _ _ => hg6 53 0 j (by unfold fO; omega)) e14_6 (hg6 30 0 0 (by unfold fO; omega))
        have e166 : S6 30 0 16 = S5 30 0 16 := hg6 30 0 16 (by unfold fO; omega)
        have hgw : S6 30 0 16 = 0 := by omega
        have eW8 : rW S6 = rSl S a := (wl_eq (hg6 30 0 14 (by unfold fO; omega)) (fun j _ _ => hg6 53 0 j (by unfold fO; omega))).trans eW9
        obtain ⟨hvo, hbd⟩ := vC_own hnS (by omega) (by omega) (fun j j0 j1 => hp6 j j0 (by omega))
        rw [← enS6] at hbd
        refine kw_aload_n hC dX8_does_44 rfl 0 rfl ?_
        refine kw_callV hC (f_X8_doneBy hD hRS6 hwv (by omega) (by omega) (by omega) hbd) gX8_does_X8_doneBy ⟨_, rfl⟩ rfl (by decide) (by decide) rfl ⟨rfl, rfl⟩ 0 (by decide +kernel) ⟨by decide, by decide⟩ rfl rfl (Nat.le_of_ble_eq_true rfl) dX8_does_45 rfl (kd_i (fun r7 S7 hp7 => ?_))
        obtain ⟨hg7, hp7⟩ := hp7
        have hfS7 : Fr tR S S7 := hfS6.trans (hg7.mono (fun k i j h => by unfold fT at h; unfold tR; omega))
        have hRS7 := hRS.fr hfS7
        have hnS7 := hRS7.n
        have enS7 : S7 30 0 0 = S 30 0 0 := hfS7 30 0 0 (by unfold tR; omega)
        obtain ⟨hz7, hq7⟩ := hp7
        rw [rM_eq (W := S6) (S := S) (hfS6 30 0 0 (by unfold tR; omega)) (fun j => hfS6 42 0 j (by unfold tR; omega)), rn_eq (W := S6) (S := S) (hfS6 30 0 0 (by unfold tR; omega))] at hq7
        rw [eW8, show vC (rn S) (S6 55 0) = ownV b.toNat from hvo] at hq7
        have hq9 := hq7
        refine kw_if_eq (tgt := 60) hC dX8_does_48 rfl (by decide) (by omega) ⟨fun c48 => ?_, fun c48 => ?_⟩
        · refine kw_ldc2 (z := -10000000000004) hC dX8_does_60 rfl l146 ?_
          exact hR9.2.2.1 rfl _ _ _ _ dX8_does_63 (by first | (exfalso; omega) | exact ⟨_, rfl, hRS7, tR_tW hfS7, by unfold fDoes; rw [if_neg (by omega), rSl_tR hfS7]⟩ | exact ⟨_, rfl, hRS7, tR_tW hfS7, by unfold fDoes; rw [if_pos (by omega), (hq9.resolve_right (fun z => by omega)).2.2, rSl_tR hfS7]⟩ | exact ⟨_, rfl, hRS7, tR_tW hfS7, by unfold fDoes; rw [if_pos (by omega), (hq9.resolve_left (fun z => by omega)).2.2.1, rSl_tR hfS7]; exact Prod.ext (by show vC (rn S) _ c.toNat = _; unfold vC; rw [if_pos (by omega), Int.toNat_of_nonneg (by omega)]) rfl⟩)
        · refine kw_aload_n hC dX8_does_51 rfl 0 rfl ?_
          refine kg_30_15 hC w8 f77 dX8_does_52 rfl (by decide) (by decide) ?_
          refine kw_iload_n hC dX8_does_55 rfl 3 rfl ?_
          refine ka_55 hC dX8_does_56 rfl (by decide) (by decide) (by omega) (by omega) ?_
          refine kw_goto (tgt := 63) hC dX8_does_57 rfl (by decide) ?_
          exact hR9.2.2.1 rfl _ _ _ _ dX8_does_63 (by first | (exfalso; omega) | exact ⟨_, rfl, hRS7, tR_tW hfS7, by unfold fDoes; rw [if_neg (by omega), rSl_tR hfS7]⟩ | exact ⟨_, rfl, hRS7, tR_tW hfS7, by unfold fDoes; rw [if_pos (by omega), (hq9.resolve_right (fun z => by omega)).2.2, rSl_tR hfS7]⟩ | exact ⟨_, rfl, hRS7, tR_tW hfS7, by unfold fDoes; rw [if_pos (by omega), (hq9.resolve_left (fun z => by omega)).2.2.1, rSl_tR hfS7]; exact Prod.ext (by show vC (rn S) _ c.toNat = _; unfold vC; rw [if_pos (by omega), Int.toNat_of_nonneg (by omega)]) rfl⟩)
      · refine kw_ldc2 (z := -10000000000001) hC dX8_does_25 rfl l141 ?_
        exact hR9.2.2.1 rfl _ _ _ _ dX8_does_28 (by first | (exfalso; omega) | exact ⟨_, rfl, hRS, tR_tW hfS, by unfold fDoes; rw [if_neg (by omega), rSl_tR hfS]⟩ | exact ⟨_, rfl, hRS, tR_tW hfS, by unfold fDoes; rw [if_pos (by omega), (hq9.resolve_right (fun z => by omega)).2.2, rSl_tR hfS]⟩ | exact ⟨_, rfl, hRS, tR_tW hfS, by unfold fDoes; rw [if_pos (by omega), (hq9.resolve_left (fun z => by omega)).2.2.1, rSl_tR hfS]; exact Prod.ext (by show vC (rn S) _ c.toNat = _; unfold vC; rw [if_pos (by omega), Int.toNat_of_nonneg (by omega)]) rfl⟩)
end
