section
/-! the images of the mirrors' own roots -/
def imG (n : Nat) (rows : Nat → Int → Int) : Nat → Nat → Int := fun k => if k < n then vC n (rows k) else ownV k
theorem imG_own {n : Nat} {rows : Nat → Int → Int} (h : ∀ k : Nat, k < n → ∀ j : Nat, j < n → rows k (j : Int) = if j = k then 1 else 0) : imG n rows = ownV := by
  funext k j
  unfold imG
  by_cases e : k < n
  · rw [if_pos e]
    unfold vC ownV
    by_cases e2 : j < n
    · rw [if_pos e2, h k e j e2]
    · rw [if_neg e2, if_neg (by omega)]
  · rw [if_neg e]
theorem imG_at {n : Nat} {rows : Nat → Int → Int} {k : Nat} (hk : k < n) : imG n rows k = vC n (rows k) := if_pos hk
theorem imG_eq {n : Nat} {rows rows' : Nat → Int → Int} (h : ∀ k : Nat, k < n → ∀ j : Nat, j < n → rows' k (j : Int) = rows k (j : Int)) : imG n rows' = imG n rows := by
  funext k j
  unfold imG
  by_cases e : k < n
  · rw [if_pos e, if_pos e]
    unfold vC
    by_cases e2 : j < n
    · rw [if_pos e2, if_pos e2, h k e j e2]
    · rw [if_neg e2, if_neg e2]
  · rw [if_neg e, if_neg e]
theorem imG_upd {n i : Nat} {rows rows' : Nat → Int → Int} {v : Nat → Int} (hi : i < n) (h : ∀ k : Nat, k < n → k ≠ i → ∀ j : Nat, j < n → rows' k (j : Int) = rows k (j : Int)) (hv : vC n (rows' i) = v) : imG n rows' = fun k => if k = i then v else imG n rows k := by
  funext k
  by_cases e : k = i
  · subst e
    rw [if_pos rfl, imG_at hi, hv]
  · rw [if_neg e]
    unfold imG
    by_cases e2 : k < n
    · rw [if_pos e2, if_pos e2]
      funext j
      unfold vC
      by_cases e3 : j < n
      · rw [if_pos e3, if_pos e3, h k e2 e j e3]
      · rw [if_neg e3, if_neg e3]
    · rw [if_neg e2, if_neg e2]
section OI
variable {M : Nat → Nat → Int} {n : Nat} {W : List Nat} {V V' : Nat → Nat → Int}
theorem ordI_s {i : Nat} {v : Nat → Int} (h : ordI M n W V i = some V') (ht : tbd M n W W.length (V i) = some v) : ordI M n W V (i + 1) = some (fun k => if k = i then v else V' k) := by
  rw [ordI, h, ht]
  rfl
theorem ordI_n {i : Nat} (h : ordI M n W V i = some V') (ht : tbd M n W W.length (V i) = none) : ordI M n W V (i + 1) = none := by
  rw [ordI, h, ht]
  rfl
theorem ordI_none {i m : Nat} (h : ordI M n W V i = none) (hm : i ≤ m) : ordI M n W V m = none := by
  induction m with
  | zero => rw [show i = 0 by omega] at h; exact h
  | succ m ih =>
    by_cases e : i = m + 1
    · rw [← e]; exact h
    · rw [ordI, ih (by omega)]
      rfl
theorem ordI_ge : ∀ {i : Nat} {V' : Nat → Nat → Int}, ordI M n W V i = some V' → ∀ k, i ≤ k → V' k = V k
  | 0, V', h, k, _ => by
    rw [ordI] at h
    cases h
    rfl
  | i + 1, V', h, k, hk => by
    rw [ordI] at h
    obtain ⟨V1, h1, h2⟩ := Option.bind_eq_some_iff.mp h
    obtain ⟨v, h3, h4⟩ := Option.map_eq_some_iff.mp h2
    rw [← h4]
    show (if k = i then v else V1 k) = V k
    rw [if_neg (by omega)]
    exact ordI_ge h1 k (by omega)
theorem ordP_s {m T : Int} (h : ordP M n W (31 - m).toNat V = T) (m0 : 1 ≤ m) (m1 : m ≤ 30) : (ordI M n W V n = none → T = -4) ∧ ∀ V', ordI M n W V n = some V' → ((∀ k, k < n → ∀ j, j < n → V' k j = ownV k j) → T = m) ∧ ((¬ ∀ k, k < n → ∀ j, j < n → V' k j = ownV k j) → ordP M n W (31 - (m + 1)).toNat V' = T) := by
  rw [show (31 - m).toNat = (31 - (m + 1)).toNat + 1 by omega, ordP] at h
  refine ⟨fun q => ?_, fun V' q => ⟨fun q2 => ?_, fun q2 => ?_⟩⟩
  · rw [q] at h
    exact h.symm
  · rw [q] at h
    simp only [] at h
    rw [if_pos q2] at h
    omega
  · rw [q] at h
    simp only [] at h
    rw [if_neg q2] at h
    exact h
theorem ordP_e {m T : Int} (h : ordP M n W (31 - m).toNat V = T) (m1 : 31 ≤ m) : T = -2 := by
  rw [show (31 - m).toNat = 0 by omega, ordP] at h
  exact h.symm
end OI
theorem z_st {P P' : Nat → Prop} {i : Nat} {z : Int} (h : z = 1 ↔ ∀ k, k < i → P k) (hs : ∀ k, k < i → (P k ↔ P' k)) : (z = 1 ∧ P' i) ↔ ∀ k, k < i + 1 → P' k := by
  constructor
  · rintro ⟨a, b⟩ k hk
    by_cases e : k = i
    · subst e; exact b
    · exact (hs k (by omega)).mp (h.mp a k (by omega))
  · intro q
    exact ⟨h.mpr (fun k hk => (hs k hk).mpr (q k (by omega))), q i (by omega)⟩
/-- the reference's images -/
def rIm (S W : wSt) : Nat → Nat → Int := imG (rn S) (fun k j => W 57 0 (6 * (k : Int) + j))
end
section
set_option maxHeartbeats 4000000 in
set_option maxRecDepth 100000 in
theorem f_X8_order {g : wG} (hD : wD g) {S : wSt} {a : Int} (ha : -2147483648 ≤ a ∧ a ≤ 2147483647) (hRS : RI S) (l : Launch) : Kt l yX8_order wsX8_order ({ frames := 3, cells := 0, slots := 0, locals := 70 } : Room) g S [vr g 30 0, vi a] (pI (fun r S' => RI S' ∧ Fr tW S S' ∧ (fOrder (rM S) (rn S) a (rSl S), rSl S) = (r, rSl S'))) := by
  refine Kt.of (cc := cX8_order) (nL := 6) (ret := (some .int)) (own := RX8) rfl hD (by decide) rfl (Nat.le_of_ble_eq_true rfl) ⟨rfl, rfl⟩ ?_
  intro E hC hR9
  have f11 : Cond.fieldLink RX8 11 "MirrorBenchModel" "mirrors" "I" ∈ wsX8_order := by decide +kernel
  have f77 : Cond.fieldLink RX8 77 "MirrorBenchModel" "root" "[J" ∈ wsX8_order := by decide +kernel
  have f81 : Cond.fieldLink RX8 81 "MirrorBenchModel" "isGreat" "Z" ∈ wsX8_order := by decide +kernel
  have f148 : Cond.fieldLink RX8 148 "MirrorBenchModel" "images" "[J" ∈ wsX8_order := by decide +kernel
  have w8 : ∀ w ∈ wsX80, w ∈ wsX8_order := by decide +kernel
  show Wk E g 6 S 0 [(0, vr g 30 0), (1, vi a)] []
  have hfS : Fr tR S S := Fr.rfl _ S
  have hRS := hRS.fr hfS
  have hnS := hRS.n
  have enS : S 30 0 0 = S 30 0 0 := hfS 30 0 0 (by unfold tR; omega)
  have hnS := hRS.n
  have hnn : (rn S : Int) = S 30 0 0 := by unfold rn; omega
  refine kw_iload_n hC dX8_order_0 rfl 1 rfl ?_
  refine kw_callS hC (d_X8_isSlot hD (by omega)) gX8_order_X8_isSlot rfl ⟨rfl, rfl⟩ 1 (by decide +kernel) ⟨by decide, by decide⟩ rfl rfl (Nat.le_of_ble_eq_true rfl) dX8_order_1 rfl (kd_ie ?_)
  refine kw_ifne_b (tgt := 9) hC dX8_order_4 rfl (by decide) ⟨fun c4 => ?_, fun c4 => ?_⟩
  · refine kw_aload_n hC dX8_order_9 rfl 0 rfl ?_
    refine kw_iload_n hC dX8_order_10 rfl 1 rfl ?_
    refine kw_callV hC (d_X8_load hD (by omega) (by omega) hRS) gX8_order_X8_load ⟨_, rfl⟩ rfl (by decide) (by decide) rfl ⟨rfl, rfl⟩ 1 (by decide +kernel) ⟨by decide, by decide⟩ rfl rfl (Nat.le_of_ble_eq_true rfl) dX8_order_11 rfl (kd_v (fun S2 hp2 => ?_))
    obtain ⟨hg2, hp2⟩ := hp2
    have hfS2 : Fr tR S S2 := hfS.trans (hg2.mono (fun k i j h => by unfold fL at h; unfold tR; omega))
    have hRS2 := hRS.fr hfS2
    have hnS2 := hRS2.n
    have enS2 : S2 30 0 0 = S 30 0 0 := hfS2 30 0 0 (by unfold tR; omega)
    obtain ⟨q14, qW⟩ := hp2
    have hwv : WV (S2 53 0) (S2 30 0 14) (S2 30 0 0) := ldWV hRS (by omega) (by omega) q14 qW (by omega)
    have hl2 := hRS.ln a (by omega) (by omega)
    have eWa : rW S2 = rSl S a := (ld_rW (by omega) (by omega) q14 qW).trans (by rw [rSl_tR hfS])
    refine kw_aload_n hC dX8_order_14 rfl 0 rfl ?_
    refine kw_iconst hC dX8_order_15 rfl ?_
    refine kp_30_16 hC w8 f81 dX8_order_16 rfl (by decide) (by decide) (by omega) ?_
    refine kw_hv hfS2 (by unfold tR; omega) (fun S3 hfS3 hv3 ho3 => ?_)
    have hRS3 := hRS.fr hfS3
    have hnS3 := hRS3.n
    have enS3 : S3 30 0 0 = S 30 0 0 := hfS3 30 0 0 (by unfold tR; omega)
    have e14_3 : S3 30 0 14 = S2 30 0 14 := ho3 30 0 14 (by omega)
    replace hwv : WV (S3 53 0) (S3 30 0 14) (S3 30 0 0) := hwv.eq (fun j _ _ => ho3 53 0 j (by omega)) e14_3 (ho3 30 0 0 (by omega))
    have hgw : S3 30 0 16 = 0 := hv3
    have eW : rW S3 = rSl S a := (wl_eq (ho3 30 0 14 (by omega)) (fun j _ _ => ho3 53 0 j (by omega))).trans eWa
    refine kw_iconst hC dX8_order_19 rfl ?_
    refine kw_istore_n (lv' := [(2, _), (0, _), (1, _)]) hC dX8_order_20 rfl (by decide) rfl ?_
    have hL21 : ∀ (n21 : Nat) (i : Int) (W21 : wSt), Fr tR S W21 → (0 ≤ i) → (i ≤ W21 30 0 0) → (i ≤ 6) → (∀ k j, 0 ≤ k → k < i → 0 ≤ j → j < 6 → W21 57 0 (6 * k + j) = if j = k then 1 else 0) → (WV (W21 53 0) (W21 30 0 14) (W21 30 0 0)) → (0 ≤ W21 30 0 14) → (W21 30 0 14 ≤ 100) → (W21 30 0 16 = 0) → (rW W21 = rSl S a) → 6 - i < (n21 : Int) → Wk E g 6 W21 21 [(0, vr g 30 0), (1, vi a), (2, vi i)] [] := by
      intro n21
      induction n21 with
      | zero => intro i W21 hfW21 i0 i1 i6 h57 hwv w0 w1 hgw eW hm21; exact absurd hm21 (by omega)
      | succ n21 ih21 =>
        intro i W21 hfW21 i0 i1 i6 h57 hwv w0 w1 hgw eW hm21
        have hRW21 := hRS.fr hfW21
        have hnW21 := hRW21.n
        have enW21 : W21 30 0 0 = S 30 0 0 := hfW21 30 0 0 (by unfold tR; omega)
        refine kw_iload_n hC dX8_order_21 rfl 2 rfl ?_
        refine kw_aload_n hC dX8_order_22 rfl 0 rfl ?_
        refine kg_30_0 hC w8 f11 dX8_order_23 rfl (by decide) (by decide) ?_
        refine kw_icmp_ge (tgt := 70) hC dX8_order_26 rfl (by decide) (by omega) (by omega) ⟨fun c26 => ?_, fun c26 => ?_⟩
        · refine kw_iconst hC dX8_order_70 rfl ?_
          refine kw_istore_n (lv' := [(2, _), (0, _), (1, _)]) hC dX8_order_71 rfl (by decide) rfl ?_
          have hL72 : ∀ (n72 : Nat) (n : Int) (W72 : wSt), Fr tR S W72 → (1 ≤ n) → (n ≤ 31) → (ordP (rM S) (rn S) (rSl S a) (31 - n).toNat (rIm S W72) = ordP (rM S) (rn S) (rSl S a) 30 ownV) → (∀ k j, 0 ≤ k → k < S 30 0 0 → 0 ≤ j → j < S 30 0 0 → -1000000000000 ≤ W72 57 0 (6 * k + j) ∧ W72 57 0 (6 * k + j) ≤ 1000000000000) → (WV (W72 53 0) (W72 30 0 14) (W72 30 0 0)) → (0 ≤ W72 30 0 14) → (W72 30 0 14 ≤ 100) → (W72 30 0 16 = 0) → (rW W72 = rSl S a) → 31 - n < (n72 : Int) → Wk E g 6 W72 72 [(0, vr g 30 0), (1, vi a), (2, vi n)] [] := by
            intro n72
            induction n72 with
            | zero => intro n W72 hfW72 n0 n1 hP hbi hwv w0 w1 hgw eW hm72; exact absurd hm72 (by omega)
            | succ n72 ih72 =>
              intro n W72 hfW72 n0 n1 hP hbi hwv w0 w1 hgw eW hm72
              have hRW72 := hRS.fr hfW72
              have hnW72 := hRW72.n
              have enW72 : W72 30 0 0 = S 30 0 0 := hfW72 30 0 0 (by unfold tR; omega)
              refine kw_iload_n hC dX8_order_72 rfl 2 rfl ?_
              refine kw_bipush hC dX8_order_73 rfl (by decide) ?_
              refine kw_icmp_gt (tgt := 211) hC dX8_order_75 rfl (by decide) (by omega) (by omega) ⟨fun c75 => ?_, fun c75 => ?_⟩
              · refine kw_bipush hC dX8_order_211 rfl (by decide) ?_
                exact hR9.1 rfl _ _ _ _ dX8_order_213 (by first | (exfalso; omega) | exact ⟨_, rfl, hRW72, tR_tW hfW72, by unfold fOrder; rw [if_neg (by omega), rSl_tR hfW72]⟩ | exact ⟨_, rfl, hRW72, tR_tW hfW72, by unfold fOrder; rw [if_pos (by omega), rSl_tR hfW72]; exact Prod.ext (hps.1 (ordI_none (ordI_n hI (hti (hq9.resolve_right (fun z => by omega)).2.2)) (by omega))) rfl⟩ | exact ⟨_, rfl, hRW72, tR_tW hfW72, by unfold fOrder; rw [if_pos (by omega), rSl_tR hfW72]; exact Prod.ext ((hps.2 _ hI9).1 (hzz9.mp (by omega))) rfl⟩ | exact ⟨_, rfl, hRW72, tR_tW hfW72, by unfold fOrder; rw [if_pos (by omega), rSl_tR hfW72]; exact Prod.ext (ordP_e hP (by omega)) rfl⟩)
              · have hps := ordP_s hP (by omega) (by omega)
                refine kw_iconst hC dX8_order_78 rfl ?_
                refine kw_istore_n (lv' := [(3, _), (0, _), (1, _), (2, _)]) hC dX8_order_79 rfl (by decide) rfl ?_
                refine kw_iconst hC dX8_order_80 rfl ?_
                refine kw_istore (lv' := [(4, _), (3, _), (0, _), (1, _), (2, _)]) hC dX8_order_81 rfl (by decide) rfl ?_
                have hL83 : ∀ (n83 : Nat) (i : Int) (z : Int) (W83 : wSt), Fr tR S W83 → (0 ≤ i) → (i ≤ W83 30 0 0) → (i ≤ 6) → (z = 0 ∨ z = 1) → (ordI (rM S) (rn S) (rSl S a) (rIm S W72) i.toNat = some (rIm S W83)) → (z = 1 ↔ ∀ k, k < i.toNat → ∀ j, j < rn S → rIm S W83 k j = ownV k j) → (∀ k j, 0 ≤ k → k < S 30 0 0 → 0 ≤ j → j < S 30 0 0 → -1000000000000 ≤ W83 57 0 (6 * k + j) ∧ W83 57 0 (6 * k + j) ≤ 1000000000000) → (WV (W83 53 0) (W83 30 0 14) (W83 30 0 0)) → (0 ≤ W83 30 0 14) → (W83 30 0 14 ≤ 100) → (W83 30 0 16 = 0) → (rW W83 = rSl S a) → 6 - i < (n83 : Int) → Wk E g 6 W83 83 [(0, vr g 30 0), (1, vi a), (2, vi n), (3, vi z), (4, vi i)] [] := by
                  intro n83
                  induction n83 with
                  | zero => intro i z W83 hfW83 i0 i1 i6 hz hI hzz hbi hwv w0 w1 hgw eW hm83; exact absurd hm83 (by omega)
                  | succ n83 ih83 =>
                    intro i z W83 hfW83 i0 i1 i6 hz hI hzz hbi hwv w0 w1 hgw eW hm83
                    have hRW83 := hRS.fr hfW83
                    have hnW83 := hRW83.n
                    have enW83 : W83 30 0 0 = S 30 0 0 := hfW83 30 0 0 (by unfold tR; omega)
                    refine kw_iload hC dX8_order_83 rfl 4 rfl ?_
                    refine kw_aload_n hC dX8_order_85 rfl 0 rfl ?_
                    refine kg_30_0 hC w8 f11 dX8_order_86 rfl (by decide) (by decide) ?_
                    refine kw_icmp_ge (tgt := 199) hC dX8_order_89 rfl (by decide) (by omega) (by omega) ⟨fun c89 => ?_, fun c89 => ?_⟩
                    · have hin : i.toNat = rn S := by omega
                      have hI9 := hI
                      have hzz9 := hzz
                      rw [hin] at hI9 hzz9
                      refine kw_iload_n hC dX8_order_199 rfl 3 rfl ?_
                      refine kw_if_eq (tgt := 205) hC dX8_order_200 rfl (by decide) (by omega) ⟨fun c200 => ?_, fun c200 => ?_⟩
                      · refine kw_iinc (lv' := [(2, _), (0, _), (1, _), (3, _), (4, _)]) hC dX8_order_205 rfl 2 rfl (by decide) rfl ?_
                        refine kw_goto (tgt := 72) hC dX8_order_208 rfl (by decide) ?_
                        refine kw_lv [1, 2, 0] rfl ?_
                        exact ih72 (n + 1) W83 hfW83 (by omega) (by omega) ((hps.2 _ hI9).2 (fun q => by have := hzz9.mpr q; omega)) hbi hwv (by omega) (by omega) (by omega) eW (by omega)
                      · refine kw_iload_n hC dX8_order_203 rfl 2 rfl ?_
                        exact hR9.1 rfl _ _ _ _ dX8_order_204 (by first | (exfalso; omega) | exact ⟨_, rfl, hRW83, tR_tW hfW83, by unfold fOrder; rw [if_neg (by omega), rSl_tR hfW83]⟩ | exact ⟨_, rfl, hRW83, tR_tW hfW83, by unfold fOrder; rw [if_pos (by omega), rSl_tR hfW83]; exact Prod.ext (hps.1 (ordI_none (ordI_n hI (hti (hq9.resolve_right (fun z => by omega)).2.2)) (by omega))) rfl⟩ | exact ⟨_, rfl, hRW83, tR_tW hfW83, by unfold fOrder; rw [if_pos (by omega), rSl_tR hfW83]; exact Prod.ext ((hps.2 _ hI9).1 (hzz9.mp (by omega))) rfl⟩ | exact ⟨_, rfl, hRW83, tR_tW hfW83, by unfold fOrder; rw [if_pos (by omega), rSl_tR hfW83]; exact Prod.ext (ordP_e hP (by omega)) rfl⟩)
                    · refine kw_iconst hC dX8_order_92 rfl ?_
                      refine kw_istore (lv' := [(5, _), (0, _), (1, _), (2, _), (3, _), (4, _)]) hC dX8_order_93 rfl (by decide) rfl ?_
                      have hL95 : ∀ (n95 : Nat) (y : Int) (W95 : wSt), Fr tR S W95 → (0 ≤ y) → (y ≤ 6) → (ordI (rM S) (rn S) (rSl S a) (rIm S W72) i.toNat = some (rIm S W95)) → (z = 1 ↔ ∀ k, k < i.toNat → ∀ j, j < rn S → rIm S W95 k j = ownV k j) → (∀ k j, 0 ≤ k → k < S 30 0 0 → 0 ≤ j → j < S 30 0 0 → -1000000000000 ≤ W95 57 0 (6 * k + j) ∧ W95 57 0 (6 * k + j) ≤ 1000000000000) → (∀ j, 0 ≤ j → j < y → W95 55 0 j = W95 57 0 (6 * i + j)) → (WV (W95 53 0) (W95 30 0 14) (W95 30 0 0)) → (0 ≤ W95 30 0 14) → (W95 30 0 14 ≤ 100) → (W95 30 0 16 = 0) → (rW W95 = rSl S a) → 6 - y < (n95 : Int) → Wk E g 6 W95 95 [(0, vr g 30 0), (1, vi a), (2, vi n), (3, vi z), (4, vi i), (5, vi y)] [] := by
                        intro n95
                        induction n95 with
                        | zero => intro y W95 hfW95 y0 y1 hI hzz hbi hrow hwv w0 w1 hgw eW hm95; exact absurd hm95 (by omega)
                        | succ n95 ih95 =>
                          intro y W95 hfW95 y0 y1 hI hzz hbi hrow hwv w0 w1 hgw eW hm95
                          have hRW95 := hRS.fr hfW95
                          have hnW95 := hRW95.n
                          have enW95 : W95 30 0 0 = S 30 0 0 := hfW95 30 0 0 (by unfold tR; omega)
                          refine kw_iload hC dX8_order_95 rfl 5 rfl ?_
                          refine kw_bipush hC dX8_order_97 rfl (by decide) ?_
                          refine kw_icmp_ge (tgt := 128) hC dX8_order_99 rfl (by decide) (by omega) (by omega) ⟨fun c99 => ?_, fun c99 => ?_⟩
                          · have hbd : bdd (W95 30 0 0) (W95 55 0) := fun j j0 j1 => by rw [hrow j j0 (by omega)]; exact hbi i j (by omega) (by omega) j0 (by omega)
                            have hvr : vC (rn S) (W95 55 0) = rIm S W95 i.toNat := by unfold rIm; rw [imG_at (by omega)]; funext j; unfold vC; rcases Decidable.em (j < rn S) with e | e; exact (by rw [if_pos e, if_pos e, hrow _ (by omega) (by omega)]; congr 1; omega); rw [if_neg e, if_neg e]
                            have hV9 : rIm S W72 i.toNat = rIm S W95 i.toNat := (ordI_ge hI _ (by omega)).symm
                            refine kw_aload_n hC dX8_order_128 rfl 0 rfl ?_
                            refine kw_callV hC (f_X8_doneBy hD hRW95 hwv (by omega) (by omega) hgw hbd) gX8_order_X8_doneBy ⟨_, rfl⟩ rfl (by decide) (by decide) rfl ⟨rfl, rfl⟩ 0 (by decide +kernel) ⟨by decide, by decide⟩ rfl rfl (Nat.le_of_ble_eq_true rfl) dX8_order_129 rfl (kd_i (fun r9 S9 hp9 => ?_))
                            obtain ⟨hg9, hp9⟩ := hp9
                            have hfS9 : Fr tR S S9 := hfW95.trans (hg9.mono (fun k i j h => by unfold fT at h; unfold tR; omega))
                            have hRS9 := hRS.fr hfS9
                            have hnS9 := hRS9.n
                            have enS9 : S9 30 0 0 = S 30 0 0 := hfS9 30 0 0 (by unfold tR; omega)
                            obtain ⟨hz9, hq9⟩ := hp9
                            rw [rM_eq (W := W95) (S := S) (hfW95 30 0 0 (by unfold tR; omega)) (fun j => hfW95 42 0 j (by unfold tR; omega)), rn_eq (W := W95) (S := S) (hfW95 30 0 0 (by unfold tR; omega))] at hq9
                            rw [eW, hvr] at hq9
                            have hq9 := hq9
                            have hti : ∀ {o}, tbd (rM S) (rn S) (rSl S a) (rSl S a).length (rIm S W95 i.toNat) = o → tbd (rM S) (rn S) (rSl S a) (rSl S a).length (rIm S W72 i.toNat) = o := fun q => by rw [hV9]; exact q
                            have e57 : ∀ j, S9 57 0 j = W95 57 0 j := fun j => hg9 57 0 j (by unfold fT; omega)
                            have e14_9 : S9 30 0 14 = W95 30 0 14 := hg9 30 0 14 (by unfold fT; omega)
                            replace hwv : WV (S9 53 0) (S9 30 0 14) (S9 30 0 0) := hwv.eq (fun j _ _ => hg9 53 0 j (by unfold fT; omega)) e14_9 (hg9 30 0 0 (by unfold fT; omega))
                            replace eW : rW S9 = rSl S a := (wl_eq (hg9 30 0 14 (by unfold fT; omega)) (fun j _ _ => hg9 53 0 j (by unfold fT; omega))).trans eW
                            have hgw9 : r9 ≠ 0 → S9 30 0 16 = 0 := fun q => (hq9.resolve_left (fun z => q z.1)).2.1
                            refine kw_if_ne (tgt := 138) hC dX8_order_132 rfl (by decide) (by omega) ⟨fun c132 => ?_, fun c132 => ?_⟩
                            · have hqq := hq9.resolve_left (fun z => by omega)
                              have hgw : S9 30 0 16 = 0 := hqq.2.1
                              have hI2 := ordI_s hI (hti hqq.2.2.1)
                              obtain ⟨VV, hVV⟩ : ∃ q, q = vC (rn S) (S9 55 0) := ⟨_, rfl⟩
                              rw [← hVV] at hI2
                              refine kw_iconst hC dX8_order_138 rfl ?_
                              refine kw_istore (lv' := [(5, _), (0, _), (1, _), (2, _), (3, _), (4, _)]) hC dX8_order_139 rfl (by decide) rfl ?_
                              have hL141 : ∀ (n141 : Nat) (y : Int) (W141 : wSt), Fr tR S W141 → (0 ≤ y) → (y ≤ 6) → (∀ j, 0 ≤ j → j < y → W141 57 0 (6 * i + j) = W141 55 0 j) → (∀ j, ¬ (6 * i ≤ j ∧ j < 6 * i + 6) → W141 57 0 j = W95 57 0 j) → (vC (rn S) (W141 55 0) = VV) → (bdd (S 30 0 0) (W141 55 0)) → (WV (W141 53 0) (W141 30 0 14) (W141 30 0 0)) → (0 ≤ W141 30 0 14) → (W141 30 0 14 ≤ 100) → (W141 30 0 16 = 0) → (rW W141 = rSl S a) → 6 - y < (n141 : Int) → Wk E g 6 W141 141 [(0, vr g 30 0), (1, vi a), (2, vi n), (3, vi z), (4, vi i), (5, vi y)] [] := by
                                intro n141
                                induction n141 with
                                | zero => intro y W141 hfW141 y0 y1 hbk hoth h5V hbd9 hwv w0 w1 hgw eW hm141; exact absurd hm141 (by omega)
                                | succ n141 ih141 =>
                                  intro y W141 hfW141 y0 y1 hbk hoth h5V hbd9 hwv w0 w1 hgw eW hm141
                                  have hRW141 := hRS.fr hfW141
                                  have hnW141 := hRW141.n
                                  have enW141 : W141 30 0 0 = S 30 0 0 := hfW141 30 0 0 (by unfold tR; omega)
                                  refine kw_iload hC dX8_order_141 rfl 5 rfl ?_
                                  refine kw_bipush hC dX8_order_143 rfl (by decide) ?_
                                  refine kw_icmp_ge (tgt := 174) hC dX8_order_145 rfl (by decide) (by omega) (by omega) ⟨fun c145 => ?_, fun c145 => ?_⟩
                                  · have hrI : rIm S W141 = fun k => if k = i.toNat then vC (rn S) (W141 55 0) else rIm S W95 k := imG_upd (by omega) (fun k hk hk2 j hj => hoth _ (by omega)) (by unfold vC; funext j; rcases Decidable.em (j < rn S) with e | e; exact (by rw [if_pos e, if_pos e]; have h9 := hbk (j : Int) (by omega) (by omega); show W141 57 0 (6 * ((i.toNat : Nat) : Int) + (j : Int)) = _; rw [show 6 * ((i.toNat : Nat) : Int) + (j : Int) = 6 * i + j by omega]; exact h9); rw [if_neg e, if_neg e])
                                    have hI9 : ordI (rM S) (rn S) (rSl S a) (rIm S W72) (i + 1).toNat = some (rIm S W141) := by rw [show (i + 1).toNat = i.toNat + 1 by omega, hI2, hrI, h5V]
                                    have hri : rIm S W141 i.toNat = vC (rn S) (W141 55 0) := by rw [hrI]; exact if_pos rfl
                                    have hzs := z_st hzz (P' := fun k => ∀ j, j < rn S → rIm S W141 k j = ownV k j) (fun k hk => by show _ ↔ ∀ j, j < rn S → rIm S W141 k j = ownV k j; rw [show rIm S W141 k = rIm S W95 k from by rw [hrI]; exact if_neg (by omega)])
                                    have hbi9 : ∀ k j, 0 ≤ k → k < S 30 0 0 → 0 ≤ j → j < S 30 0 0 → -1000000000000 ≤ W141 57 0 (6 * k + j) ∧ W141 57 0 (6 * k + j) ≤ 1000000000000 := fun k j k0 k1 j0 j1 => by rcases Decidable.em (k = i) with e | e; exact (by rw [e, hbk j j0 (by omega)]; exact hbd9 j j0 j1); exact (by rw [hoth _ (by omega)]; exact hbi k j k0 k1 j0 j1)
                                    have hbd5 : bdd (W141 30 0 0) (W141 55 0) := by rw [enW141]; exact hbd9
                                    refine kw_iload_n hC dX8_order_174 rfl 3 rfl ?_
                                    refine kw_if_eq (tgt := 191) hC dX8_order_175 rfl (by decide) (by omega) ⟨fun c175 => ?_, fun c175 => ?_⟩
                                    · refine kw_iconst hC dX8_order_191 rfl ?_
                                      refine kw_istore_n (lv' := [(3, _), (0, _), (1, _), (2, _), (4, _), (5, _)]) hC dX8_order_192 rfl (by decide) rfl ?_
                                      refine kw_iinc (lv' := [(4, _), (3, _), (0, _), (1, _), (2, _), (5, _)]) hC dX8_order_193 rfl 4 rfl (by decide) rfl ?_
                                      refine kw_goto (tgt := 83) hC dX8_order_196 rfl (by decide) ?_
                                      refine kw_lv [2, 3, 4, 1, 0] rfl ?_
                                      exact ih83 (i + 1) _ W141 hfW141 (by omega) (by omega) (by omega) (by omega) hI9 (by rw [show (i + 1).toNat = i.toNat + 1 by omega]; first | exact ⟨fun q => by omega, fun q => by have := (hzs.mpr q).1; omega⟩ | exact ⟨fun q => by omega, fun q => absurd ((own_C hnW141 (by omega) hbd5).mpr (by rw [enW141]; have h9 := (hzs.mpr q).2; rw [hri] at h9; exact h9)) c184⟩ | exact ⟨fun _ => hzs.mp ⟨by omega, by rw [hri]; have h9 := (own_C hnW141 (by omega) hbd5).mp c184; rw [enW141] at h9; exact h9⟩, fun _ => rfl⟩) hbi9 hwv (by omega) (by omega) (by omega) eW (by omega)
                                    · refine kw_aload_n hC dX8_order_178 rfl 0 rfl ?_
                                      refine kw_iload hC dX8_order_179 rfl 4 rfl ?_
                                      refine kw_callV hC (d_X8_isOwn hD (by omega) (by omega) (by omega)) gX8_order_X8_isOwn ⟨_, rfl⟩ rfl (by decide) (by decide) rfl ⟨rfl, rfl⟩ 1 (by decide +kernel) ⟨by decide, by decide⟩ rfl rfl (Nat.le_of_ble_eq_true rfl) dX8_order_181 rfl (kd_ie ?_)
                                      refine kw_ifeq_b (tgt := 191) hC dX8_order_184 rfl (by decide) ⟨fun c184 => ?_, fun c184 => ?_⟩
                                      · refine kw_iconst hC dX8_order_191 rfl ?_
                                        refine kw_istore_n (lv' := [(3, _), (0, _), (1, _), (2, _), (4, _), (5, _)]) hC dX8_order_192 rfl (by decide) rfl ?_
                                        refine kw_iinc (lv' := [(4, _), (3, _), (0, _), (1, _), (2, _), (5, _)]) hC dX8_order_193 rfl 4 rfl (by decide) rfl ?_
                                        refine kw_goto (tgt := 83) hC dX8_order_196 rfl (by decide) ?_
                                        refine kw_lv [2, 3, 4, 1, 0] rfl ?_
                                        exact ih83 (i + 1) _ W141 hfW141 (by omega) (by omega) (by omega) (by omega) hI9 (by rw [show (i + 1).toNat = i.toNat + 1 by omega]; first | exact ⟨fun q => by omega, fun q => by have := (hzs.mpr q).1; omega⟩ | exact ⟨fun q => by omega, fun q => absurd ((own_C hnW141 (by omega) hbd5).mpr (by rw [enW141]; have h9 := (hzs.mpr q).2; rw [hri] at h9; exact h9)) c184⟩ | exact ⟨fun _ => hzs.mp ⟨by omega, by rw [hri]; have h9 := (own_C hnW141 (by omega) hbd5).mp c184; rw [enW141] at h9; exact h9⟩, fun _ => rfl⟩) hbi9 hwv (by omega) (by omega) (by omega) eW (by omega)
                                      · refine kw_iconst hC dX8_order_187 rfl ?_
                                        refine kw_goto (tgt := 192) hC dX8_order_188 rfl (by decide) ?_
                                        refine kw_istore_n (lv' := [(3, _), (0, _), (1, _), (2, _), (4, _), (5, _)]) hC dX8_order_192 rfl (by decide) rfl ?_
                                        refine kw_iinc (lv' := [(4, _), (3, _), (0, _), (1, _), (2, _), (5, _)]) hC dX8_order_193 rfl 4 rfl (by decide) rfl ?_
                                        refine kw_goto (tgt := 83) hC dX8_order_196 rfl (by decide) ?_
                                        refine kw_lv [2, 3, 4, 1, 0] rfl ?_
                                        exact ih83 (i + 1) _ W141 hfW141 (by omega) (by omega) (by omega) (by omega) hI9 (by rw [show (i + 1).toNat = i.toNat + 1 by omega]; first | exact ⟨fun q => by omega, fun q => by have := (hzs.mpr q).1; omega⟩ | exact ⟨fun q => by omega, fun q => absurd ((own_C hnW141 (by omega) hbd5).mpr (by rw [enW141]; have h9 := (hzs.mpr q).2; rw [hri] at h9; exact h9)) c184⟩ | exact ⟨fun _ => hzs.mp ⟨by omega, by rw [hri]; have h9 := (own_C hnW141 (by omega) hbd5).mp c184; rw [enW141] at h9; exact h9⟩, fun _ => rfl⟩) hbi9 hwv (by omega) (by omega) (by omega) eW (by omega)
                                  · refine kw_aload_n hC dX8_order_148 rfl 0 rfl ?_
                                    refine kg_30_17 hC w8 f148 dX8_order_149 rfl (by decide) (by decide) ?_
                                    refine kw_bipush hC dX8_order_152 rfl (by decide) ?_
                                    refine kw_iload hC dX8_order_154 rfl 4 rfl ?_
                                    refine kw_imul hC dX8_order_156 rfl ?_
                                    refine kw_iload hC dX8_order_157 rfl 5 rfl ?_
                                    refine kw_iadd hC dX8_order_159 rfl ?_
                                    refine kw_aload_n hC dX8_order_160 rfl 0 rfl ?_
                                    refine kg_30_15 hC w8 f77 dX8_order_161 rfl (by decide) (by decide) ?_
                                    refine kw_iload hC dX8_order_164 rfl 5 rfl ?_
                                    refine ka_55 hC dX8_order_166 rfl (by decide) (by decide) (by omega) (by omega) ?_
                                    refine ks_57 hC dX8_order_167 rfl (by decide) (by decide) (by omega) (by omega) ?_
                                    refine kw_hv hfW141 (by unfold tR; omega) (fun S14 hfS14 hv14 ho14 => ?_)
                                    have hRS14 := hRS.fr hfS14
                                    have hnS14 := hRS14.n
                                    have enS14 : S14 30 0 0 = S 30 0 0 := hfS14 30 0 0 (by unfold tR; omega)
                                    have e14_14 : S14 30 0 14 = W141 30 0 14 := ho14 30 0 14 (by omega)
                                    replace hwv : WV (S14 53 0) (S14 30 0 14) (S14 30 0 0) := hwv.eq (fun j _ _ => ho14 53 0 j (by omega)) e14_14 (ho14 30 0 0 (by omega))
                                    have e1614 : S14 30 0 16 = W141 30 0 16 := ho14 30 0 16 (by omega)
                                    replace eW : rW S14 = rSl S a := (wl_eq (ho14 30 0 14 (by omega)) (fun j _ _ => ho14 53 0 j (by omega))).trans eW
                                    have h55 : ∀ j, S14 55 0 j = W141 55 0 j := fun j => ho14 55 0 j (by omega)
                                    refine kw_iinc (lv' := [(5, _), (0, _), (1, _), (2, _), (3, _), (4, _)]) hC dX8_order_168 rfl 5 rfl (by decide) rfl ?_
                                    refine kw_goto (tgt := 141) hC dX8_order_171 rfl (by decide) ?_
                                    refine kw_lv [1, 2, 3, 4, 5, 0] rfl ?_
                                    exact ih141 (y + 1) S14 hfS14 (by omega) (by omega) (fun j j0 j1 => by rw [h55]; rcases Decidable.em (j = y) with e | e; exact (by rw [e]; exact hv14); exact (by rw [ho14 57 0 _ (by omega)]; exact hbk j j0 (by omega))) (fun j hj => by rw [ho14 57 0 j (by omega)]; exact hoth j hj) (by rw [show S14 55 0 = W141 55 0 from funext h55]; exact h5V) (by rw [show S14 55 0 = W141 55 0 from funext h55]; exact hbd9) hwv (by omega) (by omega) (by omega) eW (by omega)
                              refine kw_lv [1, 2, 3, 4, 5, 0] rfl ?_
                              exact hL141 7 0 S9 hfS9 (by omega) (by omega) (fun j _ _ => by omega) (fun j _ => e57 j) hVV.symm (by rw [← enW95]; exact hqq.2.2.2) hwv (by omega) (by omega) (by omega) eW (by omega)
                            · refine kw_bipush hC dX8_order_135 rfl (by decide) ?_
                              exact hR9.1 rfl _ _ _ _ dX8_order_137 (by first | (exfalso; omega) | exact ⟨_, rfl, hRS9, tR_tW hfS9, by unfold fOrder; rw [if_neg (by omega), rSl_tR hfS9]⟩ | exact ⟨_, rfl, hRS9, tR_tW hfS9, by unfold fOrder; rw [if_pos (by omega), rSl_tR hfS9]; exact Prod.ext (hps.1 (ordI_none (ordI_n hI (hti (hq9.resolve_right (fun z => by omega)).2.2)) (by omega))) rfl⟩ | exact ⟨_, rfl, hRS9, tR_tW hfS9, by unfold fOrder; rw [if_pos (by omega), rSl_tR hfS9]; exact Prod.ext ((hps.2 _ hI9).1 (hzz9.mp (by omega))) rfl⟩ | exact ⟨_, rfl, hRS9, tR_tW hfS9, by unfold fOrder; rw [if_pos (by omega), rSl_tR hfS9]; exact Prod.ext (ordP_e hP (by omega)) rfl⟩)
                          · refine kw_aload_n hC dX8_order_102 rfl 0 rfl ?_
                            refine kg_30_15 hC w8 f77 dX8_order_103 rfl (by decide) (by decide) ?_
                            refine kw_iload hC dX8_order_106 rfl 5 rfl ?_
                            refine kw_aload_n hC dX8_order_108 rfl 0 rfl ?_
                            refine kg_30_17 hC w8 f148 dX8_order_109 rfl (by decide) (by decide) ?_
                            refine kw_bipush hC dX8_order_112 rfl (by decide) ?_
                            refine kw_iload hC dX8_order_114 rfl 4 rfl ?_
                            refine kw_imul hC dX8_order_116 rfl ?_
                            refine kw_iload hC dX8_order_117 rfl 5 rfl ?_
                            refine kw_iadd hC dX8_order_119 rfl ?_
                            refine ka_57 hC dX8_order_120 rfl (by decide) (by decide) (by omega) (by omega) ?_
                            refine ks_55 hC dX8_order_121 rfl (by decide) (by decide) (by omega) (by omega) ?_
                            refine kw_hv hfW95 (by unfold tR; omega) (fun S15 hfS15 hv15 ho15 => ?_)
                            have hRS15 := hRS.fr hfS15
                            have hnS15 := hRS15.n
                            have enS15 : S15 30 0 0 = S 30 0 0 := hfS15 30 0 0 (by unfold tR; omega)
                            have e14_15 : S15 30 0 14 = W95 30 0 14 := ho15 30 0 14 (by omega)
                            replace hwv : WV (S15 53 0) (S15 30 0 14) (S15 30 0 0) := hwv.eq (fun j _ _ => ho15 53 0 j (by omega)) e14_15 (ho15 30 0 0 (by omega))
                            have e1615 : S15 30 0 16 = W95 30 0 16 := ho15 30 0 16 (by omega)
                            replace eW : rW S15 = rSl S a := (wl_eq (ho15 30 0 14 (by omega)) (fun j _ _ => ho15 53 0 j (by omega))).trans eW
                            have h57 : ∀ j, S15 57 0 j = W95 57 0 j := fun j => ho15 57 0 j (by omega)
                            refine kw_iinc (lv' := [(5, _), (0, _), (1, _), (2, _), (3, _), (4, _)]) hC dX8_order_122 rfl 5 rfl (by decide) rfl ?_
                            refine kw_goto (tgt := 95) hC dX8_order_125 rfl (by decide) ?_
                            refine kw_lv [1, 2, 3, 4, 5, 0] rfl ?_
                            exact ih95 (y + 1) S15 hfS15 (by omega) (by omega) (by rw [show rIm S S15 = rIm S W95 from imG_eq (fun k _ j _ => h57 _)]; exact hI) (by rw [show rIm S S15 = rIm S W95 from imG_eq (fun k _ j _ => h57 _)]; exact hzz) (fun k j a9 b9 c9 d9 => by rw [h57]; exact hbi k j a9 b9 c9 d9) (fun j j0 j1 => by rw [h57]; rcases Decidable.em (j = y) with e | e; exact (by rw [e]; exact hv15); exact (by rw [ho15 55 0 j (by omega)]; exact hrow j j0 (by omega))) hwv (by omega) (by omega) (by omega) eW (by omega)
                      refine kw_lv [1, 2, 3, 4, 5, 0] rfl ?_
                      exact hL95 7 0 W83 hfW83 (by omega) (by omega) hI hzz hbi (fun j _ _ => by omega) hwv (by omega) (by omega) (by omega) eW (by omega)
                refine kw_lv [2, 3, 4, 1, 0] rfl ?_
                exact hL83 7 0 _ W72 hfW72 (by omega) (by omega) (by omega) (by omega) rfl ⟨fun _ k hk => by omega, fun _ => rfl⟩ hbi hwv (by omega) (by omega) (by omega) eW (by omega)
          refine kw_lv [1, 2, 0] rfl ?_
          exact hL72 31 1 W21 hfW21 (by omega) (by omega) (by rw [show rIm S W21 = ownV from imG_own (fun k hk j hj => by rw [h57 _ _ (by omega) (by omega) (by omega) (by omega)]; rcases Decidable.em (j = k) with e | e; exact (by rw [if_pos e, if_pos (by omega)]); rw [if_neg e, if_neg (by omega)])]; rfl) (fun k j k0 k1 j0 j1 => by rw [h57 k j k0 (by omega) j0 (by omega)]; split <;> omega) hwv (by omega) (by omega) (by omega) eW (by omega)
        · refine kw_iconst hC dX8_order_29 rfl ?_
          refine kw_istore_n (lv' := [(3, _), (0, _), (1, _), (2, _)]) hC dX8_order_30 rfl (by decide) rfl ?_
          have hL31 : ∀ (n31 : Nat) (y : Int) (W31 : wSt), Fr tR S W31 → (0 ≤ y) → (y ≤ 6) → (∀ k j, 0 ≤ k → k < i → 0 ≤ j → j < 6 → W31 57 0 (6 * k + j) = if j = k then 1 else 0) → (∀ j, 0 ≤ j → j < y → W31 57 0 (6 * i + j) = if j = i then 1 else 0) → (WV (W31 53 0) (W31 30 0 14) (W31 30 0 0)) → (0 ≤ W31 30 0 14) → (W31 30 0 14 ≤ 100) → (W31 30 0 16 = 0) → (rW W31 = rSl S a) → 6 - y < (n31 : Int) → Wk E g 6 W31 31 [(0, vr g 30 0), (1, vi a), (2, vi i), (3, vi y)] [] := by
            intro n31
            induction n31 with
            | zero => intro y W31 hfW31 y0 y1 h57 h58 hwv w0 w1 hgw eW hm31; exact absurd hm31 (by omega)
            | succ n31 ih31 =>
              intro y W31 hfW31 y0 y1 h57 h58 hwv w0 w1 hgw eW hm31
              have hRW31 := hRS.fr hfW31
              have hnW31 := hRW31.n
              have enW31 : W31 30 0 0 = S 30 0 0 := hfW31 30 0 0 (by unfold tR; omega)
              refine kw_iload_n hC dX8_order_31 rfl 3 rfl ?_
              refine kw_bipush hC dX8_order_32 rfl (by decide) ?_
              refine kw_icmp_ge (tgt := 64) hC dX8_order_34 rfl (by decide) (by omega) (by omega) ⟨fun c34 => ?_, fun c34 => ?_⟩
              · refine kw_iinc (lv' := [(2, _), (0, _), (1, _), (3, _)]) hC dX8_order_64 rfl 2 rfl (by decide) rfl ?_
                refine kw_goto (tgt := 21) hC dX8_order_67 rfl (by decide) ?_
                refine kw_lv [1, 2, 0] rfl ?_
                exact ih21 (i + 1) W31 hfW31 (by omega) (by omega) (by omega) (fun k j k0 k1 j0 j1 => by rcases Decidable.em (k = i) with e | e; exact (by rw [e]; exact h58 j j0 (by omega)); exact h57 k j k0 (by omega) j0 j1) hwv (by omega) (by omega) (by omega) eW (by omega)
              · refine kw_aload_n hC dX8_order_37 rfl 0 rfl ?_
                refine kg_30_17 hC w8 f148 dX8_order_38 rfl (by decide) (by decide) ?_
                refine kw_bipush hC dX8_order_41 rfl (by decide) ?_
                refine kw_iload_n hC dX8_order_43 rfl 2 rfl ?_
                refine kw_imul hC dX8_order_44 rfl ?_
                refine kw_iload_n hC dX8_order_45 rfl 3 rfl ?_
                refine kw_iadd hC dX8_order_46 rfl ?_
                refine kw_iload_n hC dX8_order_47 rfl 3 rfl ?_
                refine kw_iload_n hC dX8_order_48 rfl 2 rfl ?_
                refine kw_icmp_ne (tgt := 56) hC dX8_order_49 rfl (by decide) (by omega) (by omega) ⟨fun c49 => ?_, fun c49 => ?_⟩
                · refine kw_lconst (z := 0) hC dX8_order_56 rfl rfl ?_
                  refine ks_57 hC dX8_order_57 rfl (by decide) (by decide) (by omega) (by omega) ?_
                  refine kw_hv hfW31 (by unfold tR; omega) (fun S18 hfS18 hv18 ho18 => ?_)
                  have hRS18 := hRS.fr hfS18
                  have hnS18 := hRS18.n
                  have enS18 : S18 30 0 0 = S 30 0 0 := hfS18 30 0 0 (by unfold tR; omega)
                  have e14_18 : S18 30 0 14 = W31 30 0 14 := ho18 30 0 14 (by omega)
                  replace hwv : WV (S18 53 0) (S18 30 0 14) (S18 30 0 0) := hwv.eq (fun j _ _ => ho18 53 0 j (by omega)) e14_18 (ho18 30 0 0 (by omega))
                  have e1618 : S18 30 0 16 = W31 30 0 16 := ho18 30 0 16 (by omega)
                  replace eW : rW S18 = rSl S a := (wl_eq (ho18 30 0 14 (by omega)) (fun j _ _ => ho18 53 0 j (by omega))).trans eW
                  refine kw_iinc (lv' := [(3, _), (0, _), (1, _), (2, _)]) hC dX8_order_58 rfl 3 rfl (by decide) rfl ?_
                  refine kw_goto (tgt := 31) hC dX8_order_61 rfl (by decide) ?_
                  refine kw_lv [1, 2, 3, 0] rfl ?_
                  exact ih31 (y + 1) S18 hfS18 (by omega) (by omega) (fun k j k0 k1 j0 j1 => by rw [ho18 57 0 _ (by omega)]; exact h57 k j k0 k1 j0 j1) (fun j j0 j1 => by rcases Decidable.em (j = y) with e | e; exact (by rw [e, hv18]; first | rw [if_pos (by omega)] | rw [if_neg (by omega)]); exact (by rw [ho18 57 0 _ (by omega)]; exact h58 j j0 (by omega))) hwv (by omega) (by omega) (by omega) eW (by omega)
                · refine kw_lconst (z := 1) hC dX8_order_52 rfl rfl ?_
                  refine kw_goto (tgt := 57) hC dX8_order_53 rfl (by decide) ?_
                  refine ks_57 hC dX8_order_57 rfl (by decide) (by decide) (by omega) (by omega) ?_
                  refine kw_hv hfW31 (by unfold tR; omega) (fun S19 hfS19 hv19 ho19 => ?_)
                  have hRS19 := hRS.fr hfS19
                  have hnS19 := hRS19.n
                  have enS19 : S19 30 0 0 = S 30 0 0 := hfS19 30 0 0 (by unfold tR; omega)
                  have e14_19 : S19 30 0 14 = W31 30 0 14 := ho19 30 0 14 (by omega)
                  replace hwv : WV (S19 53 0) (S19 30 0 14) (S19 30 0 0) := hwv.eq (fun j _ _ => ho19 53 0 j (by omega)) e14_19 (ho19 30 0 0 (by omega))
                  have e1619 : S19 30 0 16 = W31 30 0 16 := ho19 30 0 16 (by omega)
                  replace eW : rW S19 = rSl S a := (wl_eq (ho19 30 0 14 (by omega)) (fun j _ _ => ho19 53 0 j (by omega))).trans eW
                  refine kw_iinc (lv' := [(3, _), (0, _), (1, _), (2, _)]) hC dX8_order_58 rfl 3 rfl (by decide) rfl ?_
                  refine kw_goto (tgt := 31) hC dX8_order_61 rfl (by decide) ?_
                  refine kw_lv [1, 2, 3, 0] rfl ?_
                  exact ih31 (y + 1) S19 hfS19 (by omega) (by omega) (fun k j k0 k1 j0 j1 => by rw [ho19 57 0 _ (by omega)]; exact h57 k j k0 k1 j0 j1) (fun j j0 j1 => by rcases Decidable.em (j = y) with e | e; exact (by rw [e, hv19]; first | rw [if_pos (by omega)] | rw [if_neg (by omega)]); exact (by rw [ho19 57 0 _ (by omega)]; exact h58 j j0 (by omega))) hwv (by omega) (by omega) (by omega) eW (by omega)
          refine kw_lv [1, 2, 3, 0] rfl ?_
          exact hL31 7 0 W21 hfW21 (by omega) (by omega) h57 (fun j _ _ => by omega) hwv (by omega) (by omega) (by omega) eW (by omega)
    refine kw_lv [1, 2, 0] rfl ?_
    exact hL21 7 0 S3 hfS3 (by omega) (by omega) (by omega) (fun k j _ _ => by omega) hwv (by omega) (by omega) (by omega) eW (by omega)
  · refine kw_iconst hC dX8_order_7 rfl ?_
    exact hR9.1 rfl _ _ _ _ dX8_order_8 (by first | (exfalso; omega) | exact ⟨_, rfl, hRS, tR_tW hfS, by unfold fOrder; rw [if_neg (by omega), rSl_tR hfS]⟩ | exact ⟨_, rfl, hRS, tR_tW hfS, by unfold fOrder; rw [if_pos (by omega), rSl_tR hfS]; exact Prod.ext (hps.1 (ordI_none (ordI_n hI (hti (hq9.resolve_right (fun z => by omega)).2.2)) (by omega))) rfl⟩ | exact ⟨_, rfl, hRS, tR_tW hfS, by unfold fOrder; rw [if_pos (by omega), rSl_tR hfS]; exact Prod.ext ((hps.2 _ hI9).1 (hzz9.mp (by omega))) rfl⟩ | exact ⟨_, rfl, hRS, tR_tW hfS, by unfold fOrder; rw [if_pos (by omega), rSl_tR hfS]; exact Prod.ext (ordP_e hP (by omega)) rfl⟩)

set_option maxHeartbeats 4000000 in
set_option maxRecDepth 100000 in
theorem f_X8_below {g : wG} (hD : wD g) {S : wSt} {a b : Int} (ha : -2147483648 ≤ a ∧ a ≤ 2147483647) (hb : -2147483648 ≤ b ∧ b ≤ 2147483647) (hRS : RI S) (l : Launch) : Kt l yX8_below wsX8_below ({ frames := 4, cells := 0, slots := 0, locals := 93 } : Room) g S [vr g 30 0, vi a, vi b] (pI (fun r S' => RI S' ∧ Fr tW S S' ∧ (fBelow (rM S) (rn S) a b (rSl S), rSl S) = (r, rSl S'))) := by
  refine Kt.of (cc := cX8_below) (nL := 5) (ret := (some .int)) (own := RX8) rfl hD (by decide) rfl (Nat.le_of_ble_eq_true rfl) ⟨rfl, rfl⟩ ?_
  intro E hC hR9
  have f57 : Cond.fieldLink RX8 57 "MirrorBenchModel" "wMany" "I" ∈ wsX8_below := by decide +kernel
  have f60 : Cond.fieldLink RX8 60 "MirrorBenchModel" "w" "[I" ∈ wsX8_below := by decide +kernel
  have f81 : Cond.fieldLink RX8 81 "MirrorBenchModel" "isGreat" "Z" ∈ wsX8_below := by decide +kernel
  have f92 : Cond.fieldLink RX8 92 "MirrorBenchModel" "rMany" "I" ∈ wsX8_below := by decide +kernel
  have f95 : Cond.fieldLink RX8 95 "MirrorBenchModel" "r" "[I" ∈ wsX8_below := by decide +kernel
  have f126 : Cond.fieldLink RX8 126 "MirrorBenchModel" "vMany" "I" ∈ wsX8_below := by decide +kernel
  have f129 : Cond.fieldLink RX8 129 "MirrorBenchModel" "v" "[I" ∈ wsX8_below := by decide +kernel
  have w8 : ∀ w ∈ wsX80, w ∈ wsX8_below := by decide +kernel
  show Wk E g 5 S 0 [(0, vr g 30 0), (1, vi a), (2, vi b)] []
  have hfS : Fr tR S S := Fr.rfl _ S
  have hRS := hRS.fr hfS
  have hnS := hRS.n
  have enS : S 30 0 0 = S 30 0 0 := hfS 30 0 0 (by unfold tR; omega)
  have hnS := hRS.n
  have hnn : (rn S : Int) = S 30 0 0 := by unfold rn; omega
  refine kw_iload_n hC dX8_below_0 rfl 1 rfl ?_
  refine kw_callS hC (d_X8_isSlot hD (by omega)) gX8_below_X8_isSlot rfl ⟨rfl, rfl⟩ 1 (by decide +kernel) ⟨by decide, by decide⟩ rfl rfl (Nat.le_of_ble_eq_true rfl) dX8_below_1 rfl (kd_ie ?_)
  refine kw_ifeq_b (tgt := 14) hC dX8_below_4 rfl (by decide) ⟨fun c4 => ?_, fun c4 => ?_⟩
  · refine kw_iconst hC dX8_below_14 rfl ?_
    exact hR9.1 rfl _ _ _ _ dX8_below_15 (by first | (exfalso; omega) | exact ⟨_, rfl, hRS, tR_tW hfS, by unfold fBelow; rw [if_neg (by omega), rSl_tR hfS]⟩ | exact ⟨_, rfl, hRS, tR_tW hfS, by have h9 := hbs.1 (by omega); unfold fBelow; rw [if_pos (by omega), rSl_tR hfS]; simp only [hsA, hsB, h9]⟩ | exact ⟨_, rfl, hRS, tR_tW hfS, by have h9 := blw_e hB (by omega); unfold fBelow; rw [if_pos (by omega), rSl_tR hfS]; simp only [hsA, hsB, h9]; first | rw [if_pos (by omega)] | rw [if_neg (by omega)]⟩ | exact ⟨_, rfl, hRS, tR_tW hfS, by have hA8 := hsA; have h9 := (hsh.resolve_right (fun z => by omega)).2.2; unfold fBelow; rw [if_pos (by omega), rSl_tR hfS]; simp only [hA8, h9]⟩ | exact ⟨_, rfl, hRS, tR_tW hfS, by have h9 := (hsh.resolve_right (fun z => by omega)).2.2; unfold fBelow; rw [if_pos (by omega), rSl_tR hfS]; simp only [h9]⟩)
  · refine kw_iload_n hC dX8_below_7 rfl 2 rfl ?_
    refine kw_callS hC (d_X8_isSlot hD (by omega)) gX8_below_X8_isSlot rfl ⟨rfl, rfl⟩ 1 (by decide +kernel) ⟨by decide, by decide⟩ rfl rfl (Nat.le_of_ble_eq_true rfl) dX8_below_8 rfl (kd_ie ?_)
    refine kw_ifne_b (tgt := 16) hC dX8_below_11 rfl (by decide) ⟨fun c11 => ?_, fun c11 => ?_⟩
    · refine kw_aload_n hC dX8_below_16 rfl 0 rfl ?_
      refine kw_iload_n hC dX8_below_17 rfl 1 rfl ?_
      refine kw_callV hC (d_X8_load hD (by omega) (by omega) hRS) gX8_below_X8_load ⟨_, rfl⟩ rfl (by decide) (by decide) rfl ⟨rfl, rfl⟩ 1 (by decide +kernel) ⟨by decide, by decide⟩ rfl rfl (Nat.le_of_ble_eq_true rfl) dX8_below_18 rfl (kd_v (fun S3 hp3 => ?_))
      obtain ⟨hg3, hp3⟩ := hp3
      have hfS3 : Fr tR S S3 := hfS.trans (hg3.mono (fun k i j h => by unfold fL at h; unfold tR; omega))
      have hRS3 := hRS.fr hfS3
      have hnS3 := hRS3.n
      have enS3 : S3 30 0 0 = S 30 0 0 := hfS3 30 0 0 (by unfold tR; omega)
      obtain ⟨q14, qW⟩ := hp3
      have hwv : WV (S3 53 0) (S3 30 0 14) (S3 30 0 0) := ldWV hRS (by omega) (by omega) q14 qW (by omega)
      have hl3 := hRS.ln a (by omega) (by omega)
      have eWa : rW S3 = rSl S a := (ld_rW (by omega) (by omega) q14 qW).trans (by rw [rSl_tR hfS])
      refine kw_aload_n hC dX8_below_21 rfl 0 rfl ?_
      refine kw_callV hC (f_X8_shortOf hD hRS3 hwv (by omega) (by omega)) gX8_below_X8_shortOf ⟨_, rfl⟩ rfl (by decide) (by decide) rfl ⟨rfl, rfl⟩ 0 (by decide +kernel) ⟨by decide, by decide⟩ rfl rfl (Nat.le_of_ble_eq_true rfl) dX8_below_22 rfl (kd_i (fun r4 S4 hp4 => ?_))
      obtain ⟨hg4, hp4⟩ := hp4
      have hfS4 : Fr tR S S4 := hfS3.trans (hg4.mono (fun k i j h => by unfold fS at h; unfold tR; omega))
      have hRS4 := hRS.fr hfS4
      have hnS4 := hRS4.n
      have enS4 : S4 30 0 0 = S 30 0 0 := hfS4 30 0 0 (by unfold tR; omega)
      obtain ⟨⟨r0, r1⟩, hrv, hq4⟩ := hp4
      rw [rM_eq (W := S3) (S := S) (hfS3 30 0 0 (by unfold tR; omega)) (fun j => hfS3 42 0 j (by unfold tR; omega)), rn_eq (W := S3) (S := S) (hfS3 30 0 0 (by unfold tR; omega))] at hq4
      rw [eWa] at hq4
      have hsh := hq4
      replace hrv : WV (S4 47 0) (S4 30 0 8) (S4 30 0 0) := hrv.eq (fun _ _ _ => rfl) rfl (by omega)
      refine kw_if_ne (tgt := 31) hC dX8_below_25 rfl (by decide) (by omega) ⟨fun c25 => ?_, fun c25 => ?_⟩
      · have hs9 := hsh.resolve_left (fun z => by omega)
        obtain ⟨AA, hAA⟩ : ∃ q, q = rR S4 := ⟨_, rfl⟩
        have hsA : shoP (rM S) (rn S) [] (rSl S a) = some AA := by rw [hs9.2.2, hAA]
        refine kw_aload_n hC dX8_below_31 rfl 0 rfl ?_
        refine kw_callV hC (d_X8_rToW hD (by omega) (by omega)) gX8_below_X8_rToW ⟨_, rfl⟩ rfl (by decide) (by decide) rfl ⟨rfl, rfl⟩ 0 (by decide +kernel) ⟨by decide, by decide⟩ rfl rfl (Nat.le_of_ble_eq_true rfl) dX8_below_32 rfl (kd_v (fun S6 hp6 => ?_))
        obtain ⟨hg6, hp6⟩ := hp6
        have hfS6 : Fr tR S S6 := hfS4.trans (hg6.mono (fun k i j h => by unfold fL at h; unfold tR; omega))
        have hRS6 := hRS.fr hfS6
        have hnS6 := hRS6.n
        have enS6 : S6 30 0 0 = S 30 0 0 := hfS6 30 0 0 (by unfold tR; omega)
        obtain ⟨q14, qW⟩ := hp6
        have hwv : WV (S6 53 0) (S6 30 0 14) (S6 30 0 0) := hrv.eq (fun j j0 j1 => qW j j0 (by omega)) q14 (by omega)
        have eWR : rW S6 = rR S4 := wl_eq q14 qW
        have e8_6 : S6 30 0 8 = S4 30 0 8 := hg6 30 0 8 (by unfold fL; omega)
        refine kw_aload_n hC dX8_below_35 rfl 0 rfl ?_
        refine kw_callV hC (d_X8_wToV hD (by omega) (by omega)) gX8_below_X8_wToV ⟨_, rfl⟩ rfl (by decide) (by decide) rfl ⟨rfl, rfl⟩ 0 (by decide +kernel) ⟨by decide, by decide⟩ rfl rfl (Nat.le_of_ble_eq_true rfl) dX8_below_36 rfl (kd_v (fun S7 hp7 => ?_))
        obtain ⟨hg7, hp7⟩ := hp7
        have hfS7 : Fr tR S S7 := hfS6.trans (hg7.mono (fun k i j h => by unfold fX at h; unfold tR; omega))
        have hRS7 := hRS.fr hfS7
        have hnS7 := hRS7.n
        have enS7 : S7 30 0 0 = S 30 0 0 := hfS7 30 0 0 (by unfold tR; omega)
        obtain ⟨q12, qV⟩ := hp7
        have eV9 : rV S7 = rW S6 := wl_eq q12 qV
        have hvv : WV (S7 51 0) (S7 30 0 12) (S7 30 0 0) := hwv.eq (fun j j0 j1 => qV j j0 j1) q12 (by omega)
        have e14_7 : S7 30 0 14 = S6 30 0 14 := hg7 30 0 14 (by unfold fX; omega)
        replace hwv : WV (S7 53 0) (S7 30 0 14) (S7 30 0 0) := hwv.eq (fun j _ _ => hg7 53 0 j (by unfold fX; omega)) e14_7 (hg7 30 0 0 (by unfold fX; omega))
        have eV : rV S7 = AA := (eV9.trans eWR).trans hAA.symm
        refine kw_aload_n hC dX8_below_39 rfl 0 rfl ?_
        refine kw_iload_n hC dX8_below_40 rfl 2 rfl ?_
        refine kw_callV hC (d_X8_load hD (by omega) (by omega) hRS7) gX8_below_X8_load ⟨_, rfl⟩ rfl (by decide) (by decide) rfl ⟨rfl, rfl⟩ 1 (by decide +kernel) ⟨by decide, by decide⟩ rfl rfl (Nat.le_of_ble_eq_true rfl) dX8_below_41 rfl (kd_v (fun S8 hp8 => ?_))
        obtain ⟨hg8, hp8⟩ := hp8
        have hfS8 : Fr tR S S8 := hfS7.trans (hg8.mono (fun k i j h => by unfold fL at h; unfold tR; omega))
        have hRS8 := hRS.fr hfS8
        have hnS8 := hRS8.n
        have enS8 : S8 30 0 0 = S 30 0 0 := hfS8 30 0 0 (by unfold tR; omega)
        obtain ⟨q14, qW⟩ := hp8
        have hwv : WV (S8 53 0) (S8 30 0 14) (S8 30 0 0) := ldWV hRS7 (by omega) (by omega) q14 qW (by omega)
        have hl8 := hRS7.ln b (by omega) (by omega)
        have eWb : rW S8 = rSl S b := (ld_rW (by omega) (by omega) q14 qW).trans (by rw [rSl_tR hfS7])
        have e12_8 : S8 30 0 12 = S7 30 0 12 := hg8 30 0 12 (by unfold fL; omega)
        replace hvv : WV (S8 51 0) (S8 30 0 12) (S8 30 0 0) := hvv.eq (fun j _ _ => hg8 51 0 j (by unfold fL; omega)) e12_8 (hg8 30 0 0 (by unfold fL; omega))
        replace eV : rV S8 = AA := (wl_eq (hg8 30 0 12 (by unfold fL; omega)) (fun j _ _ => hg8 51 0 j (by unfold fL; omega))).trans eV
        refine kw_aload_n hC dX8_below_44 rfl 0 rfl ?_
        refine kw_callV hC (f_X8_shortOf hD hRS8 hwv (by omega) (by omega)) gX8_below_X8_shortOf ⟨_, rfl⟩ rfl (by decide) (by decide) rfl ⟨rfl, rfl⟩ 0 (by decide +kernel) ⟨by decide, by decide⟩ rfl rfl (Nat.le_of_ble_eq_true rfl) dX8_below_45 rfl (kd_i (fun r9 S9 hp9 => ?_))
        obtain ⟨hg9, hp9⟩ := hp9
        have hfS9 : Fr tR S S9 := hfS8.trans (hg9.mono (fun k i j h => by unfold fS at h; unfold tR; omega))
        have hRS9 := hRS.fr hfS9
        have hnS9 := hRS9.n
        have enS9 : S9 30 0 0 = S 30 0 0 := hfS9 30 0 0 (by unfold tR; omega)
        obtain ⟨⟨r0, r1⟩, hrv, hq9⟩ := hp9
        rw [rM_eq (W := S8) (S := S) (hfS8 30 0 0 (by unfold tR; omega)) (fun j => hfS8 42 0 j (by unfold tR; omega)), rn_eq (W := S8) (S := S) (hfS8 30 0 0 (by unfold tR; omega))] at hq9
        rw [eWb] at hq9
        have hsh := hq9
        replace hrv : WV (S9 47 0) (S9 30 0 8) (S9 30 0 0) := hrv.eq (fun _ _ _ => rfl) rfl (by omega)
        have e12_9 : S9 30 0 12 = S8 30 0 12 := hg9 30 0 12 (by unfold fS; omega)
        replace hvv : WV (S9 51 0) (S9 30 0 12) (S9 30 0 0) := hvv.eq (fun j _ _ => hg9 51 0 j (by unfold fS; omega)) e12_9 (hg9 30 0 0 (by unfold fS; omega))
        replace eV : rV S9 = AA := (wl_eq (hg9 30 0 12 (by unfold fS; omega)) (fun j _ _ => hg9 51 0 j (by unfold fS; omega))).trans eV
        refine kw_if_ne (tgt := 54) hC dX8_below_48 rfl (by decide) (by omega) ⟨fun c48 => ?_, fun c48 => ?_⟩
        · have hs8 := hsh.resolve_left (fun z => by omega)
          obtain ⟨BB, hBB⟩ : ∃ q, q = rR S9 := ⟨_, rfl⟩
          have hsB : shoP (rM S) (rn S) [] (rSl S b) = some BB := by rw [hs8.2.2, hBB]
          have hgw : S9 30 0 16 = 0 := hs8.2.1
          refine kw_aload_n hC dX8_below_54 rfl 0 rfl ?_
          refine kw_callV hC (d_X8_rToW hD (by omega) (by omega)) gX8_below_X8_rToW ⟨_, rfl⟩ rfl (by decide) (by decide) rfl ⟨rfl, rfl⟩ 0 (by decide +kernel) ⟨by decide, by decide⟩ rfl rfl (Nat.le_of_ble_eq_true rfl) dX8_below_55 rfl (kd_v (fun S11 hp11 => ?_))
          obtain ⟨hg11, hp11⟩ := hp11
          have hfS11 : Fr tR S S11 := hfS9.trans (hg11.mono (fun k i j h => by unfold fL at h; unfold tR; omega))
          have hRS11 := hRS.fr hfS11
          have hnS11 := hRS11.n
          have enS11 : S11 30 0 0 = S 30 0 0 := hfS11 30 0 0 (by unfold tR; omega)
          obtain ⟨q14, qW⟩ := hp11
          have hwv : WV (S11 53 0) (S11 30 0 14) (S11 30 0 0) := hrv.eq (fun j j0 j1 => qW j j0 (by omega)) q14 (by omega)
          have eWR : rW S11 = rR S9 := wl_eq q14 qW
          have e12_11 : S11 30 0 12 = S9 30 0 12 := hg11 30 0 12 (by unfold fL; omega)
          replace hvv : WV (S11 51 0) (S11 30 0 12) (S11 30 0 0) := hvv.eq (fun j _ _ => hg11 51 0 j (by unfold fL; omega)) e12_11 (hg11 30 0 0 (by unfold fL; omega))
          have e1611 : S11 30 0 16 = S9 30 0 16 := hg11 30 0 16 (by unfold fL; omega)
          replace eV : rV S11 = AA := (wl_eq (hg11 30 0 12 (by unfold fL; omega)) (fun j _ _ => hg11 51 0 j (by unfold fL; omega))).trans eV
          replace hgw : S11 30 0 16 = 0 := by omega
          have eW : rW S11 = BB := eWR.trans hBB.symm
          refine kw_aload_n hC dX8_below_58 rfl 0 rfl ?_
          refine kw_aload_n hC dX8_below_59 rfl 0 rfl ?_
          refine kg_30_12 hC w8 f126 dX8_below_60 rfl (by decide) (by decide) ?_
          refine kp_30_8 hC w8 f92 dX8_below_63 rfl (by decide) (by decide) ?_
          refine kw_hv hfS11 (by unfold tR; omega) (fun S12 hfS12 hv12 ho12 => ?_)
          have hRS12 := hRS.fr hfS12
          have hnS12 := hRS12.n
          have enS12 : S12 30 0 0 = S 30 0 0 := hfS12 30 0 0 (by unfold tR; omega)
          have e12_12 : S12 30 0 12 = S11 30 0 12 := ho12 30 0 12 (by omega)
          replace hvv : WV (S12 51 0) (S12 30 0 12) (S12 30 0 0) := hvv.eq (fun j _ _ => ho12 51 0 j (by omega)) e12_12 (ho12 30 0 0 (by omega))
          have e14_12 : S12 30 0 14 = S11 30 0 14 := ho12 30 0 14 (by omega)
          replace hwv : WV (S12 53 0) (S12 30 0 14) (S12 30 0 0) := hwv.eq (fun j _ _ => ho12 53 0 j (by omega)) e14_12 (ho12 30 0 0 (by omega))
          have e1612 : S12 30 0 16 = S11 30 0 16 := ho12 30 0 16 (by omega)
          replace eV : rV S12 = AA := (wl_eq (ho12 30 0 12 (by omega)) (fun j _ _ => ho12 51 0 j (by omega))).trans eV
          replace eW : rW S12 = BB := (wl_eq (ho12 30 0 14 (by omega)) (fun j _ _ => ho12 53 0 j (by omega))).trans eW
          have q8 := hv12
          replace hgw : S12 30 0 16 = 0 := by omega
          refine kw_iconst hC dX8_below_66 rfl ?_
          refine kw_istore_n (lv' := [(3, _), (0, _), (1, _), (2, _)]) hC dX8_below_67 rfl (by decide) rfl ?_
          have hL68 : ∀ (n68 : Nat) (x : Int) (W68 : wSt), Fr tR S W68 → (0 ≤ x) → (x ≤ W68 30 0 12) → (∀ j, 0 ≤ j → j < x → W68 47 0 j = W68 51 0 j) → (W68 30 0 8 = W68 30 0 12) → (rV W68 = AA) → (rW W68 = BB) → (WV (W68 51 0) (W68 30 0 12) (W68 30 0 0)) → (0 ≤ W68 30 0 12) → (W68 30 0 12 ≤ 100) → (WV (W68 53 0) (W68 30 0 14) (W68 30 0 0)) → (0 ≤ W68 30 0 14) → (W68 30 0 14 ≤ 100) → (W68 30 0 16 = 0) → W68 30 0 12 - x < (n68 : Int) → Wk E g 5 W68 68 [(0, vr g 30 0), (1, vi a), (2, vi b), (3, vi x)] [] := by
            intro n68
            induction n68 with
            | zero => intro x W68 hfW68 x0 x1 hr8 e8 eV eW hvv v0 v1 hwv w0 w1 hgw hm68; exact absurd hm68 (by omega)
            | succ n68 ih68 =>
              intro x W68 hfW68 x0 x1 hr8 e8 eV eW hvv v0 v1 hwv w0 w1 hgw hm68
              have hRW68 := hRS.fr hfW68
              have hnW68 := hRW68.n
              have enW68 : W68 30 0 0 = S 30 0 0 := hfW68 30 0 0 (by unfold tR; omega)
              refine kw_iload_n hC dX8_below_68 rfl 3 rfl ?_
              refine kw_aload_n hC dX8_below_69 rfl 0 rfl ?_
              refine kg_30_12 hC w8 f126 dX8_below_70 rfl (by decide) (by decide) ?_
              refine kw_icmp_ge (tgt := 94) hC dX8_below_73 rfl (by decide) (by omega) (by omega) ⟨fun c73 => ?_, fun c73 => ?_⟩
              · refine kw_aload_n hC dX8_below_94 rfl 0 rfl ?_
                refine kg_30_14 hC w8 f57 dX8_below_95 rfl (by decide) (by decide) ?_
                refine kw_iconst hC dX8_below_98 rfl ?_
                refine kw_isub hC dX8_below_99 rfl ?_
                refine kw_istore_n (lv' := [(3, _), (0, _), (1, _), (2, _)]) hC dX8_below_100 rfl (by decide) rfl ?_
                have hrv : WV (W68 47 0) (W68 30 0 8) (W68 30 0 0) := hvv.eq (fun j j0 j1 => hr8 j j0 (by omega)) e8 rfl
                have eRA : rR W68 = AA := (wl_eq e8 (fun j j0 j1 => hr8 j j0 (by omega))).trans eV
                have hBl : (BB.length : Int) = W68 30 0 14 := by rw [← eW]; unfold rW; rw [wl_len]; omega
                have hL101 : ∀ (n101 : Nat) (x : Int) (W101 : wSt), Fr tR S W101 → (-1 ≤ x) → (x < W101 30 0 14) → (rW W101 = BB) → (blw (rM S) (rn S) BB (x + 1).toNat (rR W101) = blw (rM S) (rn S) BB BB.length AA) → (WV (W101 47 0) (W101 30 0 8) (W101 30 0 0)) → (0 ≤ W101 30 0 8) → (W101 30 0 8 ≤ 100) → (WV (W101 53 0) (W101 30 0 14) (W101 30 0 0)) → (0 ≤ W101 30 0 14) → (W101 30 0 14 ≤ 100) → (W101 30 0 16 = 0) → x + 1 < (n101 : Int) → Wk E g 5 W101 101 [(0, vr g 30 0), (1, vi a), (2, vi b), (3, vi x)] [] := by
                  intro n101
                  induction n101 with
                  | zero => intro x W101 hfW101 x0 x1 eW hB hrv r0 r1 hwv w0 w1 hgw hm101; exact absurd hm101 (by omega)
                  | succ n101 ih101 =>
                    intro x W101 hfW101 x0 x1 eW hB hrv r0 r1 hwv w0 w1 hgw hm101
                    have hRW101 := hRS.fr hfW101
                    have hnW101 := hRW101.n
                    have enW101 : W101 30 0 0 = S 30 0 0 := hfW101 30 0 0 (by unfold tR; omega)
                    refine kw_iload_n hC dX8_below_101 rfl 3 rfl ?_
                    refine kw_if_lt (tgt := 144) hC dX8_below_102 rfl (by decide) (by omega) ⟨fun c102 => ?_, fun c102 => ?_⟩
                    · refine kw_aload_n hC dX8_below_144 rfl 0 rfl ?_
                      have hlr9 : ((rR W101).length : Int) = W101 30 0 8 := by unfold rR; rw [wl_len]; omega
                      refine kg_30_8 hC w8 f92 dX8_below_145 rfl (by decide) (by decide) ?_
                      refine kw_if_ne (tgt := 155) hC dX8_below_148 rfl (by decide) (by omega) ⟨fun c148 => ?_, fun c148 => ?_⟩
                      · refine kw_iconst hC dX8_below_155 rfl ?_
                        exact hR9.1 rfl _ _ _ _ dX8_below_156 (by first | (exfalso; omega) | exact ⟨_, rfl, hRW101, tR_tW hfW101, by unfold fBelow; rw [if_neg (by omega), rSl_tR hfW101]⟩ | exact ⟨_, rfl, hRW101, tR_tW hfW101, by have h9 := hbs.1 (by omega); unfold fBelow; rw [if_pos (by omega), rSl_tR hfW101]; simp only [hsA, hsB, h9]⟩ | exact ⟨_, rfl, hRW101, tR_tW hfW101, by have h9 := blw_e hB (by omega); unfold fBelow; rw [if_pos (by omega), rSl_tR hfW101]; simp only [hsA, hsB, h9]; first | rw [if_pos (by omega)] | rw [if_neg (by omega)]⟩ | exact ⟨_, rfl, hRW101, tR_tW hfW101, by have hA8 := hsA; have h9 := (hsh.resolve_right (fun z => by omega)).2.2; unfold fBelow; rw [if_pos (by omega), rSl_tR hfW101]; simp only [hA8, h9]⟩ | exact ⟨_, rfl, hRW101, tR_tW hfW101, by have h9 := (hsh.resolve_right (fun z => by omega)).2.2; unfold fBelow; rw [if_pos (by omega), rSl_tR hfW101]; simp only [h9]⟩)
                      · refine kw_iconst hC dX8_below_151 rfl ?_
                        refine kw_goto (tgt := 156) hC dX8_below_152 rfl (by decide) ?_
                        exact hR9.1 rfl _ _ _ _ dX8_below_156 (by first | (exfalso; omega) | exact ⟨_, rfl, hRW101, tR_tW hfW101, by unfold fBelow; rw [if_neg (by omega), rSl_tR hfW101]⟩ | exact ⟨_, rfl, hRW101, tR_tW hfW101, by have h9 := hbs.1 (by omega); unfold fBelow; rw [if_pos (by omega), rSl_tR hfW101]; simp only [hsA, hsB, h9]⟩ | exact ⟨_, rfl, hRW101, tR_tW hfW101, by have h9 := blw_e hB (by omega); unfold fBelow; rw [if_pos (by omega), rSl_tR hfW101]; simp only [hsA, hsB, h9]; first | rw [if_pos (by omega)] | rw [if_neg (by omega)]⟩ | exact ⟨_, rfl, hRW101, tR_tW hfW101, by have hA8 := hsA; have h9 := (hsh.resolve_right (fun z => by omega)).2.2; unfold fBelow; rw [if_pos (by omega), rSl_tR hfW101]; simp only [hA8, h9]⟩ | exact ⟨_, rfl, hRW101, tR_tW hfW101, by have h9 := (hsh.resolve_right (fun z => by omega)).2.2; unfold fBelow; rw [if_pos (by omega), rSl_tR hfW101]; simp only [h9]⟩)
                    · refine kw_aload_n hC dX8_below_105 rfl 0 rfl ?_
                      refine kw_aload_n hC dX8_below_106 rfl 0 rfl ?_
                      refine kg_30_13 hC w8 f60 dX8_below_107 rfl (by decide) (by decide) ?_
                      refine kw_iload_n hC dX8_below_110 rfl 3 rfl ?_
                      refine ka_53 hC dX8_below_111 rfl (by decide) (by decide) (by omega) (by omega) ?_
                      have hwx := hwv x (by omega) (by omega)
                      have hbs := blw_s (M := rM S) (n := rn S) (f := W101 53 0) (m := W101 30 0 14) (x := x) (R := rR W101) (T := blw (rM S) (rn S) BB BB.length AA) (by rw [show wl (W101 53 0) (W101 30 0 14).toNat = BB from eW]; exact hB) (by omega) (by omega)
                      rw [show wl (W101 53 0) (W101 30 0 14).toNat = BB from eW] at hbs
                      refine kw_callV hC (f_X8_behind hD (by omega) (by omega) hRW101 hrv (by omega) (by omega) hgw) gX8_below_X8_behind ⟨_, rfl⟩ rfl (by decide) (by decide) rfl ⟨rfl, rfl⟩ 1 (by decide +kernel) ⟨by decide, by decide⟩ rfl rfl (Nat.le_of_ble_eq_true rfl) dX8_below_112 rfl (kd_i (fun r16 S16 hp16 => ?_))
                      obtain ⟨hg16, hp16⟩ := hp16
                      have hfS16 : Fr tR S S16 := hfW101.trans (hg16.mono (fun k i j h => by unfold fT at h; unfold tR; omega))
                      have hRS16 := hRS.fr hfS16
                      have hnS16 := hRS16.n
                      have enS16 : S16 30 0 0 = S 30 0 0 := hfS16 30 0 0 (by unfold tR; omega)
                      have hq16 := hp16
                      rw [rM_eq (W := W101) (S := S) (hfW101 30 0 0 (by unfold tR; omega)) (fun j => hfW101 42 0 j (by unfold tR; omega)), rn_eq (W := W101) (S := S) (hfW101 30 0 0 (by unfold tR; omega))] at hq16
                      have hk9 := hq16
                      have hbr := bh_r (rM S) (rn S) (rR W101) (W101 53 0 x).toNat
                      have hrb : r16 < 0 ∨ r16 = bh (rM S) (rn S) (rR W101) (W101 53 0 x).toNat := by omega
                      have hlr : ((rR W101).length : Int) = W101 30 0 8 := by unfold rR; rw [wl_len]; omega
                      have eR9 : rR S16 = rR W101 := wl_eq (hg16 30 0 8 (by unfold fT; omega)) (fun j _ _ => hg16 47 0 j (by unfold fT; omega))
                      have e8_16 : S16 30 0 8 = W101 30 0 8 := hg16 30 0 8 (by unfold fT; omega)
                      replace hrv : WV (S16 47 0) (S16 30 0 8) (S16 30 0 0) := hrv.eq (fun j _ _ => hg16 47 0 j (by unfold fT; omega)) e8_16 (hg16 30 0 0 (by unfold fT; omega))
                      have e14_16 : S16 30 0 14 = W101 30 0 14 := hg16 30 0 14 (by unfold fT; omega)
                      replace hwv : WV (S16 53 0) (S16 30 0 14) (S16 30 0 0) := hwv.eq (fun j _ _ => hg16 53 0 j (by unfold fT; omega)) e14_16 (hg16 30 0 0 (by unfold fT; omega))
                      replace eW : rW S16 = BB := (wl_eq (hg16 30 0 14 (by unfold fT; omega)) (fun j _ _ => hg16 53 0 j (by unfold fT; omega))).trans eW
                      refine kw_istore (lv' := [(4, _), (0, _), (1, _), (2, _), (3, _)]) hC dX8_below_115 rfl (by decide) rfl ?_
                      refine kw_aload_n hC dX8_below_117 rfl 1 rfl ?_
                      refine kg_30_16 hC w8 f81 dX8_below_118 rfl (by decide) (by decide) ?_
                      refine kw_if_eq (tgt := 127) hC dX8_below_121 rfl (by decide) (by omega) ⟨fun c121 => ?_, fun c121 => ?_⟩
                      · have hgw : S16 30 0 16 = 0 := by omega
                        refine kw_iload hC dX8_below_127 rfl 0 rfl ?_
                        refine kw_if_lt (tgt := 138) hC dX8_below_129 rfl (by decide) (by omega) ⟨fun c129 => ?_, fun c129 => ?_⟩
                        · refine kw_iinc (lv' := [(3, _), (4, _), (0, _), (1, _), (2, _)]) hC dX8_below_138 rfl 4 rfl (by decide) rfl ?_
                          refine kw_goto (tgt := 101) hC dX8_below_141 rfl (by decide) ?_
                          refine kw_lv [2, 3, 4, 0] rfl ?_
                          exact ih101 (x + -1) S16 hfS16 (by omega) (by omega) eW (by rw [show x + -1 = x - 1 by omega]; first | (rw [eR1]; exact hbs.2.2 (by omega)) | (rw [eR9]; exact hbs.2.1 (by omega))) hrv (by omega) (by omega) hwv (by omega) (by omega) hgw (by omega)
                        · refine kw_aload_n hC dX8_below_132 rfl 1 rfl ?_
                          refine kw_iload hC dX8_below_133 rfl 0 rfl ?_
                          refine kw_callV hC (d_X8_goesFromR hD (by omega) (by omega) (by omega)) gX8_below_X8_goesFromR ⟨_, rfl⟩ rfl (by decide) (by decide) rfl ⟨rfl, rfl⟩ 1 (by decide +kernel) ⟨by decide, by decide⟩ rfl rfl (Nat.le_of_ble_eq_true rfl) dX8_below_135 rfl (kd_v (fun S19 hp19 => ?_))
                          obtain ⟨hg19, hp19⟩ := hp19
                          have hfS19 : Fr tR S S19 := hfS16.trans (hg19.mono (fun k i j h => by unfold fG at h; unfold tR; omega))
                          have hRS19 := hRS.fr hfS19
                          have hnS19 := hRS19.n
                          have enS19 : S19 30 0 0 = S 30 0 0 := hfS19 30 0 0 (by unfold tR; omega)
                          obtain ⟨z8, z1, z2⟩ := hp19
                          have eR1 : rR S19 = (rR S16).eraseIdx _ := (wl_eq z8 (fun _ _ _ => rfl)).trans (wl_del (by omega) (by omega) z1 z2)
                          rw [eR9, hrb.resolve_left (by omega)] at eR1
                          replace hrv : WV (S19 47 0) (S19 30 0 8) (S19 30 0 0) := (z8 ▸ WV.del hrv z1 z2 (by omega)).eq (fun _ _ _ => rfl) rfl (hg19 30 0 0 (by unfold fG; omega))
                          have e14_19 : S19 30 0 14 = S16 30 0 14 := hg19 30 0 14 (by unfold fG; omega)
                          replace hwv : WV (S19 53 0) (S19 30 0 14) (S19 30 0 0) := hwv.eq (fun j _ _ => hg19 53 0 j (by unfold fG; omega)) e14_19 (hg19 30 0 0 (by unfold fG; omega))
                          have e1619 : S19 30 0 16 = S16 30 0 16 := hg19 30 0 16 (by unfold fG; omega)
                          replace eW : rW S19 = BB := (wl_eq (hg19 30 0 14 (by unfold fG; omega)) (fun j _ _ => hg19 53 0 j (by unfold fG; omega))).trans eW
                          replace hgw : S19 30 0 16 = 0 := by omega
                          refine kw_iinc (lv' := [(3, _), (4, _), (0, _), (1, _), (2, _)]) hC dX8_below_138 rfl 4 rfl (by decide) rfl ?_
                          refine kw_goto (tgt := 101) hC dX8_below_141 rfl (by decide) ?_
                          refine kw_lv [2, 3, 4, 0] rfl ?_
                          exact ih101 (x + -1) S19 hfS19 (by omega) (by omega) eW (by rw [show x + -1 = x - 1 by omega]; first | (rw [eR1]; exact hbs.2.2 (by omega)) | (rw [eR9]; exact hbs.2.1 (by omega))) hrv (by omega) (by omega) hwv (by omega) (by omega) hgw (by omega)
                      · refine kw_bipush hC dX8_below_124 rfl (by decide) ?_
                        exact hR9.1 rfl _ _ _ _ dX8_below_126 (by first | (exfalso; omega) | exact ⟨_, rfl, hRS16, tR_tW hfS16, by unfold fBelow; rw [if_neg (by omega), rSl_tR hfS16]⟩ | exact ⟨_, rfl, hRS16, tR_tW hfS16, by have h9 := hbs.1 (by omega); unfold fBelow; rw [if_pos (by omega), rSl_tR hfS16]; simp only [hsA, hsB, h9]⟩ | exact ⟨_, rfl, hRS16, tR_tW hfS16, by have h9 := blw_e hB (by omega); unfold fBelow; rw [if_pos (by omega), rSl_tR hfS16]; simp only [hsA, hsB, h9]; first | rw [if_pos (by omega)] | rw [if_neg (by omega)]⟩ | exact ⟨_, rfl, hRS16, tR_tW hfS16, by have hA8 := hsA; have h9 := (hsh.resolve_right (fun z => by omega)).2.2; unfold fBelow; rw [if_pos (by omega), rSl_tR hfS16]; simp only [hA8, h9]⟩ | exact ⟨_, rfl, hRS16, tR_tW hfS16, by have h9 := (hsh.resolve_right (fun z => by omega)).2.2; unfold fBelow; rw [if_pos (by omega), rSl_tR hfS16]; simp only [h9]⟩)
                refine kw_lv [1, 2, 3, 0] rfl ?_
                exact hL101 101 _ W68 hfW68 (by omega) (by omega) eW (by rw [eRA]; congr 1; omega) hrv (by omega) (by omega) hwv (by omega) (by omega) hgw (by omega)
              · refine kw_aload_n hC dX8_below_76 rfl 0 rfl ?_
                refine kg_30_7 hC w8 f95 dX8_below_77 rfl (by decide) (by decide) ?_
                refine kw_iload_n hC dX8_below_80 rfl 3 rfl ?_
                refine kw_aload_n hC dX8_below_81 rfl 0 rfl ?_
                refine kg_30_11 hC w8 f129 dX8_below_82 rfl (by decide) (by decide) ?_
                refine kw_iload_n hC dX8_below_85 rfl 3 rfl ?_
                refine ka_51 hC dX8_below_86 rfl (by decide) (by decide) (by omega) (by omega) ?_
                have hvx := hvv x (by omega) (by omega)
                refine ks_47 hC dX8_below_87 rfl (by decide) (by decide) (by omega) (by omega) ?_
                refine kw_hv hfW68 (by unfold tR; omega) (fun S20 hfS20 hv20 ho20 => ?_)
                have hRS20 := hRS.fr hfS20
                have hnS20 := hRS20.n
                have enS20 : S20 30 0 0 = S 30 0 0 := hfS20 30 0 0 (by unfold tR; omega)
                have e12_20 : S20 30 0 12 = W68 30 0 12 := ho20 30 0 12 (by omega)
                replace hvv : WV (S20 51 0) (S20 30 0 12) (S20 30 0 0) := hvv.eq (fun j _ _ => ho20 51 0 j (by omega)) e12_20 (ho20 30 0 0 (by omega))
                have e14_20 : S20 30 0 14 = W68 30 0 14 := ho20 30 0 14 (by omega)
                replace hwv : WV (S20 53 0) (S20 30 0 14) (S20 30 0 0) := hwv.eq (fun j _ _ => ho20 53 0 j (by omega)) e14_20 (ho20 30 0 0 (by omega))
                have e8_20 : S20 30 0 8 = W68 30 0 8 := ho20 30 0 8 (by omega)
                have e1620 : S20 30 0 16 = W68 30 0 16 := ho20 30 0 16 (by omega)
                replace eV : rV S20 = AA := (wl_eq (ho20 30 0 12 (by omega)) (fun j _ _ => ho20 51 0 j (by omega))).trans eV
                replace eW : rW S20 = BB := (wl_eq (ho20 30 0 14 (by omega)) (fun j _ _ => ho20 53 0 j (by omega))).trans eW
                replace hgw : S20 30 0 16 = 0 := by omega
                have h51 : ∀ j, S20 51 0 j = W68 51 0 j := fun j => ho20 51 0 j (by omega)
                refine kw_iinc (lv' := [(3, _), (0, _), (1, _), (2, _)]) hC dX8_below_88 rfl 3 rfl (by decide) rfl ?_
                refine kw_goto (tgt := 68) hC dX8_below_91 rfl (by decide) ?_
                refine kw_lv [1, 2, 3, 0] rfl ?_
                exact ih68 (x + 1) S20 hfS20 (by omega) (by omega) (fun j j0 j1 => by rw [h51]; rcases Decidable.em (j = x) with e | e; exact (by rw [e]; exact hv20); exact (by rw [ho20 47 0 j (by omega)]; exact hr8 j j0 (by omega))) (by omega) eV eW hvv (by omega) (by omega) hwv (by omega) (by omega) hgw (by omega)
          refine kw_lv [1, 2, 3, 0] rfl ?_
          exact hL68 101 0 S12 hfS12 (by omega) (by omega) (fun j _ _ => by omega) (by omega) eV eW hvv (by omega) (by omega) hwv (by omega) (by omega) hgw (by omega)
        · refine kw_bipush hC dX8_below_51 rfl (by decide) ?_
          exact hR9.1 rfl _ _ _ _ dX8_below_53 (by first | (exfalso; omega) | exact ⟨_, rfl, hRS9, tR_tW hfS9, by unfold fBelow; rw [if_neg (by omega), rSl_tR hfS9]⟩ | exact ⟨_, rfl, hRS9, tR_tW hfS9, by have h9 := hbs.1 (by omega); unfold fBelow; rw [if_pos (by omega), rSl_tR hfS9]; simp only [hsA, hsB, h9]⟩ | exact ⟨_, rfl, hRS9, tR_tW hfS9, by have h9 := blw_e hB (by omega); unfold fBelow; rw [if_pos (by omega), rSl_tR hfS9]; simp only [hsA, hsB, h9]; first | rw [if_pos (by omega)] | rw [if_neg (by omega)]⟩ | exact ⟨_, rfl, hRS9, tR_tW hfS9, by have hA8 := hsA; have h9 := (hsh.resolve_right (fun z => by omega)).2.2; unfold fBelow; rw [if_pos (by omega), rSl_tR hfS9]; simp only [hA8, h9]⟩ | exact ⟨_, rfl, hRS9, tR_tW hfS9, by have h9 := (hsh.resolve_right (fun z => by omega)).2.2; unfold fBelow; rw [if_pos (by omega), rSl_tR hfS9]; simp only [h9]⟩)
      · refine kw_bipush hC dX8_below_28 rfl (by decide) ?_
        exact hR9.1 rfl _ _ _ _ dX8_below_30 (by first | (exfalso; omega) | exact ⟨_, rfl, hRS4, tR_tW hfS4, by unfold fBelow; rw [if_neg (by omega), rSl_tR hfS4]⟩ | exact ⟨_, rfl, hRS4, tR_tW hfS4, by have h9 := hbs.1 (by omega); unfold fBelow; rw [if_pos (by omega), rSl_tR hfS4]; simp only [hsA, hsB, h9]⟩ | exact ⟨_, rfl, hRS4, tR_tW hfS4, by have h9 := blw_e hB (by omega); unfold fBelow; rw [if_pos (by omega), rSl_tR hfS4]; simp only [hsA, hsB, h9]; first | rw [if_pos (by omega)] | rw [if_neg (by omega)]⟩ | exact ⟨_, rfl, hRS4, tR_tW hfS4, by have hA8 := hsA; have h9 := (hsh.resolve_right (fun z => by omega)).2.2; unfold fBelow; rw [if_pos (by omega), rSl_tR hfS4]; simp only [hA8, h9]⟩ | exact ⟨_, rfl, hRS4, tR_tW hfS4, by have h9 := (hsh.resolve_right (fun z => by omega)).2.2; unfold fBelow; rw [if_pos (by omega), rSl_tR hfS4]; simp only [h9]⟩)
    · refine kw_iconst hC dX8_below_14 rfl ?_
      exact hR9.1 rfl _ _ _ _ dX8_below_15 (by first | (exfalso; omega) | exact ⟨_, rfl, hRS, tR_tW hfS, by unfold fBelow; rw [if_neg (by omega), rSl_tR hfS]⟩ | exact ⟨_, rfl, hRS, tR_tW hfS, by have h9 := hbs.1 (by omega); unfold fBelow; rw [if_pos (by omega), rSl_tR hfS]; simp only [hsA, hsB, h9]⟩ | exact ⟨_, rfl, hRS, tR_tW hfS, by have h9 := blw_e hB (by omega); unfold fBelow; rw [if_pos (by omega), rSl_tR hfS]; simp only [hsA, hsB, h9]; first | rw [if_pos (by omega)] | rw [if_neg (by omega)]⟩ | exact ⟨_, rfl, hRS, tR_tW hfS, by have hA8 := hsA; have h9 := (hsh.resolve_right (fun z => by omega)).2.2; unfold fBelow; rw [if_pos (by omega), rSl_tR hfS]; simp only [hA8, h9]⟩ | exact ⟨_, rfl, hRS, tR_tW hfS, by have h9 := (hsh.resolve_right (fun z => by omega)).2.2; unfold fBelow; rw [if_pos (by omega), rSl_tR hfS]; simp only [h9]⟩)

set_option maxHeartbeats 4000000 in
set_option maxRecDepth 100000 in
theorem f_X8_findWay {g : wG} (hD : wD g) {S : wSt} {a b : Int} (a0 : 0 ≤ a) (a1 : a < 8) (b0 : 0 ≤ b) (b1 : b < 8) (hRS : RI S) (l : Launch) : Kt l yX8_findWay wsX8_findWay ({ frames := 5, cells := 0, slots := 0, locals := 114 } : Room) g S [vr g 30 0, vi a, vi b] (pI (fun r S' => Fr fW S S' ∧ ((r = -3 ∧ ((rSl S a).length : Int) + (rSl S b).length > 100) ∨ (((rSl S a).length : Int) + (rSl S b).length ≤ 100 ∧ ((r = -4 ∧ fwP (rM S) (rn S) ((rSl S a).reverse ++ rSl S b) = none) ∨ (r = 0 ∧ fwP (rM S) (rn S) ((rSl S a).reverse ++ rSl S b) = some (rW S') ∧ 0 ≤ S' 30 0 14 ∧ S' 30 0 14 ≤ 100 ∧ WV (S' 53 0) (S' 30 0 14) (S 30 0 0))))))) := by
  refine Kt.of (cc := cX8_findWay) (nL := 3) (ret := (some .int)) (own := RX8) rfl hD (by decide) rfl (Nat.le_of_ble_eq_true rfl) ⟨rfl, rfl⟩ ?_
  intro E hC hR9
  have f43 : Cond.fieldLink RX8 43 "MirrorBenchModel" "lengths" "[I" ∈ wsX8_findWay := by decide +kernel
  have w8 : ∀ w ∈ wsX80, w ∈ wsX8_findWay := by decide +kernel
  show Wk E g 3 S 0 [(0, vr g 30 0), (1, vi a), (2, vi b)] []
  have hfS : Fr fW S S := Fr.rfl _ S
  have hRS := hRS.fr (hfS.mono (fun k i j h => by unfold fW at h; unfold tR; omega))
  have hnS := hRS.n
  have enS : S 30 0 0 = S 30 0 0 := hfS 30 0 0 (by unfold fW; omega)
  have eNS : rn S = rn S := rn_eq enS
  have eMS : rM S = rM S := rM_eq enS (fun j => hfS 42 0 j (by unfold fW; omega))
  have hla := hRS.ln a a0 a1
  have hlb := hRS.ln b b0 b1
  have hLa := rSl_len hRS (a := a) (by omega) (by omega)
  have hLb := rSl_len hRS (a := b) (by omega) (by omega)
  refine kw_aload_n hC dX8_findWay_0 rfl 0 rfl ?_
  refine kg_30_6 hC w8 f43 dX8_findWay_1 rfl (by decide) (by decide) ?_
  refine kw_iload_n hC dX8_findWay_4 rfl 1 rfl ?_
  refine ka_46 hC dX8_findWay_5 rfl (by decide) (by decide) (by omega) (by omega) ?_
  refine kw_aload_n hC dX8_findWay_6 rfl 0 rfl ?_
  refine kg_30_6 hC w8 f43 dX8_findWay_7 rfl (by decide) (by decide) ?_
  refine kw_iload_n hC dX8_findWay_10 rfl 2 rfl ?_
  refine ka_46 hC dX8_findWay_11 rfl (by decide) (by decide) (by omega) (by omega) ?_
  refine kw_iadd hC dX8_findWay_12 rfl ?_
  refine kw_bipush hC dX8_findWay_13 rfl (by decide) ?_
  refine kw_icmp_le (tgt := 21) hC dX8_findWay_15 rfl (by decide) (by omega) (by omega) ⟨fun c15 => ?_, fun c15 => ?_⟩
  · refine kw_aload_n hC dX8_findWay_21 rfl 0 rfl ?_
    refine kw_iload_n hC dX8_findWay_22 rfl 1 rfl ?_
    refine kw_callV hC (d_X8_loadBack hD (by omega) (by omega) hRS) gX8_findWay_X8_loadBack ⟨_, rfl⟩ rfl (by decide) (by decide) rfl ⟨rfl, rfl⟩ 1 (by decide +kernel) ⟨by decide, by decide⟩ rfl rfl (Nat.le_of_ble_eq_true rfl) dX8_findWay_23 rfl (kd_v (fun S2 hp2 => ?_))
    obtain ⟨hg2, hp2⟩ := hp2
    have hfS2 : Fr fW S S2 := hfS.trans (hg2.mono (fun k i j h => by unfold fL at h; unfold fW; omega))
    have hRS2 := hRS.fr (hfS2.mono (fun k i j h => by unfold fW at h; unfold tR; omega))
    have hnS2 := hRS2.n
    have enS2 : S2 30 0 0 = S 30 0 0 := hfS2 30 0 0 (by unfold fW; omega)
    have eNS2 : rn S2 = rn S := rn_eq enS2
    have eMS2 : rM S2 = rM S := rM_eq enS2 (fun j => hfS2 42 0 j (by unfold fW; omega))
    obtain ⟨q14, qW⟩ := hp2
    have hwv : WV (S2 53 0) (S2 30 0 14) (S2 30 0 0) := lbWV hRS (by omega) (by omega) q14 qW (by omega)
    have eW1 : rW S2 = (rSl S a).reverse := lb_rW (by omega) (by omega) q14 qW
    refine kw_aload_n hC dX8_findWay_26 rfl 0 rfl ?_
    refine kw_iload_n hC dX8_findWay_27 rfl 2 rfl ?_
    refine kw_callV hC (d_X8_loadMore hD (by omega) (by omega) hRS2 (by omega) (by rw [hfS2 46 0 b (by unfold fW; omega)]; omega)) gX8_findWay_X8_loadMore ⟨_, rfl⟩ rfl (by decide) (by decide) rfl ⟨rfl, rfl⟩ 1 (by decide +kernel) ⟨by decide, by decide⟩ rfl rfl (Nat.le_of_ble_eq_true rfl) dX8_findWay_28 rfl (kd_v (fun S3 hp3 => ?_))
    obtain ⟨hg3, hp3⟩ := hp3
    have hfS3 : Fr fW S S3 := hfS2.trans (hg3.mono (fun k i j h => by unfold fL at h; unfold fW; omega))
    have hRS3 := hRS.fr (hfS3.mono (fun k i j h => by unfold fW at h; unfold tR; omega))
    have hnS3 := hRS3.n
    have enS3 : S3 30 0 0 = S 30 0 0 := hfS3 30 0 0 (by unfold fW; omega)
    have eNS3 : rn S3 = rn S := rn_eq enS3
    have eMS3 : rM S3 = rM S := rM_eq enS3 (fun j => hfS3 42 0 j (by unfold fW; omega))
    obtain ⟨q15, qX, qY⟩ := hp3
    have hlb2 : S2 46 0 b = S 46 0 b := hfS2 46 0 b (by unfold fW; omega)
    have eW2 : rW S3 = (rSl S a).reverse ++ rSl S b := (lm_rW hRS2 (by omega) (by omega) (by omega) q15 qX qY).trans (by rw [eW1, rSl_fr (fun j => hfS2 45 0 j (by unfold fW; omega)) (fun j => hfS2 46 0 j (by unfold fW; omega))])
    have hwv : WV (S3 53 0) (S3 30 0 14) (S3 30 0 0) := lmWV hRS2 hwv (by omega) (by omega) q15 qX qY (by omega)
    refine kw_aload_n hC dX8_findWay_31 rfl 0 rfl ?_
    refine kw_callV hC (f_X8_formOfW hD hRS3 hwv (by omega) (by omega)) gX8_findWay_X8_formOfW ⟨_, rfl⟩ rfl (by decide) (by decide) rfl ⟨rfl, rfl⟩ 0 (by decide +kernel) ⟨by decide, by decide⟩ rfl rfl (Nat.le_of_ble_eq_true rfl) dX8_findWay_32 rfl (kd_i (fun r4 S4 hp4 => ?_))
    obtain ⟨hg4, hp4⟩ := hp4
    have hfS4 : Fr fW S S4 := hfS3.trans hg4
    have hRS4 := hRS.fr (hfS4.mono (fun k i j h => by unfold fW at h; unfold tR; omega))
    have hnS4 := hRS4.n
    have enS4 : S4 30 0 0 = S 30 0 0 := hfS4 30 0 0 (by unfold fW; omega)
    have eNS4 : rn S4 = rn S := rn_eq enS4
    have eMS4 : rM S4 = rM S := rM_eq enS4 (fun j => hfS4 42 0 j (by unfold fW; omega))
    obtain ⟨⟨w0, w1⟩, hwv, hq4⟩ := hp4
    rw [eMS3, eNS3, eW2] at hq4
    have hq9 := hq4
    refine kw_if_eq (tgt := 42) hC dX8_findWay_35 rfl (by decide) (by omega) ⟨fun c35 => ?_, fun c35 => ?_⟩
    · refine kw_bipush hC dX8_findWay_42 rfl (by decide) ?_
      exact hR9.1 rfl _ _ _ _ dX8_findWay_44 ⟨_, rfl, hfS4, Or.inr ⟨by omega, by first | exact Or.inl ⟨rfl, (hq9.resolve_right (fun z => by omega)).2.2⟩ | exact Or.inr ⟨rfl, (hq9.resolve_left (fun z => by omega)).2.2, by omega, by omega, hwv.eq (fun _ _ _ => rfl) rfl (by omega)⟩⟩⟩
    · refine kw_iconst hC dX8_findWay_38 rfl ?_
      refine kw_goto (tgt := 44) hC dX8_findWay_39 rfl (by decide) ?_
      exact hR9.1 rfl _ _ _ _ dX8_findWay_44 ⟨_, rfl, hfS4, Or.inr ⟨by omega, by first | exact Or.inl ⟨rfl, (hq9.resolve_right (fun z => by omega)).2.2⟩ | exact Or.inr ⟨rfl, (hq9.resolve_left (fun z => by omega)).2.2, by omega, by omega, hwv.eq (fun _ _ _ => rfl) rfl (by omega)⟩⟩⟩
  · refine kw_bipush hC dX8_findWay_18 rfl (by decide) ?_
    exact hR9.1 rfl _ _ _ _ dX8_findWay_20 ⟨_, rfl, hfS, Or.inl ⟨rfl, by omega⟩⟩

set_option maxHeartbeats 4000000 in
set_option maxRecDepth 100000 in
theorem f_X8_way {g : wG} (hD : wD g) {S : wSt} {a b c : Int} (ha : -2147483648 ≤ a ∧ a ≤ 2147483647) (hb : -2147483648 ≤ b ∧ b ≤ 2147483647) (hc : -2147483648 ≤ c ∧ c ≤ 2147483647) (hRS : RI S) (l : Launch) : Kt l yX8_way wsX8_way ({ frames := 6, cells := 0, slots := 0, locals := 136 } : Room) g S [vr g 30 0, vi a, vi b, vi c] (pI (fun r S' => RI S' ∧ Fr tW S S' ∧ fWay (rM S) (rn S) a b c (rSl S) = (r, rSl S'))) := by
  refine Kt.of (cc := cX8_way) (nL := 5) (ret := (some .int)) (own := RX8) rfl hD (by decide) rfl (Nat.le_of_ble_eq_true rfl) ⟨rfl, rfl⟩ ?_
  intro E hC hR9
  show Wk E g 5 S 0 [(0, vr g 30 0), (1, vi a), (2, vi b), (3, vi c)] []
  have hfS : Fr tR S S := Fr.rfl _ S
  have hRS := hRS.fr hfS
  have hnS := hRS.n
  have enS : S 30 0 0 = S 30 0 0 := hfS 30 0 0 (by unfold tR; omega)
  have hnS := hRS.n
  have hnn : (rn S : Int) = S 30 0 0 := by unfold rn; omega
  refine kw_iload_n hC dX8_way_0 rfl 1 rfl ?_
  refine kw_callS hC (d_X8_isSlot hD (by omega)) gX8_way_X8_isSlot rfl ⟨rfl, rfl⟩ 1 (by decide +kernel) ⟨by decide, by decide⟩ rfl rfl (Nat.le_of_ble_eq_true rfl) dX8_way_1 rfl (kd_ie ?_)
  refine kw_ifeq_b (tgt := 21) hC dX8_way_4 rfl (by decide) ⟨fun c4 => ?_, fun c4 => ?_⟩
  · refine kw_iconst hC dX8_way_21 rfl ?_
    exact hR9.1 rfl _ _ _ _ dX8_way_22 (by first | (exfalso; omega) | exact ⟨_, rfl, hRS, tR_tW hfS, by unfold fWay; rw [if_neg (by omega), rSl_tR hfS]⟩ | exact ⟨_, rfl, hRS, tR_tW hfS, by rcases hq9 with h9 | ⟨h8, h9⟩; exact (by unfold fWay; rw [if_pos (by omega), if_pos h9.2, rSl_tR hfS, h9.1]); exact (by have h7 := h9.resolve_right (fun z => by omega); unfold fWay; rw [if_pos (by omega), if_neg (by omega), rSl_tR hfS, h7.2, h7.1]; rfl)⟩ | exact ⟨_, rfl, hp9.2.1, (tR_tW hfS).trans (fV_tW hp9.2.2.1), by have h9 := hq9.resolve_left (fun z => by omega); have h8 := h9.2.resolve_left (fun z => by omega); unfold fWay; rw [if_pos (by omega), if_neg (by omega), h8.2.1]; exact st_f hRS (by omega) (by omega) (by omega) (by omega) hp9 (rSl_tR hfS) rfl⟩)
  · refine kw_iload_n hC dX8_way_7 rfl 2 rfl ?_
    refine kw_callS hC (d_X8_isSlot hD (by omega)) gX8_way_X8_isSlot rfl ⟨rfl, rfl⟩ 1 (by decide +kernel) ⟨by decide, by decide⟩ rfl rfl (Nat.le_of_ble_eq_true rfl) dX8_way_8 rfl (kd_ie ?_)
    refine kw_ifeq_b (tgt := 21) hC dX8_way_11 rfl (by decide) ⟨fun c11 => ?_, fun c11 => ?_⟩
    · refine kw_iconst hC dX8_way_21 rfl ?_
      exact hR9.1 rfl _ _ _ _ dX8_way_22 (by first | (exfalso; omega) | exact ⟨_, rfl, hRS, tR_tW hfS, by unfold fWay; rw [if_neg (by omega), rSl_tR hfS]⟩ | exact ⟨_, rfl, hRS, tR_tW hfS, by rcases hq9 with h9 | ⟨h8, h9⟩; exact (by unfold fWay; rw [if_pos (by omega), if_pos h9.2, rSl_tR hfS, h9.1]); exact (by have h7 := h9.resolve_right (fun z => by omega); unfold fWay; rw [if_pos (by omega), if_neg (by omega), rSl_tR hfS, h7.2, h7.1]; rfl)⟩ | exact ⟨_, rfl, hp9.2.1, (tR_tW hfS).trans (fV_tW hp9.2.2.1), by have h9 := hq9.resolve_left (fun z => by omega); have h8 := h9.2.resolve_left (fun z => by omega); unfold fWay; rw [if_pos (by omega), if_neg (by omega), h8.2.1]; exact st_f hRS (by omega) (by omega) (by omega) (by omega) hp9 (rSl_tR hfS) rfl⟩)
    · refine kw_iload_n hC dX8_way_14 rfl 3 rfl ?_
      refine kw_callS hC (d_X8_isSlot hD (by omega)) gX8_way_X8_isSlot rfl ⟨rfl, rfl⟩ 1 (by decide +kernel) ⟨by decide, by decide⟩ rfl rfl (Nat.le_of_ble_eq_true rfl) dX8_way_15 rfl (kd_ie ?_)
      refine kw_ifne_b (tgt := 23) hC dX8_way_18 rfl (by decide) ⟨fun c18 => ?_, fun c18 => ?_⟩
      · refine kw_aload_n hC dX8_way_23 rfl 0 rfl ?_
        refine kw_iload_n hC dX8_way_24 rfl 1 rfl ?_
        refine kw_iload_n hC dX8_way_25 rfl 2 rfl ?_
        refine kw_callV hC (f_X8_findWay hD (by omega) (by omega) (by omega) (by omega) hRS) gX8_way_X8_findWay ⟨_, rfl⟩ rfl (by decide) (by decide) rfl ⟨rfl, rfl⟩ 2 (by decide +kernel) ⟨by decide, by decide⟩ rfl rfl (Nat.le_of_ble_eq_true rfl) dX8_way_26 rfl (kd_i (fun r4 S4 hp4 => ?_))
        obtain ⟨hg4, hp4⟩ := hp4
        have hfS4 : Fr tR S S4 := hfS.trans (hg4.mono (fun k i j h => by unfold fW at h; unfold tR; omega))
        have hRS4 := hRS.fr hfS4
        have hnS4 := hRS4.n
        have enS4 : S4 30 0 0 = S 30 0 0 := hfS4 30 0 0 (by unfold tR; omega)
        have hq9 := hp4
        refine kw_istore (lv' := [(4, _), (0, _), (1, _), (2, _), (3, _)]) hC dX8_way_29 rfl (by decide) rfl ?_
        refine kw_iload hC dX8_way_31 rfl 0 rfl ?_
        refine kw_if_ge (tgt := 41) hC dX8_way_33 rfl (by decide) (by omega) ⟨fun c33 => ?_, fun c33 => ?_⟩
        · refine kw_aload_n hC dX8_way_41 rfl 1 rfl ?_
          refine kw_iload_n hC dX8_way_42 rfl 4 rfl ?_
          have hq7 := (hq9.resolve_left (fun z => by omega)).2.resolve_left (fun z => by omega)
          have hwv : WV (S4 53 0) (S4 30 0 14) (S4 30 0 0) := hq7.2.2.2.2.eq (fun _ _ _ => rfl) rfl (by omega)
          refine kw_callV hC (d_X8_store hD (by omega) (by omega) hRS4 hwv (by omega) (by omega)) gX8_way_X8_store ⟨_, rfl⟩ rfl (by decide) (by decide) rfl ⟨rfl, rfl⟩ 1 (by decide +kernel) ⟨by decide, by decide⟩ rfl rfl (Nat.le_of_ble_eq_true rfl) dX8_way_43 rfl (kd_i (fun r9 Sz hp9 => ?_))
          exact hR9.1 rfl _ _ _ _ dX8_way_46 (by first | (exfalso; omega) | exact ⟨_, rfl, hRS4, tR_tW hfS4, by unfold fWay; rw [if_neg (by omega), rSl_tR hfS4]⟩ | exact ⟨_, rfl, hRS4, tR_tW hfS4, by rcases hq9 with h9 | ⟨h8, h9⟩; exact (by unfold fWay; rw [if_pos (by omega), if_pos h9.2, rSl_tR hfS4, h9.1]); exact (by have h7 := h9.resolve_right (fun z => by omega); unfold fWay; rw [if_pos (by omega), if_neg (by omega), rSl_tR hfS4, h7.2, h7.1]; rfl)⟩ | exact ⟨_, rfl, hp9.2.1, (tR_tW hfS4).trans (fV_tW hp9.2.2.1), by have h9 := hq9.resolve_left (fun z => by omega); have h8 := h9.2.resolve_left (fun z => by omega); unfold fWay; rw [if_pos (by omega), if_neg (by omega), h8.2.1]; exact st_f hRS4 (by omega) (by omega) (by omega) (by omega) hp9 (rSl_tR hfS4) rfl⟩)
        · refine kw_iload hC dX8_way_36 rfl 0 rfl ?_
          refine kw_goto (tgt := 46) hC dX8_way_38 rfl (by decide) ?_
          exact hR9.1 rfl _ _ _ _ dX8_way_46 (by first | (exfalso; omega) | exact ⟨_, rfl, hRS4, tR_tW hfS4, by unfold fWay; rw [if_neg (by omega), rSl_tR hfS4]⟩ | exact ⟨_, rfl, hRS4, tR_tW hfS4, by rcases hq9 with h9 | ⟨h8, h9⟩; exact (by unfold fWay; rw [if_pos (by omega), if_pos h9.2, rSl_tR hfS4, h9.1]); exact (by have h7 := h9.resolve_right (fun z => by omega); unfold fWay; rw [if_pos (by omega), if_neg (by omega), rSl_tR hfS4, h7.2, h7.1]; rfl)⟩ | exact ⟨_, rfl, hp9.2.1, (tR_tW hfS4).trans (fV_tW hp9.2.2.1), by have h9 := hq9.resolve_left (fun z => by omega); have h8 := h9.2.resolve_left (fun z => by omega); unfold fWay; rw [if_pos (by omega), if_neg (by omega), h8.2.1]; exact st_f hRS4 (by omega) (by omega) (by omega) (by omega) hp9 (rSl_tR hfS4) rfl⟩)
      · refine kw_iconst hC dX8_way_21 rfl ?_
        exact hR9.1 rfl _ _ _ _ dX8_way_22 (by first | (exfalso; omega) | exact ⟨_, rfl, hRS, tR_tW hfS, by unfold fWay; rw [if_neg (by omega), rSl_tR hfS]⟩ | exact ⟨_, rfl, hRS, tR_tW hfS, by rcases hq9 with h9 | ⟨h8, h9⟩; exact (by unfold fWay; rw [if_pos (by omega), if_pos h9.2, rSl_tR hfS, h9.1]); exact (by have h7 := h9.resolve_right (fun z => by omega); unfold fWay; rw [if_pos (by omega), if_neg (by omega), rSl_tR hfS, h7.2, h7.1]; rfl)⟩ | exact ⟨_, rfl, hp9.2.1, (tR_tW hfS).trans (fV_tW hp9.2.2.1), by have h9 := hq9.resolve_left (fun z => by omega); have h8 := h9.2.resolve_left (fun z => by omega); unfold fWay; rw [if_pos (by omega), if_neg (by omega), h8.2.1]; exact st_f hRS (by omega) (by omega) (by omega) (by omega) hp9 (rSl_tR hfS) rfl⟩)
end
section
/-! the parts of a word -/
def pbt (K : Nat → Int) (n : Nat) : Nat → Int → Int
  | 0, t => t
  | f + 1, t => pbt K n f (if K (n - (f + 1)) = 0 then i_or t (i_shl 1 ((n - (f + 1) : Nat) : Int)) else t)
def ptB (K : Nat → Int) (n : Nat) (b : Int) : Int := if b = -1 then pbt K n n 0 else b
theorem pbt_s {K : Nat → Int} {n : Nat} {i z T : Int} (h : pbt K n (n - i.toNat) z = T) (i0 : 0 ≤ i) (i1 : i.toNat < n) : pbt K n (n - (i + 1).toNat) (if K i.toNat = 0 then i_or z (i_shl 1 i) else z) = T := by
  rw [show n - i.toNat = (n - (i.toNat + 1)) + 1 by omega, pbt, show n - (n - (i.toNat + 1) + 1) = i.toNat by omega, Int.toNat_of_nonneg i0] at h
  rw [show (i + 1).toNat = i.toNat + 1 by omega]
  exact h
theorem pbt_e {K : Nat → Int} {n : Nat} {i z T : Int} (h : pbt K n (n - i.toNat) z = T) (i1 : n ≤ i.toNat) : T = z := by
  rw [show n - i.toNat = 0 by omega, pbt] at h
  exact h.symm
theorem ldn_nilR (M : Nat → Nat → Int) (n : Nat) (J : Nat → Bool) : ∀ f, ldn M n J [] f = (n, -1)
  | 0 => rfl
  | f + 1 => by
    rw [ldn, ldn_nilR M n J f]
    split
    · rw [if_pos (by unfold ah; rw [ahd])]
    · rfl
/-- the walk down, its s at n - f -/
def frs (M : Nat → Nat → Int) (n : Nat) (J : Nat → Bool) (f : Nat) (R F : List Nat) : Option (List Nat × List Nat) := if (ldn M n J R f).2 = -4 then none else if (ldn M n J R f).2 = -1 then some (R, F) else frm M n J (R.length - 1) (R.eraseIdx (ldn M n J R f).2.toNat) (F ++ [(ldn M n J R f).1])
theorem frs_frm (M : Nat → Nat → Int) (n : Nat) (J : Nat → Bool) (R F : List Nat) : frs M n J n R F = frm M n J R.length R F := by
  unfold frs
  by_cases e : R.length = 0
  · rw [List.eq_nil_of_length_eq_zero e, ldn_nilR]
    rfl
  · conv => rhs; rw [show R.length = (R.length - 1) + 1 by omega, frm]
theorem frs_s {M : Nat → Nat → Int} {n : Nat} {J : Nat → Bool} {R F : List Nat} {s : Int} {T : Option (List Nat × List Nat)} (h : frs M n J (n - s.toNat) R F = T) (s0 : 0 ≤ s) (s1 : s.toNat < n) : (¬ J s.toNat = true → frs M n J (n - (s + 1).toNat) R F = T) ∧ (J s.toNat = true → ah M n R s.toNat = -1 → frs M n J (n - (s + 1).toNat) R F = T) ∧ (J s.toNat = true → ah M n R s.toNat = -4 → T = none) ∧ (J s.toNat = true → 0 ≤ ah M n R s.toNat → frs M n J (n - (0 : Int).toNat) (R.eraseIdx (ah M n R s.toNat).toNat) (F ++ [s.toNat]) = T) := by
  have hl := ldn_s (M := M) (n := n) (J := J) (R := R) (D := ldn M n J R (n - s.toNat)) rfl s0 s1
  refine ⟨fun q => ?_, fun q q2 => ?_, fun q q2 => ?_, fun q q2 => ?_⟩
  · rw [← h]; unfold frs; rw [hl.1 q]
  · rw [← h]; unfold frs; rw [hl.2.1 q q2]
  · have h3 := hl.2.2 q (by omega)
    unfold frs at h
    rw [h3, if_pos q2] at h
    exact h.symm
  · have h3 := hl.2.2 q (by omega)
    have hr := ah_r M n R s.toNat
    unfold frs at h
    rw [h3, if_neg (by show ¬ ah M n R s.toNat = -4; omega), if_neg (by show ¬ ah M n R s.toNat = -1; omega)] at h
    rw [show n - (0 : Int).toNat = n from rfl, frs_frm, List.length_eraseIdx_of_lt (by omega)]
    exact h
theorem frs_e {M : Nat → Nat → Int} {n : Nat} {J : Nat → Bool} {R F : List Nat} {s : Int} {T : Option (List Nat × List Nat)} (h : frs M n J (n - s.toNat) R F = T) (s1 : n ≤ s.toNat) : T = some (R, F) := by
  unfold frs at h
  rw [show n - s.toNat = 0 by omega, ldn] at h
  exact h.symm
section PP
variable {M : Nat → Nat → Int} {n : Nat} {J : Nat → Bool} {W R R' F' A B : List Nat}
theorem ptP_n1 (h : shoP M n [] W = none) : ptP M n J W = none := by unfold ptP; rw [h]; rfl
theorem ptP_n2 (h : shoP M n [] W = some R) (h2 : frm M n J R.length R [] = none) : ptP M n J W = none := by unfold ptP; rw [h]; show Option.bind (frm M n J R.length R []) _ = none; rw [h2]; rfl
theorem ptP_n3 (h : shoP M n [] W = some R) (h2 : frm M n J R.length R [] = some (R', F')) (h3 : fwP M n F' = none) : ptP M n J W = none := by unfold ptP; rw [h]; show Option.bind (frm M n J R.length R []) _ = none; rw [h2]; show Option.bind (fwP M n F') _ = none; rw [h3]; rfl
theorem ptP_n4 (h : shoP M n [] W = some R) (h2 : frm M n J R.length R [] = some (R', F')) (h3 : fwP M n F' = some A) (h4 : fwP M n R' = none) : ptP M n J W = none := by unfold ptP; rw [h]; show Option.bind (frm M n J R.length R []) _ = none; rw [h2]; show Option.bind (fwP M n F') _ = none; rw [h3]; show Option.map _ (fwP M n R') = none; rw [h4]; rfl
theorem ptP_s (h : shoP M n [] W = some R) (h2 : frm M n J R.length R [] = some (R', F')) (h3 : fwP M n F' = some A) (h4 : fwP M n R' = some B) : ptP M n J W = some (A, B) := by unfold ptP; rw [h]; show Option.bind (frm M n J R.length R []) _ = _; rw [h2]; show Option.bind (fwP M n F') _ = _; rw [h3]; show Option.map _ (fwP M n R') = _; rw [h4]; rfl
end PP
theorem st_rSl {S W : wSt} {a r : Int} (hR : RI S) (a0 : 0 ≤ a) (a1 : a < 8) (m1 : S 30 0 14 ≤ 100) (h : r = S 30 0 14 ∧ RI W ∧ Fr fV S W ∧ W 46 0 a = S 30 0 14 ∧ (∀ s, s ≠ a → W 46 0 s = S 46 0 s) ∧ (∀ j, 0 ≤ j → j < S 30 0 14 → W 45 0 (100 * a + j) = S 53 0 j) ∧ ∀ j, ¬ (100 * a ≤ j ∧ j < 100 * a + S 30 0 14) → W 45 0 j = S 45 0 j) : rSl W = upw (rSl S) a (rW S) := by
  obtain ⟨-, -, -, h4, h5, h6, h7⟩ := h
  exact rSl_st hR a0 a1 h4 h5 h6 (fun j hj => h7 j (by omega))
end
