section
/-! the reference's closed list, in an ending set -/
def WKa (M : Nat → Nat → Int) (n : Nat) (f : Int → Int) (m : Int) : Prop := ∀ L, RLi M n L → WK L f m
theorem WKa.eq {M : Nat → Nat → Int} {n : Nat} {f f' : Int → Int} {m m' : Int} (h : WKa M n f m) (hf : ∀ j, f' j = f j) (hm : m' = m) : WKa M n f' m' := by
  rw [show f' = f from funext hf, hm]
  exact h
theorem WKa_own {M : Nat → Nat → Int} {f : Int → Int} {n : Int} (hn : 0 ≤ n ∧ n ≤ 6) (hown : ∀ p k, 0 ≤ p → p < n → 0 ≤ k → k < 6 → f (6 * p + k) = if k = p then 1 else 0) : WKa M n.toNat f n := fun L hL => by
  have e : ∀ p, 0 ≤ p → p < n → v6 f p = ownV p.toNat := fun p p0 p1 => v6_own p0 (by omega) (fun k k0 k1 => hown p k p0 p1 k0 k1)
  refine ⟨fun p p0 p1 => by rw [e p p0 p1]; exact hL.own _ (by omega), fun p q p0 pq q1 h => ?_⟩
  rw [e p p0 (by omega), e q (by omega) q1] at h
  have := congrFun h p.toNat
  unfold ownV at this
  rw [if_pos rfl, if_neg (by omega)] at this
  omega
theorem row_up {S : wSt} {f : Int → Int} {n i : Int} (hs : sOK (S 30 0 0) (S 41 0) (S 42 0)) (i0 : 0 ≤ i) (i1 : i < S 30 0 0) {k : Int} (k0 : 0 ≤ k) (k1 : k < 6) : twv (S 42 0) (S 30 0 0) (fun k => f (6 * n + k)) i k = rfx (mxz (S 42 0)) (S 30 0 0).toNat (v6 f n) i.toNat k.toNat := by
  have hn := hs.1
  have hz := hs.2.2.2.1 i i0 (by omega)
  have h := twv_rfx (mt := S 42 0) (n := S 30 0 0) (v := fun k => f (6 * n + k)) (x := v6 f n) (i := i.toNat) hn (by omega) (by rw [Int.toNat_of_nonneg i0]; exact hz) (fun k hk => (v6_at f n hk).symm) (k := k.toNat) (by omega)
  rw [Int.toNat_of_nonneg i0, Int.toNat_of_nonneg k0] at h
  exact h
theorem WKa_new {S : wSt} {f f' R : Int → Int} {n i m : Int} (hs : sOK (S 30 0 0) (S 41 0) (S 42 0)) (h : WKa (mxz (S 42 0)) (S 30 0 0).toNat f m) (n0 : 0 ≤ n) (n1 : n < m) (i0 : 0 ≤ i) (i1 : i < S 30 0 0) (hR : ∀ k, 0 ≤ k → k < 6 → R k = twv (S 42 0) (S 30 0 0) (fun k => f (6 * n + k)) i k) (hab : ∀ j, 0 ≤ j → j < S 30 0 0 → 0 ≤ nl (R j)) (hnk : ¬ ∃ q, 0 ≤ q ∧ q < m ∧ ∀ j, 0 ≤ j → j < 6 → nl (f (6 * q + j)) = nl (R j)) (hf : ∀ j, 0 ≤ j → j < 6 * m → f' j = f j) (hv : ∀ k, 0 ≤ k → k < 6 → f' (6 * m + k) = nl (R k)) : WKa (mxz (S 42 0)) (S 30 0 0).toNat f' (m + 1) := fun L hL => by
  have hn := hs.1
  have h9 := h L hL
  have hrow := h9.1 n n0 n1
  have er : ∀ k, 0 ≤ k → k < 6 → R k = rfx (mxz (S 42 0)) (S 30 0 0).toNat (v6 f n) i.toNat k.toNat := fun k k0 k1 => (hR k k0 k1).trans (row_up hs i0 i1 k0 k1)
  have hin : rfx (mxz (S 42 0)) (S 30 0 0).toNat (v6 f n) i.toNat ∈ L := by
    refine (hL.cl _ hrow i.toNat (by omega)).resolve_left (fun e => ?_)
    have h5 := hab i i0 i1
    rw [er i i0 (by omega), e, rfx_own (by omega) (hs.mok.z _ (by omega))] at h5
    dsimp only at h5
    unfold ownV at h5
    rw [if_pos rfl] at h5
    exact absurd h5 (by decide)
  have hrg : ∀ k, 0 ≤ k → k < 6 → nl (R k) = R k := fun k k0 k1 => by
    have := hL.nn _ hin k.toNat
    rw [← er k k0 k1] at this
    exact nl_e (by omega)
  have ev : v6 f' m = rfx (mxz (S 42 0)) (S 30 0 0).toNat (v6 f n) i.toNat := by
    funext k
    by_cases hk : k < 6
    · rw [v6_at _ _ hk, hv _ (by omega) (by omega), hrg _ (by omega) (by omega), er _ (by omega) (by omega)]
      rfl
    · show v6 f' m k = (if k = i.toNat then _ else v6 f n k)
      rw [if_neg (by omega)]
      unfold v6
      rw [if_neg hk, if_neg hk]
  refine h9.add (by omega) hf (by rw [ev]; exact hin) (fun p p0 p1 => Classical.byContradiction fun q => hnk ⟨p, p0, p1, fun j j0 j1 => ?_⟩)
  have h5 : f (6 * p + j) = f' (6 * m + j) := Classical.byContradiction fun z => q ⟨j, j0, j1, z⟩
  rw [h5, hv j j0 j1, nl_nl]
/-- every root stands in it -/
def CPa (M : Nat → Nat → Int) (n : Nat) (f : Int → Int) (m : Int) : Prop := ∀ L, RLi M n L → ∀ x, RTp M n x → ∃ p, (0 ≤ p ∧ p < m) ∧ v6 f p = x
theorem CB.all {S W : wSt} {n i : Int} (h : CB S W n i) (hs : sOK (S 30 0 0) (S 41 0) (S 42 0)) (hn : W 30 0 20 ≤ n) (hm : W 30 0 20 ≤ 60) : CPa (mxz (S 42 0)) (S 30 0 0).toNat (W 58 0) (W 30 0 20) := fun L hL x hx => by
  obtain ⟨h1, h2, -, h4⟩ := h
  have hn6 := hs.1
  have hz := hs.mok.z
  refine RTp.ind (P := fun x => ∃ p, (0 ≤ p ∧ p < W 30 0 20) ∧ v6 (W 58 0) p = x) hx (fun i hi => ?_) (fun x i hx hi hp ih => ?_)
  · exact ⟨(i : Int), by omega, v6_own (by omega) (by omega) (fun k k0 k1 => h2 _ k (by omega) (by omega) k0 k1)⟩
  · skip
    obtain ⟨p, ⟨p0, p1⟩, e⟩ := ih
    have hin := (RTp.up x i hx hi hp).inL hz hL
    have er : ∀ k, 0 ≤ k → k < 6 → twv (S 42 0) (S 30 0 0) (fun k => W 58 0 (6 * p + k)) (i : Int) k = rfx (mxz (S 42 0)) (S 30 0 0).toNat x i k.toNat := fun k k0 k1 => by
      rw [row_up hs (by omega) (by omega) k0 k1, e]
      rfl
    have hrg : ∀ k, 0 ≤ k → k < 6 → nl (twv (S 42 0) (S 30 0 0) (fun k => W 58 0 (6 * p + k)) (i : Int) k) = rfx (mxz (S 42 0)) (S 30 0 0).toNat x i k.toNat := fun k k0 k1 => by
      have := hL.nn _ hin k.toNat
      rw [er k k0 k1]
      exact nl_e (by omega)
    obtain ⟨q, q0, q1, hq⟩ := (h4 hm).1 p (i : Int) p0 (by omega) (by omega) (by omega) (fun j j0 j1 => by rw [hrg j j0 (by omega)]; exact (hL.nn _ hin _).1)
    refine ⟨q, ⟨q0, q1⟩, ?_⟩
    funext k
    by_cases hk : k < 6
    · rw [v6_at _ _ hk, hq _ (by omega) (by omega), hrg _ (by omega) (by omega)]
      rfl
    · have hx0 : x k = 0 := by rw [← e]; unfold v6; rw [if_neg hk]
      unfold v6 rfx
      rw [if_neg hk, if_neg (by omega), hx0]
theorem WKa.le {M : Nat → Nat → Int} {n : Nat} {f : Int → Int} {m : Int} (h : WKa M n f m) {L : List (Nat → Int)} (hL : RLi M n L) : m ≤ 36 := by
  have := (h L hL).len
  have := hL.len
  omega
/-- what ends answers -/
def EndsP (M : Nat → Nat → Int) (n : Nat) (r : Int) : Prop := (r = -2 ∧ ∀ L, ¬ EndL M n L) ∨ ((∃ L, EndL M n L) ∧ ∃ l : List (Nat → Int), l.Nodup ∧ (∀ x, x ∈ l ↔ RTp M n x) ∧ r = l.length)
theorem EndsP.uniq {M : Nat → Nat → Int} {n : Nat} {r r' : Int} (h : EndsP M n r) (h' : EndsP M n r') : r = r' := by
  haveI : DecidableEq (Nat → Int) := fun a b => Classical.propDecidable (a = b)
  rcases h with ⟨h1, h2⟩ | ⟨⟨L, h1⟩, l, h2, h3, h4⟩
  · rcases h' with ⟨g1, -⟩ | ⟨⟨L, g1⟩, -⟩
    · omega
    · exact absurd g1 (h2 L)
  · rcases h' with ⟨-, g2⟩ | ⟨-, l', g2, g3, g4⟩
    · exact absurd h1 (g2 L)
    · have a := php_list h2 (m := l') (fun x hx => (g3 x).mpr ((h3 x).mp hx))
      have b := php_list g2 (m := l) (fun x hx => (h3 x).mpr ((g3 x).mp hx))
      omega
theorem EndsP.ref {M : Nat → Nat → Int} {n : Nat} {f : Int → Int} {m : Int} (hz : ∀ i, i < n → M i i = 0) (h : WKa M n f m) (hc : CPa M n f m) (m0 : 0 ≤ m) {L : List (Nat → Int)} (hL : EndL M n L) : EndsP M n m := by
  refine Or.inr ⟨⟨L, hL⟩, (List.range m.toNat).map (fun (p : Nat) => v6 f (p : Int)), ?_, fun x => ⟨fun hx => ?_, fun hx => ?_⟩, by rw [List.length_map, List.length_range]; omega⟩
  · rw [List.nodup_iff_pairwise_ne, List.pairwise_map]
    refine List.Pairwise.imp_of_mem ?_ (List.nodup_iff_pairwise_ne.mp (List.nodup_range (n := m.toNat)))
    intro a b ha hb hne e
    have ha := List.mem_range.mp ha
    have hb := List.mem_range.mp hb
    rcases Nat.lt_or_gt_of_ne hne with q | q
    · exact (h L hL.1).2 a b (by omega) (by omega) (by omega) e
    · exact (h L hL.1).2 b a (by omega) (by omega) (by omega) e.symm
  · obtain ⟨p, hp, rfl⟩ := List.mem_map.mp hx
    have hp := List.mem_range.mp hp
    exact RTp.ofL hz hL _ _ (Nat.le_refl _) ((h L hL.1).1 p (by omega) (by omega))
  · obtain ⟨p, hp, e⟩ := hc L hL.1 x hx
    exact List.mem_map.mpr ⟨p.toNat, List.mem_range.mpr (by omega), by rw [Int.toNat_of_nonneg (by omega)]; exact e⟩
theorem rM_in {S : wSt} {i j : Nat} (hi : i < rn S) (hj : j < rn S) : rM S i j = mxz (S 42 0) i j := by
  unfold rM mG clM
  rw [if_pos ⟨hi, hj⟩]
theorem RI.mB {S : wSt} (h : RI S) : mB (rM S) := mB_mG h.set (by have := h.n; unfold rn; omega)
theorem EndsP.cg {M M' : Nat → Nat → Int} {n : Nat} (e : ∀ i j, i < n → j < n → M' i j = M i j) {r : Int} (h : EndsP M n r) : EndsP M' n r := by
  have e2 : ∀ i j, i < n → j < n → M i j = M' i j := fun i j hi hj => (e i j hi hj).symm
  rcases h with ⟨h1, h2⟩ | ⟨⟨L, h1⟩, l, h2, h3, h4⟩
  · exact Or.inl ⟨h1, fun L hL => h2 L (hL.cg e2)⟩
  · exact Or.inr ⟨⟨L, h1.cg e⟩, l, h2, fun x => (h3 x).trans ⟨fun q => q.cg e, fun q => q.cg e2⟩, h4⟩
end
section
theorem lg_t {M : Nat → Nat → Int} {n : Nat} {m m' s : Int} {R R' : List Nat} (h : R = lgr M n m.toNat) (m0 : 0 ≤ m) (hu : lup M n R n = s) (s0 : 0 ≤ s) (e : R' = R ++ [s.toNat]) (em : m' = m + 1) : R' = lgr M n m'.toNat := by
  rw [em, show (m + 1).toNat = m.toNat + 1 by omega]
  show R' = stp M n (lgr M n m.toNat)
  rw [← h]
  unfold stp
  rw [hu, if_neg (by omega)]
  exact e
theorem lg_e {M : Nat → Nat → Int} {n : Nat} {m s : Int} {R : List Nat} (h : R = lgr M n m.toNat) (hu : lup M n R (n - s.toNat) = lup M n R n) (hs : n ≤ s.toNat) : stp M n (lgr M n m.toNat) = lgr M n m.toNat := by
  rw [← h]
  unfold stp
  rw [← hu, show n - s.toNat = 0 by omega]
  exact if_pos rfl
end
section
set_option maxHeartbeats 4000000 in
set_option maxRecDepth 100000 in
theorem f_X8_closes {g : wG} (hD : wD g) {S : wSt} (hRS : RI S) (l : Launch) : Kt l yX8_closes wsX8_closes ({ frames := 2, cells := 0, slots := 0, locals := 49 } : Room) g S [vr g 30 0] (pI (fun r S' => Fr fR S S' ∧ (0 ≤ r ∧ r ≤ 61 ∧ (r ≤ 60 → NoB (mxz (S 42 0)) (S 30 0 0).toNat ∧ CPa (mxz (S 42 0)) (S 30 0 0).toNat (S' 58 0) r) ∧ WKa (mxz (S 42 0)) (S 30 0 0).toNat (S' 58 0) r))) := by
  refine Kt.of (cc := cX8_closes) (nL := 4) (ret := (some .int)) (own := RX8) rfl hD (by decide) rfl (Nat.le_of_ble_eq_true rfl) ⟨rfl, rfl⟩ ?_
  intro E hC hR9
  have f11 : Cond.fieldLink RX8 11 "MirrorBenchModel" "mirrors" "I" ∈ wsX8_closes := by decide +kernel
  have f77 : Cond.fieldLink RX8 77 "MirrorBenchModel" "root" "[J" ∈ wsX8_closes := by decide +kernel
  have f151 : Cond.fieldLink RX8 151 "MirrorBenchModel" "many" "I" ∈ wsX8_closes := by decide +kernel
  have f154 : Cond.fieldLink RX8 154 "MirrorBenchModel" "found" "[J" ∈ wsX8_closes := by decide +kernel
  have w8 : ∀ w ∈ wsX80, w ∈ wsX8_closes := by decide +kernel
  show Wk E g 4 S 0 [(0, vr g 30 0)] []
  have hfS : Fr fR S S := Fr.rfl _ S
  have hRS := hRS.fr (hfS.mono (fun k i j h => by unfold fR at h; unfold tR; omega))
  have hnS := hRS.n
  have enS : S 30 0 0 = S 30 0 0 := hfS 30 0 0 (by unfold fR; omega)
  refine kw_aload_n hC dX8_closes_0 rfl 0 rfl ?_
  refine kw_iconst hC dX8_closes_1 rfl ?_
  refine kp_30_20 hC w8 f151 dX8_closes_2 rfl (by decide) (by decide) ?_
  refine kw_hv hfS (by unfold fR; omega) (fun S1 hfS1 hv1 ho1 => ?_)
  have hRS1 := hRS.fr (hfS1.mono (fun k i j h => by unfold fR at h; unfold tR; omega))
  have hnS1 := hRS1.n
  have enS1 : S1 30 0 0 = S 30 0 0 := hfS1 30 0 0 (by unfold fR; omega)
  refine kw_iconst hC dX8_closes_5 rfl ?_
  refine kw_istore_n (lv' := [(1, _), (0, _)]) hC dX8_closes_6 rfl (by decide) rfl ?_
  have hL7 : ∀ (n7 : Nat) (i : Int) (W7 : wSt), Fr fR S W7 → (0 ≤ i) → (i ≤ S 30 0 0) → (W7 30 0 20 = i) → (∀ p k, 0 ≤ p → p < i → 0 ≤ k → k < 6 → W7 58 0 (6 * p + k) = if k = p then 1 else 0) → S 30 0 0 - i < (n7 : Int) → Wk E g 4 W7 7 [(0, vr g 30 0), (1, vi i)] [] := by
    intro n7
    induction n7 with
    | zero => intro i W7 hfW7 i0 i1 x20 hown hm7; exact absurd hm7 (by omega)
    | succ n7 ih7 =>
      intro i W7 hfW7 i0 i1 x20 hown hm7
      have hRW7 := hRS.fr (hfW7.mono (fun k i j h => by unfold fR at h; unfold tR; omega))
      have hnW7 := hRW7.n
      have enW7 : W7 30 0 0 = S 30 0 0 := hfW7 30 0 0 (by unfold fR; omega)
      refine kw_iload_n hC dX8_closes_7 rfl 1 rfl ?_
      refine kw_aload_n hC dX8_closes_8 rfl 0 rfl ?_
      refine kg_30_0 hC w8 f11 dX8_closes_9 rfl (by decide) (by decide) ?_
      refine kw_icmp_ge (tgt := 35) hC dX8_closes_12 rfl (by decide) (by omega) (by omega) ⟨fun c12 => ?_, fun c12 => ?_⟩
      · obtain rfl : i = S 30 0 0 := by omega
        have hwk : WKa (mxz (S 42 0)) (S 30 0 0).toNat (W7 58 0) (W7 30 0 20) := by rw [x20]; exact WKa_own hnS hown
        have hcb0 : CB S W7 0 0 := ⟨by omega, hown, fun j j0 j1 => by have := hown (j / 6) (j % 6) (by omega) (by omega) (by omega) (by omega); rw [show 6 * (j / 6) + j % 6 = j by omega] at this; rw [this]; split <;> exact nl_e (by omega), fun _ => ⟨fun p i _ _ _ _ => by omega, fun i _ _ => by omega⟩⟩
        refine kw_iconst hC dX8_closes_35 rfl ?_
        refine kw_istore_n (lv' := [(1, _), (0, _)]) hC dX8_closes_36 rfl (by decide) rfl ?_
        have hL37 : ∀ (n37 : Nat) (n : Int) (W37 : wSt), Fr fR S W37 → (0 ≤ n) → (n ≤ 61) → (n ≤ W37 30 0 20) → (CB S W37 n 0) → (WKa (mxz (S 42 0)) (S 30 0 0).toNat (W37 58 0) (W37 30 0 20)) → 61 - n < (n37 : Int) → Wk E g 4 W37 37 [(0, vr g 30 0), (1, vi n)] [] := by
          intro n37
          induction n37 with
          | zero => intro n W37 hfW37 n0 n61 n1 hcb hwk hm37; exact absurd hm37 (by omega)
          | succ n37 ih37 =>
            intro n W37 hfW37 n0 n61 n1 hcb hwk hm37
            have hRW37 := hRS.fr (hfW37.mono (fun k i j h => by unfold fR at h; unfold tR; omega))
            have hnW37 := hRW37.n
            have enW37 : W37 30 0 0 = S 30 0 0 := hfW37 30 0 0 (by unfold fR; omega)
            have hcb1 := hcb.1
            refine kw_iload_n hC dX8_closes_37 rfl 1 rfl ?_
            refine kw_aload_n hC dX8_closes_38 rfl 0 rfl ?_
            refine kg_30_20 hC w8 f151 dX8_closes_39 rfl (by decide) (by decide) ?_
            refine kw_icmp_ge (tgt := 145) hC dX8_closes_42 rfl (by decide) (by omega) (by omega) ⟨fun c42 => ?_, fun c42 => ?_⟩
            · refine kw_aload_n hC dX8_closes_145 rfl 0 rfl ?_
              refine kg_30_20 hC w8 f151 dX8_closes_146 rfl (by decide) (by decide) ?_
              exact hR9.1 rfl _ _ _ _ dX8_closes_149 ⟨_, rfl, hfW37, by omega, by omega, fun q => ⟨hcb.noB hRS.set (by omega) q, hcb.all hRS.set (by omega) q⟩, hwk⟩
            · refine kw_aload_n hC dX8_closes_45 rfl 0 rfl ?_
              refine kg_30_20 hC w8 f151 dX8_closes_46 rfl (by decide) (by decide) ?_
              refine kw_bipush hC dX8_closes_49 rfl (by decide) ?_
              refine kw_icmp_ge (tgt := 145) hC dX8_closes_51 rfl (by decide) (by omega) (by omega) ⟨fun c51 => ?_, fun c51 => ?_⟩
              · refine kw_aload_n hC dX8_closes_145 rfl 0 rfl ?_
                refine kg_30_20 hC w8 f151 dX8_closes_146 rfl (by decide) (by decide) ?_
                exact hR9.1 rfl _ _ _ _ dX8_closes_149 ⟨_, rfl, hfW37, by omega, by omega, fun q => ⟨hcb.noB hRS.set (by omega) q, hcb.all hRS.set (by omega) q⟩, hwk⟩
              · refine kw_iconst hC dX8_closes_54 rfl ?_
                refine kw_istore_n (lv' := [(2, _), (0, _), (1, _)]) hC dX8_closes_55 rfl (by decide) rfl ?_
                have hL56 : ∀ (n56 : Nat) (i : Int) (W56 : wSt), Fr fR S W56 → (0 ≤ i) → (i ≤ S 30 0 0) → (n < W56 30 0 20) → (CB S W56 n i) → (WKa (mxz (S 42 0)) (S 30 0 0).toNat (W56 58 0) (W56 30 0 20)) → S 30 0 0 - i < (n56 : Int) → Wk E g 4 W56 56 [(0, vr g 30 0), (1, vi n), (2, vi i)] [] := by
                  intro n56
                  induction n56 with
                  | zero => intro i W56 hfW56 i0 i1 n1 hcb hwk hm56; exact absurd hm56 (by omega)
                  | succ n56 ih56 =>
                    intro i W56 hfW56 i0 i1 n1 hcb hwk hm56
                    have hRW56 := hRS.fr (hfW56.mono (fun k i j h => by unfold fR at h; unfold tR; omega))
                    have hnW56 := hRW56.n
                    have enW56 : W56 30 0 0 = S 30 0 0 := hfW56 30 0 0 (by unfold fR; omega)
                    have hcb1 := hcb.1
                    refine kw_iload_n hC dX8_closes_56 rfl 2 rfl ?_
                    refine kw_aload_n hC dX8_closes_57 rfl 0 rfl ?_
                    refine kg_30_0 hC w8 f11 dX8_closes_58 rfl (by decide) (by decide) ?_
                    refine kw_icmp_ge (tgt := 139) hC dX8_closes_61 rfl (by decide) (by omega) (by omega) ⟨fun c61 => ?_, fun c61 => ?_⟩
                    · have hcbN : CB S W56 (n + 1) 0 := by first | exact hcb.next (by omega) | exact hcb.early (by omega)
                      refine kw_iinc (lv' := [(1, _), (0, _), (2, _)]) hC dX8_closes_139 rfl 1 rfl (by decide) rfl ?_
                      refine kw_goto (tgt := 37) hC dX8_closes_142 rfl (by decide) ?_
                      refine kw_lv [1, 0] rfl ?_
                      exact ih37 (n + 1) W56 hfW56 (by omega) (by omega) (by omega) hcbN hwk (by omega)
                    · refine kw_aload_n hC dX8_closes_64 rfl 0 rfl ?_
                      refine kg_30_20 hC w8 f151 dX8_closes_65 rfl (by decide) (by decide) ?_
                      refine kw_bipush hC dX8_closes_68 rfl (by decide) ?_
                      refine kw_icmp_ge (tgt := 139) hC dX8_closes_70 rfl (by decide) (by omega) (by omega) ⟨fun c70 => ?_, fun c70 => ?_⟩
                      · have hcbN : CB S W56 (n + 1) 0 := by first | exact hcb.next (by omega) | exact hcb.early (by omega)
                        refine kw_iinc (lv' := [(1, _), (0, _), (2, _)]) hC dX8_closes_139 rfl 1 rfl (by decide) rfl ?_
                        refine kw_goto (tgt := 37) hC dX8_closes_142 rfl (by decide) ?_
                        refine kw_lv [1, 0] rfl ?_
                        exact ih37 (n + 1) W56 hfW56 (by omega) (by omega) (by omega) hcbN hwk (by omega)
                      · refine kw_iconst hC dX8_closes_73 rfl ?_
                        refine kw_istore_n (lv' := [(3, _), (0, _), (1, _), (2, _)]) hC dX8_closes_74 rfl (by decide) rfl ?_
                        have hL75 : ∀ (n75 : Nat) (k : Int) (W75 : wSt), Fr fR S W75 → (0 ≤ k) → (k ≤ 6) → (n < W75 30 0 20) → (W75 30 0 20 ≤ 60) → (CB S W75 n i) → (WKa (mxz (S 42 0)) (S 30 0 0).toNat (W75 58 0) (W75 30 0 20)) → (∀ j, 0 ≤ j → j < k → W75 55 0 j = W75 58 0 (6 * n + j)) → 6 - k < (n75 : Int) → Wk E g 4 W75 75 [(0, vr g 30 0), (1, vi n), (2, vi i), (3, vi k)] [] := by
                          intro n75
                          induction n75 with
                          | zero => intro k W75 hfW75 k0 k1 n1 c70b hcb hwk hk hm75; exact absurd hm75 (by omega)
                          | succ n75 ih75 =>
                            intro k W75 hfW75 k0 k1 n1 c70b hcb hwk hk hm75
                            have hRW75 := hRS.fr (hfW75.mono (fun k i j h => by unfold fR at h; unfold tR; omega))
                            have hnW75 := hRW75.n
                            have enW75 : W75 30 0 0 = S 30 0 0 := hfW75 30 0 0 (by unfold fR; omega)
                            have hcb1 := hcb.1
                            refine kw_iload_n hC dX8_closes_75 rfl 3 rfl ?_
                            refine kw_bipush hC dX8_closes_76 rfl (by decide) ?_
                            refine kw_icmp_ge (tgt := 104) hC dX8_closes_78 rfl (by decide) (by omega) (by omega) ⟨fun c78 => ?_, fun c78 => ?_⟩
                            · refine kw_aload_n hC dX8_closes_104 rfl 0 rfl ?_
                              refine kw_iload_n hC dX8_closes_105 rfl 2 rfl ?_
                              refine kw_callV hC (d_X8_turn hD (by omega) (by omega) hRW75) gX8_closes_X8_turn ⟨_, rfl⟩ rfl (by decide) (by decide) rfl ⟨rfl, rfl⟩ 1 (by decide +kernel) ⟨by decide, by decide⟩ rfl rfl (Nat.le_of_ble_eq_true rfl) dX8_closes_106 rfl (kd_v (fun S8 hp8 => ?_))
                              obtain ⟨hg8, hp8⟩ := hp8
                              have hfS8 : Fr fR S S8 := hfW75.trans (hg8.mono (fun k i j h => by unfold fT at h; unfold fR; omega))
                              have hRS8 := hRS.fr (hfS8.mono (fun k i j h => by unfold fR at h; unfold tR; omega))
                              have hnS8 := hRS8.n
                              have enS8 : S8 30 0 0 = S 30 0 0 := hfS8 30 0 0 (by unfold fR; omega)
                              obtain ⟨ht1, ht2, -, -⟩ := hp8
                              have e20_8 : S8 30 0 20 = W75 30 0 20 := hg8 30 0 20 (by unfold fT; omega)
                              replace hcb := hcb.eq (W' := S8) (fun j => hg8 58 0 j (by unfold fT; omega)) e20_8
                              replace hwk := hwk.eq (f' := S8 58 0) (fun j => hg8 58 0 j (by unfold fT; omega)) e20_8
                              have hRx : ∀ k, 0 ≤ k → k < 6 → S8 55 0 k = twv (S 42 0) (S 30 0 0) (fun k => S8 58 0 (6 * n + k)) i k := trn_twv (W := W75) (funext fun j => hfW75 42 0 j (by unfold fR; omega)) enW75 hnS (by omega) (by omega) ht1 ht2 (fun k k0 k1 => by rw [hk k k0 (by omega)]; exact (hg8 58 0 _ (by unfold fT; omega)).symm)
                              refine kw_aload_n hC dX8_closes_109 rfl 0 rfl ?_
                              refine kw_callV hC (d_X8_isAbove hD (by omega) (by omega)) gX8_closes_X8_isAbove ⟨_, rfl⟩ rfl (by decide) (by decide) rfl ⟨rfl, rfl⟩ 0 (by decide +kernel) ⟨by decide, by decide⟩ rfl rfl (Nat.le_of_ble_eq_true rfl) dX8_closes_110 rfl (kd_ie ?_)
                              refine kw_ifeq_b (tgt := 133) hC dX8_closes_113 rfl (by decide) ⟨fun c113 => ?_, fun c113 => ?_⟩
                              · replace hcb := hcb.low (by omega) hRx (by rw [enS8] at c113; exact c113)
                                replace hcb := hcb
                                refine kw_iinc (lv' := [(2, _), (0, _), (1, _), (3, _)]) hC dX8_closes_133 rfl 2 rfl (by decide) rfl ?_
                                refine kw_goto (tgt := 56) hC dX8_closes_136 rfl (by decide) ?_
                                refine kw_lv [1, 2, 0] rfl ?_
                                exact ih56 (i + 1) S8 hfS8 (by omega) (by omega) (by omega) hcb hwk (by omega)
                              · refine kw_aload_n hC dX8_closes_116 rfl 0 rfl ?_
                                refine kw_iconst hC dX8_closes_117 rfl ?_
                                refine kw_callV hC (d_X8_isKnown hD (by omega) (by omega) (by omega) (by omega)) gX8_closes_X8_isKnown ⟨_, rfl⟩ rfl (by decide) (by decide) rfl ⟨rfl, rfl⟩ 1 (by decide +kernel) ⟨by decide, by decide⟩ rfl rfl (Nat.le_of_ble_eq_true rfl) dX8_closes_118 rfl (kd_ie ?_)
                                refine kw_ifne_b (tgt := 133) hC dX8_closes_121 rfl (by decide) ⟨fun c121 => ?_, fun c121 => ?_⟩
                                · replace hcb := hcb.known hRx c121
                                  replace hcb := hcb
                                  refine kw_iinc (lv' := [(2, _), (0, _), (1, _), (3, _)]) hC dX8_closes_133 rfl 2 rfl (by decide) rfl ?_
                                  refine kw_goto (tgt := 56) hC dX8_closes_136 rfl (by decide) ?_
                                  refine kw_lv [1, 2, 0] rfl ?_
                                  exact ih56 (i + 1) S8 hfS8 (by omega) (by omega) (by omega) hcb hwk (by omega)
                                · refine kw_aload_n hC dX8_closes_124 rfl 0 rfl ?_
                                  refine kw_aload_n hC dX8_closes_125 rfl 0 rfl ?_
                                  refine kg_30_20 hC w8 f151 dX8_closes_126 rfl (by decide) (by decide) ?_
                                  refine kw_iconst hC dX8_closes_129 rfl ?_
                                  refine kw_callV hC (d_X8_comes hD (by omega) (by omega) (by omega)) gX8_closes_X8_comes ⟨_, rfl⟩ rfl (by decide) (by decide) rfl ⟨rfl, rfl⟩ 2 (by decide +kernel) ⟨by decide, by decide⟩ rfl rfl (Nat.le_of_ble_eq_true rfl) dX8_closes_130 rfl (kd_v (fun S11 hp11 => ?_))
                                  obtain ⟨hg11, hp11⟩ := hp11
                                  have hfS11 : Fr fR S S11 := hfS8.trans (hg11.mono (fun k i j h => by unfold fC at h; unfold fR; omega))
                                  have hRS11 := hRS.fr (hfS11.mono (fun k i j h => by unfold fR at h; unfold tR; omega))
                                  have hnS11 := hRS11.n
                                  have enS11 : S11 30 0 0 = S 30 0 0 := hfS11 30 0 0 (by unfold fR; omega)
                                  obtain ⟨y20, p, hp2, hf2, hv2, -⟩ := hp11
                                  obtain rfl : p = S8 30 0 20 := by omega
                                  have hwkN := WKa_new hRS.set hwk n0 (by omega) i0 (by omega) hRx (by have c9 := c113; rw [enS8] at c9; exact c9) (fun z => c121 (by obtain ⟨q, q0, q1, q2⟩ := z; exact ⟨q, q0, q1, q2⟩)) hf2 hv2
                                  replace hwk : WKa (mxz (S 42 0)) (S 30 0 0).toNat (S11 58 0) (S11 30 0 20) := by rw [y20]; exact hwkN
                                  replace hcb := hcb.new (W' := S11) hnS n0 (by omega) i0 (by omega) hRx y20 (by omega) hf2 hv2
                                  replace hcb := hcb
                                  refine kw_iinc (lv' := [(2, _), (0, _), (1, _), (3, _)]) hC dX8_closes_133 rfl 2 rfl (by decide) rfl ?_
                                  refine kw_goto (tgt := 56) hC dX8_closes_136 rfl (by decide) ?_
                                  refine kw_lv [1, 2, 0] rfl ?_
                                  exact ih56 (i + 1) S11 hfS11 (by omega) (by omega) (by omega) hcb hwk (by omega)
                            · refine kw_aload_n hC dX8_closes_81 rfl 0 rfl ?_
                              refine kg_30_15 hC w8 f77 dX8_closes_82 rfl (by decide) (by decide) ?_
                              refine kw_iload_n hC dX8_closes_85 rfl 3 rfl ?_
                              refine kw_aload_n hC dX8_closes_86 rfl 0 rfl ?_
                              refine kg_30_18 hC w8 f154 dX8_closes_87 rfl (by decide) (by decide) ?_
                              refine kw_bipush hC dX8_closes_90 rfl (by decide) ?_
                              refine kw_iload_n hC dX8_closes_92 rfl 1 rfl ?_
                              refine kw_imul hC dX8_closes_93 rfl ?_
                              refine kw_iload_n hC dX8_closes_94 rfl 3 rfl ?_
                              refine kw_iadd hC dX8_closes_95 rfl ?_
                              refine ka_58 hC dX8_closes_96 rfl (by decide) (by decide) (by omega) (by omega) ?_
                              refine ks_55 hC dX8_closes_97 rfl (by decide) (by decide) (by omega) (by omega) ?_
                              refine kw_hv hfW75 (by unfold fR; omega) (fun S12 hfS12 hv12 ho12 => ?_)
                              have hRS12 := hRS.fr (hfS12.mono (fun k i j h => by unfold fR at h; unfold tR; omega))
                              have hnS12 := hRS12.n
                              have enS12 : S12 30 0 0 = S 30 0 0 := hfS12 30 0 0 (by unfold fR; omega)
                              have e20_12 : S12 30 0 20 = W75 30 0 20 := ho12 30 0 20 (by omega)
                              replace hcb := hcb.eq (W' := S12) (fun j => ho12 58 0 j (by omega)) e20_12
                              replace hwk := hwk.eq (f' := S12 58 0) (fun j => ho12 58 0 j (by omega)) e20_12
                              refine kw_iinc (lv' := [(3, _), (0, _), (1, _), (2, _)]) hC dX8_closes_98 rfl 3 rfl (by decide) rfl ?_
                              refine kw_goto (tgt := 75) hC dX8_closes_101 rfl (by decide) ?_
                              refine kw_lv [1, 2, 3, 0] rfl ?_
                              exact ih75 (k + 1) S12 hfS12 (by omega) (by omega) (by omega) (by omega) hcb hwk (fun j j0 j1 => by rw [ho12 58 0 _ (by omega)]; rcases Decidable.em (j = k) with e | e; exact (by rw [e]; exact hv12); exact (ho12 55 0 j (by omega)).trans (hk j j0 (by omega))) (by omega)
                        refine kw_lv [1, 2, 3, 0] rfl ?_
                        exact hL75 7 0 W56 hfW56 (by omega) (by omega) (by omega) (by omega) hcb hwk (fun j _ _ => by omega) (by omega)
                refine kw_lv [1, 2, 0] rfl ?_
                exact hL56 7 0 W37 hfW37 (by omega) (by omega) (by omega) hcb hwk (by omega)
        refine kw_lv [1, 0] rfl ?_
        exact hL37 62 0 W7 hfW7 (by omega) (by omega) (by omega) hcb0 hwk (by omega)
      · refine kw_aload_n hC dX8_closes_15 rfl 0 rfl ?_
        refine kw_iload_n hC dX8_closes_16 rfl 1 rfl ?_
        refine kw_callV hC (d_X8_own hD (by omega)) gX8_closes_X8_own ⟨_, rfl⟩ rfl (by decide) (by decide) rfl ⟨rfl, rfl⟩ 1 (by decide +kernel) ⟨by decide, by decide⟩ rfl rfl (Nat.le_of_ble_eq_true rfl) dX8_closes_17 rfl (kd_v (fun S13 hp13 => ?_))
        obtain ⟨hg13, hp13⟩ := hp13
        have hfS13 : Fr fR S S13 := hfW7.trans (hg13.mono (fun k i j h => by unfold fO at h; unfold fR; omega))
        have hRS13 := hRS.fr (hfS13.mono (fun k i j h => by unfold fR at h; unfold tR; omega))
        have hnS13 := hRS13.n
        have enS13 : S13 30 0 0 = S 30 0 0 := hfS13 30 0 0 (by unfold fR; omega)
        have e20_13 : S13 30 0 20 = W7 30 0 20 := hg13 30 0 20 (by unfold fO; omega)
        have hr55 := hp13
        have hgO := hg13
        refine kw_aload_n hC dX8_closes_20 rfl 0 rfl ?_
        refine kw_aload_n hC dX8_closes_21 rfl 0 rfl ?_
        refine kg_30_20 hC w8 f151 dX8_closes_22 rfl (by decide) (by decide) ?_
        refine kw_chi (z' := i) (e20_13.trans x20) ?_
        refine kw_iconst hC dX8_closes_25 rfl ?_
        refine kw_callV hC (d_X8_comes hD (by omega) (by omega) (by omega)) gX8_closes_X8_comes ⟨_, rfl⟩ rfl (by decide) (by decide) rfl ⟨rfl, rfl⟩ 2 (by decide +kernel) ⟨by decide, by decide⟩ rfl rfl (Nat.le_of_ble_eq_true rfl) dX8_closes_26 rfl (kd_v (fun S14 hp14 => ?_))
        obtain ⟨hg14, hp14⟩ := hp14
        have hfS14 : Fr fR S S14 := hfS13.trans (hg14.mono (fun k i j h => by unfold fC at h; unfold fR; omega))
        have hRS14 := hRS.fr (hfS14.mono (fun k i j h => by unfold fR at h; unfold tR; omega))
        have hnS14 := hRS14.n
        have enS14 : S14 30 0 0 = S 30 0 0 := hfS14 30 0 0 (by unfold fR; omega)
        obtain ⟨y20, p, hp2, hf2, hv2, -⟩ := hp14
        obtain rfl : i = p := by omega
        have hown2 : ∀ q k, 0 ≤ q → q < i + 1 → 0 ≤ k → k < 6 → S14 58 0 (6 * q + k) = if k = q then 1 else 0 := fun q k q0 q1 k0 k1 => by rcases Decidable.em (q = i) with e | e; exact (by rw [e, hv2 k k0 k1, hr55 k k0 k1]; split <;> exact nl_e (by omega)); exact (by rw [hf2 _ (by omega) (by omega), hgO 58 0 _ (by unfold fO; omega)]; exact hown q k q0 (by omega) k0 k1)
        refine kw_iinc (lv' := [(1, _), (0, _)]) hC dX8_closes_29 rfl 1 rfl (by decide) rfl ?_
        refine kw_goto (tgt := 7) hC dX8_closes_32 rfl (by decide) ?_
        refine kw_lv [1, 0] rfl ?_
        exact ih7 (i + 1) S14 hfS14 (by omega) (by omega) (by omega) hown2 (by omega)
  refine kw_lv [1, 0] rfl ?_
  exact hL7 7 0 S1 hfS1 (by omega) (by omega) hv1 (fun p k _ _ _ _ => by omega) (by omega)

set_option maxHeartbeats 4000000 in
set_option maxRecDepth 100000 in
theorem f_X8_ends {g : wG} (hD : wD g) {S : wSt} (hRS : RI S) (l : Launch) : Kt l yX8_ends wsX8_ends ({ frames := 3, cells := 0, slots := 0, locals := 72 } : Room) g S [vr g 30 0] (pI (fun r S' => Fr fR S S' ∧ ((r = -2 ∧ ∀ L, ¬ RLi (mxz (S 42 0)) (S 30 0 0).toNat L) ∨ ((0 ≤ r ∧ r ≤ 60) ∧ NoB (mxz (S 42 0)) (S 30 0 0).toNat ∧ EndsP (mxz (S 42 0)) (S 30 0 0).toNat r)))) := by
  refine Kt.of (cc := cX8_ends) (nL := 2) (ret := (some .int)) (own := RX8) rfl hD (by decide) rfl (Nat.le_of_ble_eq_true rfl) ⟨rfl, rfl⟩ ?_
  intro E hC hR9
  show Wk E g 2 S 0 [(0, vr g 30 0)] []
  have hfS : Fr fR S S := Fr.rfl _ S
  have hRS := hRS.fr (hfS.mono (fun k i j h => by unfold fR at h; unfold tR; omega))
  have hnS := hRS.n
  have enS : S 30 0 0 = S 30 0 0 := hfS 30 0 0 (by unfold fR; omega)
  refine kw_aload_n hC dX8_ends_0 rfl 0 rfl ?_
  refine kw_callV hC (f_X8_closes hD hRS) gX8_ends_X8_closes ⟨_, rfl⟩ rfl (by decide) (by decide) rfl ⟨rfl, rfl⟩ 0 (by decide +kernel) ⟨by decide, by decide⟩ rfl rfl (Nat.le_of_ble_eq_true rfl) dX8_ends_1 rfl (kd_i (fun r1 S1 hp1 => ?_))
  obtain ⟨hg1, hp1⟩ := hp1
  have hfS1 : Fr fR S S1 := hfS.trans hg1
  have hRS1 := hRS.fr (hfS1.mono (fun k i j h => by unfold fR at h; unfold tR; omega))
  have hnS1 := hRS1.n
  have enS1 : S1 30 0 0 = S 30 0 0 := hfS1 30 0 0 (by unfold fR; omega)
  obtain ⟨q0, q1, hq, hwk⟩ := hp1
  refine kw_istore_n (lv' := [(1, _), (0, _)]) hC dX8_ends_4 rfl (by decide) rfl ?_
  refine kw_iload_n hC dX8_ends_5 rfl 0 rfl ?_
  refine kw_bipush hC dX8_ends_6 rfl (by decide) ?_
  refine kw_icmp_le (tgt := 16) hC dX8_ends_8 rfl (by decide) (by omega) (by omega) ⟨fun c8 => ?_, fun c8 => ?_⟩
  · refine kw_iload_n hC dX8_ends_16 rfl 0 rfl ?_
    exact hR9.1 rfl _ _ _ _ dX8_ends_17 (by first | exact ⟨_, rfl, hfS1, Or.inl ⟨rfl, fun L hL => by have := hwk.le hL; omega⟩⟩ | (obtain ⟨L, hL⟩ := roots_of2 hRS.set.mok (by have := hRS.n; omega) (hq (by omega)).1; exact ⟨_, rfl, hfS1, Or.inr ⟨by omega, (hq (by omega)).1, EndsP.ref hRS.set.mok.z hwk (hq (by omega)).2 (by omega) hL⟩⟩))
  · refine kw_bipush hC dX8_ends_11 rfl (by decide) ?_
    refine kw_goto (tgt := 17) hC dX8_ends_13 rfl (by decide) ?_
    exact hR9.1 rfl _ _ _ _ dX8_ends_17 (by first | exact ⟨_, rfl, hfS1, Or.inl ⟨rfl, fun L hL => by have := hwk.le hL; omega⟩⟩ | (obtain ⟨L, hL⟩ := roots_of2 hRS.set.mok (by have := hRS.n; omega) (hq (by omega)).1; exact ⟨_, rfl, hfS1, Or.inr ⟨by omega, (hq (by omega)).1, EndsP.ref hRS.set.mok.z hwk (hq (by omega)).2 (by omega) hL⟩⟩))

set_option maxHeartbeats 4000000 in
set_option maxRecDepth 100000 in
theorem f_X8_longest {g : wG} (hD : wD g) {S : wSt} {a : Int} (ha : -2147483648 ≤ a ∧ a ≤ 2147483647) (hRS : RI S) (l : Launch) : Kt l yX8_longest wsX8_longest ({ frames := 4, cells := 0, slots := 0, locals := 93 } : Room) g S [vr g 30 0, vi a] (pI (fun r S' => RI S' ∧ Fr tW S S' ∧ fLongest (rM S) (rn S) a (rSl S) = (r, rSl S'))) := by
  refine Kt.of (cc := cX8_longest) (nL := 5) (ret := (some .int)) (own := RX8) rfl hD (by decide) rfl (Nat.le_of_ble_eq_true rfl) ⟨rfl, rfl⟩ ?_
  intro E hC hR9
  have f11 : Cond.fieldLink RX8 11 "MirrorBenchModel" "mirrors" "I" ∈ wsX8_longest := by decide +kernel
  have f57 : Cond.fieldLink RX8 57 "MirrorBenchModel" "wMany" "I" ∈ wsX8_longest := by decide +kernel
  have f60 : Cond.fieldLink RX8 60 "MirrorBenchModel" "w" "[I" ∈ wsX8_longest := by decide +kernel
  have f81 : Cond.fieldLink RX8 81 "MirrorBenchModel" "isGreat" "Z" ∈ wsX8_longest := by decide +kernel
  have f92 : Cond.fieldLink RX8 92 "MirrorBenchModel" "rMany" "I" ∈ wsX8_longest := by decide +kernel
  have f95 : Cond.fieldLink RX8 95 "MirrorBenchModel" "r" "[I" ∈ wsX8_longest := by decide +kernel
  have f110 : Cond.fieldLink RX8 110 "MirrorBenchModel" "fMany" "I" ∈ wsX8_longest := by decide +kernel
  have f116 : Cond.fieldLink RX8 116 "MirrorBenchModel" "f" "[I" ∈ wsX8_longest := by decide +kernel
  have w8 : ∀ w ∈ wsX80, w ∈ wsX8_longest := by decide +kernel
  show Wk E g 5 S 0 [(0, vr g 30 0), (1, vi a)] []
  have hfS : Fr tR S S := Fr.rfl _ S
  have hRS := hRS.fr hfS
  have hnS := hRS.n
  have enS : S 30 0 0 = S 30 0 0 := hfS 30 0 0 (by unfold tR; omega)
  have hnS := hRS.n
  have hnn : (rn S : Int) = S 30 0 0 := by unfold rn; omega
  refine kw_iload_n hC dX8_longest_0 rfl 1 rfl ?_
  refine kw_callS hC (d_X8_isSlot hD (by omega)) gX8_longest_X8_isSlot rfl ⟨rfl, rfl⟩ 1 (by decide +kernel) ⟨by decide, by decide⟩ rfl rfl (Nat.le_of_ble_eq_true rfl) dX8_longest_1 rfl (kd_ie ?_)
  refine kw_ifne_b (tgt := 9) hC dX8_longest_4 rfl (by decide) ⟨fun c4 => ?_, fun c4 => ?_⟩
  · refine kw_aload_n hC dX8_longest_9 rfl 0 rfl ?_
    refine kw_callV hC (f_X8_ends hD hRS) gX8_longest_X8_ends ⟨_, rfl⟩ rfl (by decide) (by decide) rfl ⟨rfl, rfl⟩ 0 (by decide +kernel) ⟨by decide, by decide⟩ rfl rfl (Nat.le_of_ble_eq_true rfl) dX8_longest_10 rfl (kd_i (fun r2 S2 hp2 => ?_))
    obtain ⟨hg2, hp2⟩ := hp2
    have hfS2 : Fr tR S S2 := hfS.trans (hg2.mono (fun k i j h => by unfold fR at h; unfold tR; omega))
    have hRS2 := hRS.fr hfS2
    have hnS2 := hRS2.n
    have enS2 : S2 30 0 0 = S 30 0 0 := hfS2 30 0 0 (by unfold tR; omega)
    have hen := hp2
    have hb2 : (-2 : Int) ≤ r2 ∧ r2 ≤ 60 := by rcases hp2 with z | z <;> omega
    refine kw_if_ge (tgt := 19) hC dX8_longest_13 rfl (by decide) (by omega) ⟨fun c13 => ?_, fun c13 => ?_⟩
    · obtain ⟨hb9, hNB, hEP⟩ := hen.resolve_left (fun z => by omega)
      obtain ⟨L, hL⟩ := roots_of2 hRS.set.mok (by omega) hNB
      have hL : EndL (mxz (S 42 0)) (S 30 0 0).toNat L := hL
      have hEk : EndL (rM S) (rn S) L := hL.cg (fun i j hi hj => rM_in hi hj)
      have hkm := hRS.mB
      refine kw_aload_n hC dX8_longest_19 rfl 0 rfl ?_
      refine kw_iconst hC dX8_longest_20 rfl ?_
      refine kp_30_8 hC w8 f92 dX8_longest_21 rfl (by decide) (by decide) ?_
      refine kw_hv hfS2 (by unfold tR; omega) (fun S4 hfS4 hv4 ho4 => ?_)
      have hRS4 := hRS.fr hfS4
      have hnS4 := hRS4.n
      have enS4 : S4 30 0 0 = S 30 0 0 := hfS4 30 0 0 (by unfold tR; omega)
      have x8 := hv4
      refine kw_aload_n hC dX8_longest_24 rfl 0 rfl ?_
      refine kw_iconst hC dX8_longest_25 rfl ?_
      refine kp_30_16 hC w8 f81 dX8_longest_26 rfl (by decide) (by decide) (by omega) ?_
      refine kw_hv hfS4 (by unfold tR; omega) (fun S5 hfS5 hv5 ho5 => ?_)
      have hRS5 := hRS.fr hfS5
      have hnS5 := hRS5.n
      have enS5 : S5 30 0 0 = S 30 0 0 := hfS5 30 0 0 (by unfold tR; omega)
      have y8 : S5 30 0 8 = 0 := (ho5 30 0 8 (by omega)).trans x8
      have x16 := hv5
      refine kw_iconst hC dX8_longest_29 rfl ?_
      refine kw_istore_n (lv' := [(2, _), (0, _), (1, _)]) hC dX8_longest_30 rfl (by decide) rfl ?_
      have hL31 : ∀ (n31 : Nat) (s : Int) (W31 : wSt), Fr tR S W31 → (0 ≤ s) → (s ≤ S 30 0 0) → (W31 30 0 16 = 0) → (WV (W31 47 0) (W31 30 0 8) (W31 30 0 0)) → (0 ≤ W31 30 0 8) → (W31 30 0 8 ≤ 36) → (rR W31 = lgr (rM S) (rn S) (W31 30 0 8).toNat) → (lup (rM S) (rn S) (rR W31) (rn S - s.toNat) = lup (rM S) (rn S) (rR W31) (rn S)) → (s ≤ 6) → 7 * (36 - W31 30 0 8) + 6 - s < (n31 : Int) → Wk E g 5 W31 31 [(0, vr g 30 0), (1, vi a), (2, vi s)] [] := by
        intro n31
        induction n31 with
        | zero => intro s W31 hfW31 s0 s1 hg0 hrv r0 r1 hrl hlu s6 hm31; exact absurd hm31 (by omega)
        | succ n31 ih31 =>
          intro s W31 hfW31 s0 s1 hg0 hrv r0 r1 hrl hlu s6 hm31
          have hRW31 := hRS.fr hfW31
          have hnW31 := hRW31.n
          have enW31 : W31 30 0 0 = S 30 0 0 := hfW31 30 0 0 (by unfold tR; omega)
          refine kw_iload_n hC dX8_longest_31 rfl 2 rfl ?_
          refine kw_aload_n hC dX8_longest_32 rfl 0 rfl ?_
          refine kg_30_0 hC w8 f11 dX8_longest_33 rfl (by decide) (by decide) ?_
          refine kw_icmp_ge (tgt := 78) hC dX8_longest_36 rfl (by decide) (by omega) (by omega) ⟨fun c36 => ?_, fun c36 => ?_⟩
          · refine kw_aload_n hC dX8_longest_78 rfl 0 rfl ?_
            refine kw_callV hC (f_X8_formOfR hD hRW31 hrv (by omega) (by omega)) gX8_longest_X8_formOfR ⟨_, rfl⟩ rfl (by decide) (by decide) rfl ⟨rfl, rfl⟩ 0 (by decide +kernel) ⟨by decide, by decide⟩ rfl rfl (Nat.le_of_ble_eq_true rfl) dX8_longest_79 rfl (kd_i (fun r7 S7 hp7 => ?_))
            obtain ⟨hg7, hp7⟩ := hp7
            have hfS7 : Fr tR S S7 := hfW31.trans (hg7.mono (fun k i j h => by unfold fF at h; unfold tR; omega))
            have hRS7 := hRS.fr hfS7
            have hnS7 := hRS7.n
            have enS7 : S7 30 0 0 = S 30 0 0 := hfS7 30 0 0 (by unfold tR; omega)
            obtain ⟨⟨f0, f1⟩, hfv, hB⟩ := hp7
            rw [rM_eq (W := W31) (S := S) (hfW31 30 0 0 (by unfold tR; omega)) (fun j => hfW31 42 0 j (by unfold tR; omega)), rn_eq (W := W31) (S := S) (hfW31 30 0 0 (by unfold tR; omega))] at hB
            obtain ⟨m9, hm9⟩ : ∃ z, z = (W31 30 0 8).toNat := ⟨_, rfl⟩
            have hfix := lg_e hrl hlu (by omega)
            rw [← hm9] at hfix hrl
            have hFo := foP_lgr hkm hEk m9
            rw [← hrl] at hFo
            obtain ⟨hB1, hB2, hB3⟩ := hB.resolve_left (fun z => by have h9 := z.2.2; rw [hFo] at h9; cases h9)
            rw [hFo] at hB3
            have hFc : rF S7 = lgr (rM S) (rn S) m9 := by rw [← hrl]; exact (Option.some.inj hB3).symm
            replace hfv : WV (S7 49 0) (S7 30 0 10) (S7 30 0 0) := hfv.eq (fun _ _ _ => rfl) rfl (by omega)
            obtain ⟨rZ, hrZ⟩ : ∃ z, z = r7 := ⟨_, rfl⟩
            rw [← hrZ]
            refine kw_istore_n (lv' := [(3, _), (0, _), (1, _), (2, _)]) hC dX8_longest_82 rfl (by decide) rfl ?_
            refine kw_aload_n hC dX8_longest_83 rfl 1 rfl ?_
            refine kw_aload_n hC dX8_longest_84 rfl 1 rfl ?_
            refine kg_30_10 hC w8 f110 dX8_longest_85 rfl (by decide) (by decide) ?_
            refine kp_30_14 hC w8 f57 dX8_longest_88 rfl (by decide) (by decide) ?_
            refine kw_hv hfS7 (by unfold tR; omega) (fun S8 hfS8 hv8 ho8 => ?_)
            have hRS8 := hRS.fr hfS8
            have hnS8 := hRS8.n
            have enS8 : S8 30 0 0 = S 30 0 0 := hfS8 30 0 0 (by unfold tR; omega)
            have x14 := hv8
            have e10_8 : S8 30 0 10 = S7 30 0 10 := ho8 30 0 10 (by omega)
            replace hfv : WV (S8 49 0) (S8 30 0 10) (S8 30 0 0) := hfv.eq (fun j _ _ => ho8 49 0 j (by omega)) e10_8 (ho8 30 0 0 (by omega))
            have hFc : rF S8 = lgr (rM S) (rn S) m9 := (wl_eq (ho8 30 0 10 (by omega)) (fun j _ _ => ho8 49 0 j (by omega))).trans hFc
            refine kw_iconst hC dX8_longest_91 rfl ?_
            refine kw_istore (lv' := [(4, _), (3, _), (0, _), (1, _), (2, _)]) hC dX8_longest_92 rfl (by decide) rfl ?_
            have hL94 : ∀ (n94 : Nat) (x : Int) (W94 : wSt), Fr tR S W94 → (0 ≤ x) → (x ≤ W94 30 0 10) → (W94 30 0 14 = W94 30 0 10) → (0 ≤ W94 30 0 10) → (W94 30 0 10 ≤ 100) → (WV (W94 53 0) x (W94 30 0 0)) → (WV (W94 49 0) (W94 30 0 10) (W94 30 0 0)) → (rF W94 = lgr (rM S) (rn S) m9) → (∀ j, 0 ≤ j → j < x → W94 53 0 j = W94 49 0 j) → W94 30 0 10 - x < (n94 : Int) → Wk E g 5 W94 94 [(0, vr g 30 0), (1, vi a), (2, vi s), (3, vi rZ), (4, vi x)] [] := by
              intro n94
              induction n94 with
              | zero => intro x W94 hfW94 x0 x1 q14 f0 f1 hx hfv hFc hcp hm94; exact absurd hm94 (by omega)
              | succ n94 ih94 =>
                intro x W94 hfW94 x0 x1 q14 f0 f1 hx hfv hFc hcp hm94
                have hRW94 := hRS.fr hfW94
                have hnW94 := hRW94.n
                have enW94 : W94 30 0 0 = S 30 0 0 := hfW94 30 0 0 (by unfold tR; omega)
                refine kw_iload hC dX8_longest_94 rfl 4 rfl ?_
                refine kw_aload_n hC dX8_longest_96 rfl 0 rfl ?_
                refine kg_30_10 hC w8 f110 dX8_longest_97 rfl (by decide) (by decide) ?_
                refine kw_icmp_ge (tgt := 123) hC dX8_longest_100 rfl (by decide) (by omega) (by omega) ⟨fun c100 => ?_, fun c100 => ?_⟩
                · have hwv : WV (W94 53 0) (W94 30 0 14) (W94 30 0 0) := hx.eq (fun _ _ _ => rfl) (by omega) rfl
                  have eW9 : rW W94 = lgr (rM S) (rn S) m9 := (wl_eq q14 (fun j j0 j1 => hcp j j0 (by omega))).trans hFc
                  refine kw_aload_n hC dX8_longest_123 rfl 0 rfl ?_
                  refine kw_iload_n hC dX8_longest_124 rfl 1 rfl ?_
                  refine kw_callV hC (d_X8_store hD (by omega) (by omega) hRW94 hwv (by omega) (by omega)) gX8_longest_X8_store ⟨_, rfl⟩ rfl (by decide) (by decide) rfl ⟨rfl, rfl⟩ 1 (by decide +kernel) ⟨by decide, by decide⟩ rfl rfl (Nat.le_of_ble_eq_true rfl) dX8_longest_125 rfl (kd_i (fun r9 Sz hp9 => ?_))
                  exact hR9.1 rfl _ _ _ _ dX8_longest_128 (by first | (exfalso; omega) | exact ⟨_, rfl, hRW94, tR_tW hfW94, by rw [fLg_b (by omega), rSl_tR hfW94]⟩ | exact ⟨_, rfl, hRW94, tR_tW hfW94, by rw [fLg_n (by omega) (fun L hL => (hen.resolve_right (fun z => by omega)).2 L (hL.1.cg (fun i j hi hj => (rM_in hi hj).symm))), rSl_tR hfW94]⟩ | exact ⟨_, rfl, hp9.2.1, (tR_tW hfW94).trans (fV_tW hp9.2.2.1), by rw [fLg_s hkm (by omega) hEk hfix]; exact st_f hRW94 (by omega) (by omega) (by omega) (by omega) hp9 (rSl_tR hfW94) eW9⟩)
                · refine kw_aload_n hC dX8_longest_103 rfl 0 rfl ?_
                  refine kg_30_13 hC w8 f60 dX8_longest_104 rfl (by decide) (by decide) ?_
                  refine kw_iload hC dX8_longest_107 rfl 4 rfl ?_
                  refine kw_aload_n hC dX8_longest_109 rfl 0 rfl ?_
                  refine kg_30_9 hC w8 f116 dX8_longest_110 rfl (by decide) (by decide) ?_
                  refine kw_iload hC dX8_longest_113 rfl 4 rfl ?_
                  refine ka_49 hC dX8_longest_115 rfl (by decide) (by decide) (by omega) (by omega) ?_
                  have hvx := hfv x (by omega) (by omega)
                  refine ks_53 hC dX8_longest_116 rfl (by decide) (by decide) (by omega) (by omega) ?_
                  refine kw_hv hfW94 (by unfold tR; omega) (fun S10 hfS10 hv10 ho10 => ?_)
                  have hRS10 := hRS.fr hfS10
                  have hnS10 := hRS10.n
                  have enS10 : S10 30 0 0 = S 30 0 0 := hfS10 30 0 0 (by unfold tR; omega)
                  have e10_10 : S10 30 0 10 = W94 30 0 10 := ho10 30 0 10 (by omega)
                  replace hfv : WV (S10 49 0) (S10 30 0 10) (S10 30 0 0) := hfv.eq (fun j _ _ => ho10 49 0 j (by omega)) e10_10 (ho10 30 0 0 (by omega))
                  have e14_10 : S10 30 0 14 = W94 30 0 14 := ho10 30 0 14 (by omega)
                  have hx9 : WV (S10 53 0) (x + 1) (S10 30 0 0) := (hx.add (fun j hj => ho10 53 0 j (by omega)) (by rw [hv10]; exact hvx)).eq (fun _ _ _ => rfl) rfl (ho10 30 0 0 (by omega))
                  have hFc9 : rF S10 = lgr (rM S) (rn S) m9 := (wl_eq (ho10 30 0 10 (by omega)) (fun j _ _ => ho10 49 0 j (by omega))).trans hFc
                  have hcp9 : ∀ j, 0 ≤ j → j < x + 1 → S10 53 0 j = S10 49 0 j := fun j j0 j1 => by rw [ho10 49 0 j (by omega)]; rcases Decidable.em (j = x) with e | e; exact (by rw [e]; exact hv10); exact (ho10 53 0 j (by omega)).trans (hcp j j0 (by omega))
                  refine kw_iinc (lv' := [(4, _), (0, _), (1, _), (2, _), (3, _)]) hC dX8_longest_117 rfl 4 rfl (by decide) rfl ?_
                  refine kw_goto (tgt := 94) hC dX8_longest_120 rfl (by decide) ?_
                  refine kw_lv [1, 2, 3, 4, 0] rfl ?_
                  exact ih94 (x + 1) S10 hfS10 (by omega) (by omega) (by omega) (by omega) (by omega) hx9 hfv hFc9 hcp9 (by omega)
            refine kw_lv [2, 3, 4, 1, 0] rfl ?_
            exact hL94 101 0 S8 hfS8 (by omega) (by omega) (by omega) (by omega) (by omega) (fun j _ _ => by omega) hfv hFc (fun j _ _ => by omega) (by omega)
          · refine kw_aload_n hC dX8_longest_39 rfl 0 rfl ?_
            refine kw_iload_n hC dX8_longest_40 rfl 2 rfl ?_
            refine kw_callV hC (f_X8_behind hD (by omega) (by omega) hRW31 hrv (by omega) (by omega) (by omega)) gX8_longest_X8_behind ⟨_, rfl⟩ rfl (by decide) (by decide) rfl ⟨rfl, rfl⟩ 1 (by decide +kernel) ⟨by decide, by decide⟩ rfl rfl (Nat.le_of_ble_eq_true rfl) dX8_longest_41 rfl (kd_i (fun r11 S11 hp11 => ?_))
            obtain ⟨hg11, hp11⟩ := hp11
            have hfS11 : Fr tR S S11 := hfW31.trans (hg11.mono (fun k i j h => by unfold fT at h; unfold tR; omega))
            have hRS11 := hRS.fr hfS11
            have hnS11 := hRS11.n
            have enS11 : S11 30 0 0 = S 30 0 0 := hfS11 30 0 0 (by unfold tR; omega)
            rw [rM_eq (W := W31) (S := S) (hfW31 30 0 0 (by unfold tR; omega)) (fun j => hfW31 42 0 j (by unfold tR; omega)), rn_eq (W := W31) (S := S) (hfW31 30 0 0 (by unfold tR; omega))] at hp11
            have hbL := bhL (fun i _ => hkm.1 i) hEk.1 (l := rR W31) (s := s.toNat) (by rw [hrl]; exact (GrW_lgr hkm hEk _).1) (by omega)
            obtain ⟨hb4, hbr, hgn11⟩ := hp11.resolve_left (fun z => hbL.1 z.1)
            have hbrg := bh_r (rM S) (rn S) (rR W31) s.toNat
            have hlRW31 : ((rR W31).length : Int) = W31 30 0 8 := by unfold rR; rw [wl_len]; omega
            obtain ⟨hlA, hlB⟩ := lup_s hlu s0 (by omega)
            have e8_11 : S11 30 0 8 = W31 30 0 8 := hg11 30 0 8 (by unfold fT; omega)
            replace hrv : WV (S11 47 0) (S11 30 0 8) (S11 30 0 0) := hrv.eq (fun j _ _ => hg11 47 0 j (by unfold fT; omega)) e8_11 (hg11 30 0 0 (by unfold fT; omega))
            have eR9 : rR S11 = rR W31 := wl_eq e8_11 (fun j _ _ => hg11 47 0 j (by unfold fT; omega))
            have hrlE : rR S11 = lgr (rM S) (rn S) (S11 30 0 8).toNat := by rw [eR9, e8_11]; exact hrl
            have hluE : bh (rM S) (rn S) (rR W31) s.toNat ≠ -1 → lup (rM S) (rn S) (rR S11) (rn S - (s + 1).toNat) = lup (rM S) (rn S) (rR S11) (rn S) := fun z => by rw [eR9]; exact hlB z
            refine kw_if_ge (tgt := 72) hC dX8_longest_44 rfl (by decide) (by omega) ⟨fun c44 => ?_, fun c44 => ?_⟩
            · refine kw_iinc (lv' := [(2, _), (0, _), (1, _)]) hC dX8_longest_72 rfl 2 rfl (by decide) rfl ?_
              refine kw_goto (tgt := 31) hC dX8_longest_75 rfl (by decide) ?_
              refine kw_lv [1, 2, 0] rfl ?_
              exact ih31 _ S11 hfS11 (by omega) (by omega) (by omega) hrv (by omega) (by omega) (by first | exact hrlN | exact hrlE) (by first | exact hluE (by omega) | rfl) (by omega) (by omega)
            · refine kw_aload_n hC dX8_longest_47 rfl 0 rfl ?_
              refine kg_30_7 hC w8 f95 dX8_longest_48 rfl (by decide) (by decide) ?_
              refine kw_aload_n hC dX8_longest_51 rfl 0 rfl ?_
              refine kg_30_8 hC w8 f92 dX8_longest_52 rfl (by decide) (by decide) ?_
              refine kw_iload_n hC dX8_longest_55 rfl 2 rfl ?_
              refine ks_47 hC dX8_longest_56 rfl (by decide) (by decide) (by omega) (by omega) ?_
              refine kw_hv hfS11 (by unfold tR; omega) (fun S13 hfS13 hv13 ho13 => ?_)
              have hRS13 := hRS.fr hfS13
              have hnS13 := hRS13.n
              have enS13 : S13 30 0 0 = S 30 0 0 := hfS13 30 0 0 (by unfold tR; omega)
              have hvA := hv13
              have hoA := ho13
              have e8_Y : S13 30 0 8 = S11 30 0 8 := ho13 30 0 8 (by omega)
              have e8_13 : S13 30 0 8 = S11 30 0 8 := ho13 30 0 8 (by omega)
              have e1613 : S13 30 0 16 = S11 30 0 16 := ho13 30 0 16 (by omega)
              have hr7 : WV (S13 47 0) (S11 30 0 8 + 1) (S13 30 0 0) := (hrv.add (fun j hj => ho13 47 0 j (by omega)) (by rw [hv13]; omega)).eq (fun _ _ _ => rfl) rfl (ho13 30 0 0 (by omega))
              have eRA : wl (S13 47 0) (S11 30 0 8 + 1).toNat = rR S11 ++ [s.toNat] := wl_add (by omega) (fun j _ _ => ho13 47 0 j (by omega)) hvA
              refine kw_aload_n hC dX8_longest_57 rfl 0 rfl ?_
              refine kw_dup hC dX8_longest_58 rfl rfl ?_
              refine kg_30_8 hC w8 f92 dX8_longest_59 rfl (by decide) (by decide) ?_
              refine kw_iconst hC dX8_longest_62 rfl ?_
              refine kw_iadd hC dX8_longest_63 rfl ?_
              refine kp_30_8 hC w8 f92 dX8_longest_64 rfl (by decide) (by decide) ?_
              refine kw_hv hfS13 (by unfold tR; omega) (fun S14 hfS14 hv14 ho14 => ?_)
              have hRS14 := hRS.fr hfS14
              have hnS14 := hRS14.n
              have enS14 : S14 30 0 0 = S 30 0 0 := hfS14 30 0 0 (by unfold tR; omega)
              have x8 := hv14
              have y16 : S14 30 0 16 = S13 30 0 16 := ho14 30 0 16 (by omega)
              have hrv : WV (S14 47 0) (S14 30 0 8) (S14 30 0 0) := hr7.eq (fun j _ _ => ho14 47 0 j (by omega)) (by omega) (ho14 30 0 0 (by omega))
              have hrlN : rR S14 = lgr (rM S) (rn S) (S14 30 0 8).toNat := lg_t hrlE (by omega) (by rw [eR9]; exact hlA (by omega)) s0 (by rw [← eRA]; exact wl_eq (by omega) (fun j _ _ => ho14 47 0 j (by omega))) (by omega)
              have hl9 := lgr_len hkm hEk (S14 30 0 8).toNat
              rw [← hrlN] at hl9
              unfold rR at hl9
              rw [wl_len] at hl9
              refine kw_iconst hC dX8_longest_67 rfl ?_
              refine kw_istore_n (lv' := [(2, _), (0, _), (1, _)]) hC dX8_longest_68 rfl (by decide) rfl ?_
              refine kw_goto (tgt := 31) hC dX8_longest_69 rfl (by decide) ?_
              refine kw_lv [1, 2, 0] rfl ?_
              exact ih31 _ S14 hfS14 (by omega) (by omega) (by omega) hrv (by omega) (by omega) (by first | exact hrlN | exact hrlE) (by first | exact hluE (by omega) | rfl) (by omega) (by omega)
      refine kw_lv [1, 2, 0] rfl ?_
      exact hL31 300 0 S5 hfS5 (by omega) (by omega) (by omega) (fun j _ _ => by omega) (by omega) (by omega) (by unfold rR; rw [y8]; rfl) rfl (by omega) (by omega)
    · refine kw_bipush hC dX8_longest_16 rfl (by decide) ?_
      exact hR9.1 rfl _ _ _ _ dX8_longest_18 (by first | (exfalso; omega) | exact ⟨_, rfl, hRS2, tR_tW hfS2, by rw [fLg_b (by omega), rSl_tR hfS2]⟩ | exact ⟨_, rfl, hRS2, tR_tW hfS2, by rw [fLg_n (by omega) (fun L hL => (hen.resolve_right (fun z => by omega)).2 L (hL.1.cg (fun i j hi hj => (rM_in hi hj).symm))), rSl_tR hfS2]⟩ | exact ⟨_, rfl, hp9.2.1, (tR_tW hfS2).trans (fV_tW hp9.2.2.1), by rw [fLg_s hkm (by omega) hEk hfix]; exact st_f hRS2 (by omega) (by omega) (by omega) (by omega) hp9 (rSl_tR hfS2) eW9⟩)
  · refine kw_iconst hC dX8_longest_7 rfl ?_
    exact hR9.1 rfl _ _ _ _ dX8_longest_8 (by first | (exfalso; omega) | exact ⟨_, rfl, hRS, tR_tW hfS, by rw [fLg_b (by omega), rSl_tR hfS]⟩ | exact ⟨_, rfl, hRS, tR_tW hfS, by rw [fLg_n (by omega) (fun L hL => (hen.resolve_right (fun z => by omega)).2 L (hL.1.cg (fun i j hi hj => (rM_in hi hj).symm))), rSl_tR hfS]⟩ | exact ⟨_, rfl, hp9.2.1, (tR_tW hfS).trans (fV_tW hp9.2.2.1), by rw [fLg_s hkm (by omega) hEk hfix]; exact st_f hRS (by omega) (by omega) (by omega) (by omega) hp9 (rSl_tR hfS) eW9⟩)
end
