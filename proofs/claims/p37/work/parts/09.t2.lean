theorem ext_p {f f' : Int → Int} (P : Int → Int → Prop) {x : Int} (h : ∀ j, 0 ≤ j → j < x → P j (f j)) (ho : ∀ j, j ≠ x → f' j = f j) (hv : P x (f' x)) : ∀ j, 0 ≤ j → j < x + 1 → P j (f' j) := fun j h0 h1 => by
  by_cases e : j = x
  · rw [e]; exact hv
  · rw [ho j e]; exact h j h0 (by omega)
/-- what number a of the root becomes as it is turned by a, of the first x mirrors -/
def tvf (S : wSt) (a : Int) (k : Nat) : Int := if (k : Int) = a then 0 else S 42 0 (6 * a + (k : Int)) * S 55 0 (k : Int)
def tvp (S : wSt) (a x : Int) : Int := 0 - S 55 0 a + sm x.toNat (tvf S a)
theorem tvp_0 (S : wSt) (a : Int) : tvp S a 0 = 0 - S 55 0 a := by unfold tvp; simp [sm]
theorem tvp_s (S : wSt) (a : Int) {x : Int} (hx : 0 ≤ x) : tvp S a (x + 1) = tvp S a x + (if x = a then 0 else S 42 0 (6 * a + x) * S 55 0 x) := by
  unfold tvp
  rw [show (x + 1).toNat = x.toNat + 1 by omega, sm]
  unfold tvf
  rw [Int.toNat_of_nonneg hx]
  omega
/-- the root that a word that stands at its x-th letter has made of mirror a's own one, in an ending set -/
def T2 (S W : wSt) (a x : Int) : Prop := ∀ L, RLi (mxz (S 42 0)) (S 30 0 0).toNat L → 0 ≤ a → a < S 30 0 0 → S 30 0 16 = 0 → W 30 0 16 = 0 ∧ NB (mxz (S 42 0)) (S 30 0 0).toNat ((wl (S 47 0) (S 30 0 8).toNat).drop (x + 1).toNat) a.toNat ∧ ∀ j : Nat, j < (S 30 0 0).toNat → W 55 0 (j : Int) = act (mxz (S 42 0)) (S 30 0 0).toNat ((wl (S 47 0) (S 30 0 8).toNat).drop (x + 1).toNat) (ownV a.toNat) j
theorem T2_start {S W : wSt} {a : Int} (hm : 0 ≤ S 30 0 8) (h16 : W 30 0 16 = S 30 0 16) (ho : ∀ j, 0 ≤ j → j < 6 → W 55 0 j = if j = a then 1 else 0) (hn : 0 ≤ S 30 0 0 ∧ S 30 0 0 ≤ 6) : T2 S W a (S 30 0 8 - 1) := by
  intro L hL a0 a1 hg
  rw [show (S 30 0 8 - 1 + 1).toNat = (S 30 0 8).toNat by omega, List.drop_eq_nil_of_le (by rw [wl_len]; omega)]
  refine ⟨by rw [h16]; exact hg, trivial, fun j hj => ?_⟩
  rw [ho j (by omega) (by omega)]
  unfold act ownV
  by_cases e : j = a.toNat
  · rw [if_pos e, if_pos (by omega)]
  · rw [if_neg e, if_neg (by omega)]
theorem T2_step {S W W' : wSt} {a x : Int} (h : T2 S W a x) (hR : RI S) (hw : WV (S 47 0) (S 30 0 8) (S 30 0 0)) (x0 : 0 ≤ x) (x1 : x < S 30 0 8) (e42 : W 42 0 = S 42 0) (e0 : W 30 0 0 = S 30 0 0) (hno : ¬ ∀ j, 0 ≤ j → j < W 30 0 0 → nl (W 55 0 j) = if j = S 47 0 x then 1 else 0) (hv : W' 55 0 (S 47 0 x) = tvp W (S 47 0 x) (W 30 0 0)) (ho : ∀ j, j ≠ S 47 0 x → W' 55 0 j = W 55 0 j) (hg : W' 30 0 16 = bz (ni (W 30 0 16) ≠ 0 ∨ ¬ (-1000000000000 ≤ nl (tvp W (S 47 0 x) (W 30 0 0)) ∧ nl (tvp W (S 47 0 x) (W 30 0 0)) ≤ 1000000000000))) : T2 S W' a (x - 1) := by
  intro L hL a0 a1 hz
  obtain ⟨g1, g2, g3⟩ := h L hL a0 a1 hz
  have hn := hR.n
  have hr := hw x x0 x1
  rw [e0] at hno
  have ed : (wl (S 47 0) (S 30 0 8).toNat).drop x.toNat = (S 47 0 x).toNat :: (wl (S 47 0) (S 30 0 8).toNat).drop (x + 1).toNat := by
    have := wl_drop (S 47 0) (m := (S 30 0 8).toNat) (k := x.toNat) (by omega)
    rw [Int.toNat_of_nonneg x0] at this
    rw [this, show x.toNat + 1 = (x + 1).toNat by omega]
  have hlet : ∀ i, i ∈ (wl (S 47 0) (S 30 0 8).toNat).drop (x + 1).toNat → i < (S 30 0 0).toNat := fun i hi => wl_mem (fun k hk => by
    have := hw k (by omega) (by omega)
    omega) i (List.mem_of_mem_drop hi)
  have hy := NB.mem hL (by omega) hlet g2
  rw [show (x - 1 + 1).toNat = x.toNat by omega, ed]
  have hne : act (mxz (S 42 0)) (S 30 0 0).toNat ((wl (S 47 0) (S 30 0 8).toNat).drop (x + 1).toNat) (ownV a.toNat) ≠ ownV (S 47 0 x).toNat := fun e => hno (fun j j0 j1 => by
    have h5 := g3 j.toNat (by omega)
    rw [e, Int.toNat_of_nonneg j0] at h5
    rw [h5]
    unfold ownV
    by_cases e : j = S 47 0 x
    · rw [if_pos e, if_pos (by omega)]; exact nl_e (by omega)
    · rw [if_neg e, if_neg (by omega)]; exact nl_e (by omega))
  have hz2 : (mxz (S 42 0)) (S 47 0 x).toNat (S 47 0 x).toNat = 0 := hR.set.mok.z _ (by omega)
  have et : tvp W (S 47 0 x) (W 30 0 0) = rfx (mxz (S 42 0)) (S 30 0 0).toNat (act (mxz (S 42 0)) (S 30 0 0).toNat ((wl (S 47 0) (S 30 0 8).toNat).drop (x + 1).toNat) (ownV a.toNat)) (S 47 0 x).toNat (S 47 0 x).toNat := by
    generalize hy9 : act (mxz (S 42 0)) (S 30 0 0).toNat ((wl (S 47 0) (S 30 0 8).toNat).drop (x + 1).toNat) (ownV a.toNat) = y at *
    unfold tvp rfx prg
    rw [if_pos rfl, e0]
    have h5 := g3 (S 47 0 x).toNat (by omega)
    rw [Int.toNat_of_nonneg hr.1] at h5
    rw [h5]
    have h6 : sm (S 30 0 0).toNat (tvf W (S 47 0 x)) = sm (S 30 0 0).toNat (fun j => mxz (S 42 0) (S 47 0 x).toNat j * y j) := sm_congr (fun j hj => by
      unfold tvf
      by_cases e : (j : Int) = S 47 0 x
      · rw [if_pos e]
        have e2 : j = (S 47 0 x).toNat := by omega
        rw [e2, hz2]; omega
      · rw [if_neg e, e42, g3 j hj]
        unfold mxz
        rw [Int.toNat_of_nonneg hr.1])
    rw [h6]
    omega
  have hin := (hL.cl _ hy (S 47 0 x).toNat (by omega)).resolve_left hne
  have hnn := hL.nn _ hin (S 47 0 x).toNat
  rw [← et] at hnn
  refine ⟨?_, ⟨hne, g2⟩, fun j hj => ?_⟩
  · rw [hg, nl_e (by omega)]
    exact bz_f (fun q => by rcases q with q | q; exact q (by rw [g1]; rfl); exact q (by omega))
  · by_cases e : (j : Int) = S 47 0 x
    · have e2 : j = (S 47 0 x).toNat := by omega
      rw [e, hv, et]
      show _ = rfx _ _ (act _ _ _ _) _ j
      rw [e2]
    · rw [ho j e, g3 j hj]
      show _ = rfx _ _ (act _ _ _ _) _ j
      unfold rfx
      rw [if_neg (fun e2 => e (by omega))]
theorem T2_end {S W : wSt} {a : Int} (h : T2 S W a (-1)) : ∀ L, RLi (mxz (S 42 0)) (S 30 0 0).toNat L → 0 ≤ a → a < S 30 0 0 → S 30 0 16 = 0 → W 30 0 16 = 0 ∧ NB (mxz (S 42 0)) (S 30 0 0).toNat (wl (S 47 0) (S 30 0 8).toNat) a.toNat := fun L hL a0 a1 hz => by
  obtain ⟨g1, g2, -⟩ := h L hL a0 a1 hz
  exact ⟨g1, g2⟩
