/-! the closed list of roots, the images of a weight -/
/-- what number k of v becomes as v is turned by i -/
def twv (mt : Int → Int) (n : Int) (v : Int → Int) (i k : Int) : Int := if k = i then 0 - v i + sm n.toNat (fun j => if (j : Int) = i then 0 else mt (6 * i + (j : Int)) * v (j : Int)) else v k
theorem twv_congr {mt : Int → Int} {n : Int} {v w : Int → Int} {i k : Int} (hn : 0 ≤ n ∧ n ≤ 6) (i0 : 0 ≤ i) (i1 : i < 6) (k0 : 0 ≤ k) (k1 : k < 6) (h : ∀ j, 0 ≤ j → j < 6 → v j = w j) : twv mt n v i k = twv mt n w i k := by
  unfold twv
  rw [h i i0 i1, h k k0 k1]
  congr 2
  exact sm_congr (fun j hj => by rw [h (j : Int) (by omega) (by omega)])
theorem twv_rfx {mt : Int → Int} {n : Int} {v : Int → Int} {x : Nat → Int} {i : Nat} (hn : 0 ≤ n ∧ n ≤ 6) (hi : i < n.toNat) (hz : mt (6 * (i : Int) + (i : Int)) = 0) (h : ∀ k : Nat, k < 6 → v (k : Int) = x k) {k : Nat} (hk : k < 6) : twv mt n v (i : Int) (k : Int) = rfx (mxz mt) n.toNat x i k := by
  unfold twv rfx
  by_cases e : k = i
  · subst e
    rw [if_pos rfl, if_pos rfl, h k hk]
    unfold prg
    have e1 : sm n.toNat (fun j => if (j : Int) = (k : Int) then 0 else mt (6 * (k : Int) + (j : Int)) * v (j : Int)) = sm n.toNat (fun j => mxz mt k j * x j) := sm_congr (fun j hj => by
      by_cases e : j = k
      · subst e
        rw [if_pos rfl]
        show 0 = mt (6 * (j : Int) + (j : Int)) * x j
        rw [hz]; omega
      · rw [if_neg (by omega), h j (by omega)]
        rfl)
    rw [e1]
    omega
  · rw [if_neg (by omega), if_neg e, h k hk]
theorem closes_noB {n : Int} {kd mt f : Int → Int} {many : Int} (hs : sOK n kd mt) (hm : many ≤ 60) (hnm : n ≤ many) (hown : ∀ p k, 0 ≤ p → p < n → 0 ≤ k → k < 6 → f (6 * p + k) = if k = p then 1 else 0) (hcl : ∀ p i, 0 ≤ p → p < many → 0 ≤ i → i < n → (∀ j, 0 ≤ j → j < n → 0 ≤ nl (twv mt n (fun k => f (6 * p + k)) i j)) → ∃ q, 0 ≤ q ∧ q < many ∧ ∀ k, 0 ≤ k → k < 6 → f (6 * q + k) = nl (twv mt n (fun k => f (6 * p + k)) i k)) : NoB (mxz mt) n.toNat := by
  have hn := hs.1
  refine noB_of (fun x => ∃ q : Int, (0 ≤ q ∧ q < many) ∧ ∀ k : Nat, k < 6 → f (6 * q + (k : Int)) = x k) (fun i hi => ?_) (fun x i hi hP hr hz0 hp hr2 => ?_) (fun g h1 h2 _ => ?_)
  · refine ⟨(i : Int), ⟨by omega, by omega⟩, fun k hk => ?_⟩
    rw [hown _ _ (by omega) (by omega) (by omega) (by omega)]
    unfold ownV
    by_cases e : k = i
    · rw [if_pos e, if_pos (by omega)]
    · rw [if_neg e, if_neg (by omega)]
  · obtain ⟨q, hq, hx⟩ := hP
    have hz := hs.2.2.2.1 (i : Int) (by omega) (by omega)
    have ht : ∀ k : Nat, k < 6 → twv mt n (fun k => f (6 * q + k)) (i : Int) (k : Int) = rfx (mxz mt) n.toNat x i k := fun k hk => twv_rfx hn hi hz hx hk
    obtain ⟨q2, a, b, c⟩ := hcl q (i : Int) hq.1 hq.2 (by omega) (by omega) (fun j j0 j1 => by
      have h5 := ht j.toNat (by omega)
      have h6 := hr2 j.toNat
      rw [Int.toNat_of_nonneg j0] at h5
      rw [h5, nl_e (by omega)]
      exact h6.1)
    refine ⟨q2, ⟨a, b⟩, fun k hk => ?_⟩
    have h6 := hr2 k
    rw [c _ (by omega) (by omega), ht k hk, nl_e (by omega)]
  · have hq : ∀ m, m < 61 → ∃ q : Nat, (q : Int) < many ∧ ∀ k : Nat, k < 6 → f (6 * (q : Int) + (k : Int)) = g m k := fun m hm9 => by
      obtain ⟨⟨q, hq, hx⟩, -⟩ := h1 m hm9
      exact ⟨q.toNat, by omega, fun k hk => by rw [Int.toNat_of_nonneg hq.1]; exact hx k hk⟩
    have hc : ∃ q : Nat → Nat, ∀ m, m < 61 → (q m : Int) < many ∧ ∀ k : Nat, k < 6 → f (6 * (q m : Int) + (k : Int)) = g m k := by
      refine ⟨fun m => if h : m < 61 then Classical.choose (hq m h) else 0, fun m hm9 => ?_⟩
      have := Classical.choose_spec (hq m hm9)
      simp only [hm9, dif_pos]
      exact this
    obtain ⟨q, hq⟩ := hc
    have h5 := php (n := many.toNat) (k := 61) (f := q) (fun m hm9 => by have := (hq m hm9).1; omega) (fun a b ha hb e => by
      rcases Nat.lt_trichotomy a b with h | h | h
      · obtain ⟨j, hj, hne⟩ := h2 b a hb h
        exact (hne (by rw [← (hq b hb).2 j (by omega), ← (hq a ha).2 j (by omega), e])).elim
      · exact h
      · obtain ⟨j, hj, hne⟩ := h2 a b ha h
        exact (hne (by rw [← (hq b hb).2 j (by omega), ← (hq a ha).2 j (by omega), e])).elim)
    omega
/-- a row of six whole numbers as a list of images has them -/
def v6 (f : Int → Int) (p : Int) : Nat → Int := fun k => if k < 6 then f (6 * p + (k : Int)) else 0
/-- the images that stand are some of L, no two of them like -/
def WK (L : List (Nat → Int)) (f : Int → Int) (many : Int) : Prop := (∀ p, 0 ≤ p → p < many → v6 f p ∈ L) ∧ ∀ p q, 0 ≤ p → p < q → q < many → v6 f p ≠ v6 f q
theorem WK.len {L : List (Nat → Int)} {f : Int → Int} {many : Int} (h : WK L f many) : many ≤ (L.length : Int) := by
  haveI : DecidableEq (Nat → Int) := fun a b => Classical.propDecidable (a = b)
  have h1 : ((List.range many.toNat).map (fun (p : Nat) => v6 f (p : Int))).Nodup := by
    rw [List.nodup_iff_pairwise_ne, List.pairwise_map]
    refine List.Pairwise.imp_of_mem ?_ (List.nodup_iff_pairwise_ne.mp (List.nodup_range (n := many.toNat)))
    intro a b ha hb hne e
    have ha := List.mem_range.mp ha
    have hb := List.mem_range.mp hb
    rcases Nat.lt_or_gt_of_ne hne with q | q
    · exact h.2 a b (by omega) (by omega) (by omega) e
    · exact h.2 b a (by omega) (by omega) (by omega) e.symm
  have h2 := php_list (m := L) h1 (fun x hx => by
    obtain ⟨p, hp, rfl⟩ := List.mem_map.mp hx
    have := List.mem_range.mp hp
    exact h.1 p (by omega) (by omega))
  rw [List.length_map, List.length_range] at h2
  omega
theorem v6_eq {f g : Int → Int} {p q : Int} (h : ∀ k, 0 ≤ k → k < 6 → f (6 * p + k) = g (6 * q + k)) : v6 f p = v6 g q := by
  funext k
  unfold v6
  split
  · exact h k (by omega) (by omega)
  · rfl
theorem v6_at (f : Int → Int) (p : Int) {k : Nat} (hk : k < 6) : v6 f p k = f (6 * p + (k : Int)) := if_pos hk
theorem WK.keep {L : List (Nat → Int)} {f f' : Int → Int} {many : Int} (h : WK L f many) (hf : ∀ j, 0 ≤ j → j < 6 * many → f' j = f j) : WK L f' many := by
  have e : ∀ p, 0 ≤ p → p < many → v6 f' p = v6 f p := fun p p0 p1 => v6_eq (fun k k0 k1 => hf _ (by omega) (by omega))
  exact ⟨fun p p0 p1 => by rw [e p p0 p1]; exact h.1 p p0 p1, fun p q p0 pq q1 => by rw [e p p0 (by omega), e q (by omega) q1]; exact h.2 p q p0 pq q1⟩
theorem WK.add {L : List (Nat → Int)} {f f' : Int → Int} {many : Int} (h : WK L f many) (hm : 0 ≤ many) (hf : ∀ j, 0 ≤ j → j < 6 * many → f' j = f j) (hn : v6 f' many ∈ L) (hne : ∀ p, 0 ≤ p → p < many → ∃ k, 0 ≤ k ∧ k < 6 ∧ f (6 * p + k) ≠ f' (6 * many + k)) : WK L f' (many + 1) := by
  have h' := h.keep hf
  refine ⟨fun p p0 p1 => ?_, fun p q p0 pq q1 => ?_⟩
  · by_cases e : p = many
    · rw [e]; exact hn
    · exact h'.1 p p0 (by omega)
  · by_cases e : q = many
    · subst e
      intro e2
      obtain ⟨k, k0, k1, hk⟩ := hne p p0 (by omega)
      have h5 := congrFun e2 k.toNat
      rw [v6_at _ _ (by omega), v6_at _ _ (by omega), Int.toNat_of_nonneg k0, hf _ (by omega) (by omega)] at h5
      exact hk h5
    · exact h'.2 p q p0 pq (by omega)
theorem trn_twv {S W W' : wSt} {a : Int} (e42 : W 42 0 = S 42 0) (e0 : W 30 0 0 = S 30 0 0) (hn : 0 ≤ S 30 0 0 ∧ S 30 0 0 ≤ 6) (a0 : 0 ≤ a) (a1 : a < 6) (h1 : W' 55 0 a = tvp W a (W 30 0 0)) (h2 : ∀ j, j ≠ a → W' 55 0 j = W 55 0 j) {v : Int → Int} (hv : ∀ k, 0 ≤ k → k < 6 → W 55 0 k = v k) : ∀ k, 0 ≤ k → k < 6 → W' 55 0 k = twv (S 42 0) (S 30 0 0) v a k := fun k k0 k1 => by
  rw [← twv_congr hn a0 a1 k0 k1 hv]
  unfold twv
  by_cases e : k = a
  · rw [if_pos e, e, h1]
    unfold tvp
    rw [e0]
    congr 1
    exact sm_congr (fun j _ => by unfold tvf; rw [e42])
  · rw [if_neg e, h2 k e]
/-- the root p turned by i is not above, or stands in the list -/
def CLs (S W : wSt) (p i : Int) : Prop := (∀ j, 0 ≤ j → j < S 30 0 0 → 0 ≤ nl (twv (S 42 0) (S 30 0 0) (fun k => W 58 0 (6 * p + k)) i j)) → ∃ q, 0 ≤ q ∧ q < W 30 0 20 ∧ ∀ k, 0 ≤ k → k < 6 → W 58 0 (6 * q + k) = nl (twv (S 42 0) (S 30 0 0) (fun k => W 58 0 (6 * p + k)) i k)
theorem CLs.mono {S W W' : wSt} {p i : Int} (h : CLs S W p i) (hn : 0 ≤ S 30 0 0 ∧ S 30 0 0 ≤ 6) (i0 : 0 ≤ i) (i1 : i < 6) (p0 : 0 ≤ p) (p1 : p < W 30 0 20) (hm : W 30 0 20 ≤ W' 30 0 20) (hf : ∀ j, 0 ≤ j → j < 6 * W 30 0 20 → W' 58 0 j = W 58 0 j) : CLs S W' p i := by
  have e : ∀ k, 0 ≤ k → k < 6 → twv (S 42 0) (S 30 0 0) (fun k => W' 58 0 (6 * p + k)) i k = twv (S 42 0) (S 30 0 0) (fun k => W 58 0 (6 * p + k)) i k := fun k k0 k1 => twv_congr hn i0 i1 k0 k1 (fun j j0 j1 => hf _ (by omega) (by omega))
  intro ha
  obtain ⟨q, q0, q1, hq⟩ := h (fun j j0 j1 => by rw [← e j j0 (by omega)]; exact ha j j0 j1)
  exact ⟨q, q0, by omega, fun k k0 k1 => by rw [e k k0 k1, hf _ (by omega) (by omega)]; exact hq k k0 k1⟩
def CB (S W : wSt) (n i : Int) : Prop := (S 30 0 0 ≤ W 30 0 20 ∧ W 30 0 20 ≤ 61) ∧ (∀ p k, 0 ≤ p → p < S 30 0 0 → 0 ≤ k → k < 6 → W 58 0 (6 * p + k) = if k = p then 1 else 0) ∧ (∀ j, 0 ≤ j → j < 6 * W 30 0 20 → nl (W 58 0 j) = W 58 0 j) ∧ (W 30 0 20 ≤ 60 → (∀ p i', 0 ≤ p → p < n → 0 ≤ i' → i' < S 30 0 0 → CLs S W p i') ∧ ∀ i', 0 ≤ i' → i' < i → CLs S W n i')
theorem CB.eq {S W W' : wSt} {n i : Int} (h : CB S W n i) (hf : ∀ j, W' 58 0 j = W 58 0 j) (hm : W' 30 0 20 = W 30 0 20) : CB S W' n i := by
  unfold CB CLs
  rw [hm, show W' 58 0 = W 58 0 from funext hf]
  exact h
theorem CB.early {S W : wSt} {n i n' i' : Int} (h : CB S W n i) (hm : 61 ≤ W 30 0 20) : CB S W n' i' := ⟨h.1, h.2.1, h.2.2.1, fun q => by omega⟩
theorem CB.next {S W : wSt} {n i : Int} (h : CB S W n i) (hi : S 30 0 0 ≤ i) : CB S W (n + 1) 0 := ⟨h.1, h.2.1, h.2.2.1, fun q => ⟨fun p i' p0 p1 i0 i1 => by
  by_cases e : p = n
  · rw [e]; exact (h.2.2.2 q).2 i' i0 (by omega)
  · exact (h.2.2.2 q).1 p i' p0 (by omega) i0 i1, fun i' i0 i1 => by omega⟩⟩
theorem CB.low {S W : wSt} {n i : Int} (h : CB S W n i) {R : Int → Int} (hn : S 30 0 0 ≤ 6) (hR : ∀ k, 0 ≤ k → k < 6 → R k = twv (S 42 0) (S 30 0 0) (fun k => W 58 0 (6 * n + k)) i k) (hno : ¬ ∀ j, 0 ≤ j → j < S 30 0 0 → 0 ≤ nl (R j)) : CB S W n (i + 1) := ⟨h.1, h.2.1, h.2.2.1, fun q => ⟨(h.2.2.2 q).1, fun i' i0 i1 => by
  by_cases e : i' = i
  · rw [e]
    intro ha
    exact (hno (fun j j0 j1 => by rw [hR j j0 (by omega)]; exact ha j j0 j1)).elim
  · exact (h.2.2.2 q).2 i' i0 (by omega)⟩⟩
theorem CB.known {S W : wSt} {n i : Int} (h : CB S W n i) {R : Int → Int} (hR : ∀ k, 0 ≤ k → k < 6 → R k = twv (S 42 0) (S 30 0 0) (fun k => W 58 0 (6 * n + k)) i k) (hk : ∃ q, 0 ≤ q ∧ q < W 30 0 20 ∧ ∀ j, 0 ≤ j → j < 6 → nl (W 58 0 (6 * q + j)) = nl (R j)) : CB S W n (i + 1) := ⟨h.1, h.2.1, h.2.2.1, fun q => ⟨(h.2.2.2 q).1, fun i' i0 i1 => by
  by_cases e : i' = i
  · rw [e]
    intro _
    obtain ⟨p, p0, p1, hp⟩ := hk
    exact ⟨p, p0, p1, fun k k0 k1 => by rw [← h.2.2.1 _ (by omega) (by omega), hp k k0 k1, hR k k0 k1]⟩
  · exact (h.2.2.2 q).2 i' i0 (by omega)⟩⟩
theorem nl_nl (z : Int) : nl (nl z) = nl z := nl_e (nl_r z)
theorem CB.new {S W W' : wSt} {n i : Int} (h : CB S W n i) {R : Int → Int} (hn : 0 ≤ S 30 0 0 ∧ S 30 0 0 ≤ 6) (n0 : 0 ≤ n) (n1 : n < W 30 0 20) (i0 : 0 ≤ i) (i1 : i < S 30 0 0) (hR : ∀ k, 0 ≤ k → k < 6 → R k = twv (S 42 0) (S 30 0 0) (fun k => W 58 0 (6 * n + k)) i k) (hm : W' 30 0 20 = W 30 0 20 + 1) (hm1 : W 30 0 20 ≤ 60) (hf : ∀ j, 0 ≤ j → j < 6 * W 30 0 20 → W' 58 0 j = W 58 0 j) (hv : ∀ k, 0 ≤ k → k < 6 → W' 58 0 (6 * W 30 0 20 + k) = nl (R k)) : CB S W' n (i + 1) := by
  obtain ⟨h1, h2, h3, h4⟩ := h
  obtain ⟨h5, h6⟩ := h4 hm1
  refine ⟨by omega, fun p k p0 p1 k0 k1 => by rw [hf _ (by omega) (by omega)]; exact h2 p k p0 p1 k0 k1, fun j j0 j1 => ?_, fun q => ⟨fun p i' p0 p1 a b => (h5 p i' p0 p1 a b).mono hn a (by omega) p0 (by omega) (by omega) hf, fun i' a b => ?_⟩⟩
  · by_cases e : j < 6 * W 30 0 20
    · rw [hf j j0 e]; exact h3 j j0 e
    · have := hv (j - 6 * W 30 0 20) (by omega) (by omega)
      rw [show 6 * W 30 0 20 + (j - 6 * W 30 0 20) = j by omega] at this
      rw [this, nl_nl]
  · by_cases e : i' = i
    · rw [e]
      intro _
      refine ⟨W 30 0 20, by omega, by omega, fun k k0 k1 => ?_⟩
      rw [hv k k0 k1, hR k k0 k1]
      congr 1
      exact twv_congr hn i0 (by omega) k0 k1 (fun j j0 j1 => (hf _ (by omega) (by omega)).symm)
    · exact (h6 i' a (by omega)).mono hn a (by omega) n0 n1 (by omega) hf
theorem CB.noB {S W : wSt} {n i : Int} (h : CB S W n i) (hs : sOK (S 30 0 0) (S 41 0) (S 42 0)) (hn : W 30 0 20 ≤ n) (hm : W 30 0 20 ≤ 60) : NoB (mxz (S 42 0)) (S 30 0 0).toNat := by
  obtain ⟨h1, h2, -, h4⟩ := h
  exact closes_noB hs hm h1.1 h2 (fun p i p0 p1 i0 i1 => (h4 hm).1 p i p0 (by omega) i0 i1)
theorem v6_own {f : Int → Int} {p : Int} {a : Int} (a0 : 0 ≤ a) (a1 : a < 6) (h : ∀ k, 0 ≤ k → k < 6 → f (6 * p + k) = if k = a then 1 else 0) : v6 f p = ownV a.toNat := by
  funext k
  unfold v6 ownV
  by_cases e : k < 6
  · rw [if_pos e, h _ (by omega) (by omega)]
    by_cases q : k = a.toNat
    · rw [if_pos q, if_pos (by omega)]
    · rw [if_neg q, if_neg (by omega)]
  · rw [if_neg e, if_neg (by omega)]
theorem WK.rg {L : List (Nat → Int)} {f : Int → Int} {many : Int} (h : WK L f many) (hr : ∀ w, w ∈ L → ∀ b, -8 ≤ w b ∧ w b ≤ 8) : ∀ j, 0 ≤ j → j < 6 * many → -8 ≤ f j ∧ f j ≤ 8 := fun j j0 j1 => by
  have h1 := hr _ (h.1 (j / 6) (by omega) (by omega)) (j % 6).toNat
  rw [v6_at _ _ (by omega), Int.toNat_of_nonneg (by omega), show 6 * (j / 6) + j % 6 = j by omega] at h1
  exact h1
theorem orb_new {mt f f' : Int → Int} {L : List (Nat → Int)} {n i a many b : Int} (hc : ∀ w, w ∈ L → ∀ i, i ≤ a.toNat → wim (mxz mt) a.toNat w i ∈ L) (hz : ∀ w, w ∈ L → ∀ b, a.toNat < b → w b = 0) (hw : v6 f n ∈ L) (a0 : 0 ≤ a) (a1 : a < 6) (i0 : 0 ≤ i) (i1 : i ≤ a) (hb : b = f (6 * n + i)) (h : ∀ k, 0 ≤ k → k < 6 → f' (6 * many + k) = f (6 * n + k) + (if a < k then 0 else if k = i then -2 * b else b * mt (6 * k + i))) : v6 f' many ∈ L := by
  have h1 := hc _ hw i.toNat (by omega)
  have e : v6 f' many = wim (mxz mt) a.toNat (v6 f n) i.toNat := by
    funext k
    unfold wim
    by_cases e : k < 6
    · rw [v6_at _ _ e, v6_at _ _ e, v6_at _ _ (by omega), h _ (by omega) (by omega), Int.toNat_of_nonneg i0, ← hb]
      by_cases q : k ≤ a.toNat
      · rw [if_pos q, if_neg (by omega)]
        by_cases q2 : k = i.toNat
        · rw [if_pos q2, if_pos (by omega)]
          have : (k : Int) = i := by omega
          rw [this, ← hb]
          omega
        · rw [if_neg q2, if_neg (by omega)]
          unfold mxz
          rw [Int.toNat_of_nonneg i0]
      · rw [if_neg q, if_pos (by omega)]
        have := hz _ hw k (by omega)
        rw [v6_at _ _ e] at this
        omega
    · rw [if_neg (by omega)]
      exact if_neg e
  rw [e]
  exact h1
/-- one letter more makes a word that stays short -/
theorem RdL_add {M : Nat → Nat → Int} {N : Nat} {f f' : Int → Int} {m s : Int} (m0 : 0 ≤ m) (h : RdL M N (wl f m.toNat)) (ho : ∀ j, j ≠ m → f' j = f j) (hv : f' m = s) (hn : NB M N (wl f m.toNat) s.toNat) : RdL M N (wl f' (m + 1).toNat) := by
  rw [RdL_wl] at h ⊢
  intro k hk
  have e : wl f' k = wl f k := wl_congr (fun j hj => ho _ (by omega))
  rw [e]
  by_cases q : (k : Int) = m
  · rw [q, hv, show k = m.toNat by omega]
    exact hn
  · rw [ho _ q]
    exact h k (by omega)
