/-! the closed list of roots, the images of a weight -/
/-- what number k of v becomes as v is turned by i -/
def twv (mt : Int → Int) (n : Int) (v : Int → Int) (i k : Int) : Int := if k = i then 0 - v i + sm n.toNat (fun j => if (j : Int) = i then 0 else mt (6 * i + (j : Int)) * v (j : Int)) else v k
theorem twv_congr {mt : Int → Int} {n : Int} {v w : Int → Int} {i k : Int} (hn : 0 ≤ n ∧ n ≤ 6) (i0 : 0 ≤ i) (i1 : i < 6) (k0 : 0 ≤ k) (k1 : k < 6) (h : ∀ j, 0 ≤ j → j < 6 → v j = w j) : twv mt n v i k = twv mt n w i k := by
  unfold twv
  rw [h i i0 i1, h k k0 k1]
  congr 2
  exact sm_congr (fun j hj => by rw [h (j : Int) (by omega) (by omega)])
theorem twv_rfx {mt : Int → Int} {n : Int} {v : Int → Int} {x : Nat → Int} {i : Nat} (hn : 0 ≤ n ∧ n ≤ 6) (hi : i < n.toNat) (hz : mt (6 * (i : Int) + (i : Int)) = 0) (h : ∀ k : Nat, k < 6 → v (k : Int) = x k) {k : Nat} (hk : k < 6) : twv mt n v (i : Int) (k : Int) = rfx (mxz mt) n.toNat x i k := by
  unfold twv rfx
  by_cases e : k = i
  · subst e
    rw [if_pos rfl, if_pos rfl, h k hk]
    unfold prg
    have e1 : sm n.toNat (fun j => if (j : Int) = (k : Int) then 0 else mt (6 * (k : Int) + (j : Int)) * v (j : Int)) = sm n.toNat (fun j => mxz mt k j * x j) := sm_congr (fun j hj => by
      by_cases e : j = k
      · subst e
        rw [if_pos rfl]
        show 0 = mt (6 * (j : Int) + (j : Int)) * x j
        rw [hz]; omega
      · rw [if_neg (by omega), h j (by omega)]
        rfl)
    rw [e1]
    omega
  · rw [if_neg (by omega), if_neg e, h k hk]
theorem closes_noB {n : Int} {kd mt f : Int → Int} {many : Int} (hs : sOK n kd mt) (hm : many ≤ 60) (hnm : n ≤ many) (hown : ∀ p k, 0 ≤ p → p < n → 0 ≤ k → k < 6 → f (6 * p + k) = if k = p then 1 else 0) (hcl : ∀ p i, 0 ≤ p → p < many → 0 ≤ i → i < n → (∀ j, 0 ≤ j → j < n → 0 ≤ nl (twv mt n (fun k => f (6 * p + k)) i j)) → ∃ q, 0 ≤ q ∧ q < many ∧ ∀ k, 0 ≤ k → k < 6 → f (6 * q + k) = nl (twv mt n (fun k => f (6 * p + k)) i k)) : NoB (mxz mt) n.toNat := by
  have hn := hs.1
  refine noB_of (fun x => ∃ q : Int, (0 ≤ q ∧ q < many) ∧ ∀ k : Nat, k < 6 → f (6 * q + (k : Int)) = x k) (fun i hi => ?_) (fun x i hi hP hr hz0 hp hr2 => ?_) (fun g h1 h2 _ => ?_)
  · refine ⟨(i : Int), ⟨by omega, by omega⟩, fun k hk => ?_⟩
    rw [hown _ _ (by omega) (by omega) (by omega) (by omega)]
    unfold ownV
    by_cases e : k = i
    · rw [if_pos e, if_pos (by omega)]
    · rw [if_neg e, if_neg (by omega)]
  · obtain ⟨q, hq, hx⟩ := hP
    have hz := hs.2.2.2.1 (i : Int) (by omega) (by omega)
    have ht : ∀ k : Nat, k < 6 → twv mt n (fun k => f (6 * q + k)) (i : Int) (k : Int) = rfx (mxz mt) n.toNat x i k := fun k hk => twv_rfx hn hi hz hx hk
    obtain ⟨q2, a, b, c⟩ := hcl q (i : Int) hq.1 hq.2 (by omega) (by omega) (fun j j0 j1 => by
      have h5 := ht j.toNat (by omega)
      have h6 := hr2 j.toNat
      rw [Int.toNat_of_nonneg j0] at h5
      rw [h5, nl_e (by omega)]
      exact h6.1)
    refine ⟨q2, ⟨a, b⟩, fun k hk => ?_⟩
    have h6 := hr2 k
    rw [c _ (by omega) (by omega), ht k hk, nl_e (by omega)]
  · have hq : ∀ m, m < 61 → ∃ q : Nat, (q : Int) < many ∧ ∀ k : Nat, k < 6 → f (6 * (q : Int) + (k : Int)) = g m k := fun m hm9 => by
      obtain ⟨⟨q, hq, hx⟩, -⟩ := h1 m hm9
      exact ⟨q.toNat, by omega, fun k hk => by rw [Int.toNat_of_nonneg hq.1]; exact hx k hk⟩
    have hc : ∃ q : Nat → Nat, ∀ m, m < 61 → (q m : Int) < many ∧ ∀ k : Nat, k < 6 → f (6 * (q m : Int) + (k : Int)) = g m k := by
      refine ⟨fun m => if h : m < 61 then Classical.choose (hq m h) else 0, fun m hm9 => ?_⟩
      have := Classical.choose_spec (hq m hm9)
      simp only [hm9, dif_pos]
      exact this
    obtain ⟨q, hq⟩ := hc
    have h5 := php (n := many.toNat) (k := 61) (f := q) (fun m hm9 => by have := (hq m hm9).1; omega) (fun a b ha hb e => by
      rcases Nat.lt_trichotomy a b with h | h | h
      · obtain ⟨j, hj, hne⟩ := h2 b a hb h
        exact (hne (by rw [← (hq b hb).2 j (by omega), ← (hq a ha).2 j (by omega), e])).elim
      · exact h
      · obtain ⟨j, hj, hne⟩ := h2 a b ha h
        exact (hne (by rw [← (hq b hb).2 j (by omega), ← (hq a ha).2 j (by omega), e])).elim)
    omega
/-- a row of six whole numbers as a list of images has them -/
def v6 (f : Int → Int) (p : Int) : Nat → Int := fun k => if k < 6 then f (6 * p + (k : Int)) else 0
/-- the images that stand are some of L, no two of them like -/
def WK (L : List (Nat → Int)) (f : Int → Int) (many : Int) : Prop := (∀ p, 0 ≤ p → p < many → v6 f p ∈ L) ∧ ∀ p q, 0 ≤ p → p < q → q < many → v6 f p ≠ v6 f q
theorem WK.len {L : List (Nat → Int)} {f : Int → Int} {many : Int} (h : WK L f many) : many ≤ (L.length : Int) := by
  haveI : DecidableEq (Nat → Int) := fun a b => Classical.propDecidable (a = b)
  have h1 : ((List.range many.toNat).map (fun (p : Nat) => v6 f (p : Int))).Nodup := by
    rw [List.nodup_iff_pairwise_ne, List.pairwise_map]
    refine List.Pairwise.imp_of_mem ?_ (List.nodup_iff_pairwise_ne.mp (List.nodup_range (n := many.toNat)))
    intro a b ha hb hne e
    have ha := List.mem_range.mp ha
    have hb := List.mem_range.mp hb
    rcases Nat.lt_or_gt_of_ne hne with q | q
    · exact h.2 a b (by omega) (by omega) (by omega) e
    · exact h.2 b a (by omega) (by omega) (by omega) e.symm
  have h2 := php_list (m := L) h1 (fun x hx => by
    obtain ⟨p, hp, rfl⟩ := List.mem_map.mp hx
    have := List.mem_range.mp hp
    exact h.1 p (by omega) (by omega))
  rw [List.length_map, List.length_range] at h2
  omega
theorem v6_eq {f g : Int → Int} {p q : Int} (h : ∀ k, 0 ≤ k → k < 6 → f (6 * p + k) = g (6 * q + k)) : v6 f p = v6 g q := by
  funext k
  unfold v6
  split
  · exact h k (by omega) (by omega)
  · rfl
theorem v6_at (f : Int → Int) (p : Int) {k : Nat} (hk : k < 6) : v6 f p k = f (6 * p + (k : Int)) := if_pos hk
theorem WK.keep {L : List (Nat → Int)} {f f' : Int → Int} {many : Int} (h : WK L f many) (hf : ∀ j, 0 ≤ j → j < 6 * many → f' j = f j) : WK L f' many := by
  have e : ∀ p, 0 ≤ p → p < many → v6 f' p = v6 f p := fun p p0 p1 => v6_eq (fun k k0 k1 => hf _ (by omega) (by omega))
  exact ⟨fun p p0 p1 => by rw [e p p0 p1]; exact h.1 p p0 p1, fun p q p0 pq q1 => by rw [e p p0 (by omega), e q (by omega) q1]; exact h.2 p q p0 pq q1⟩
theorem WK.add {L : List (Nat → Int)} {f f' : Int → Int} {many : Int} (h : WK L f many) (hm : 0 ≤ many) (hf : ∀ j, 0 ≤ j → j < 6 * many → f' j = f j) (hn : v6 f' many ∈ L) (hne : ∀ p, 0 ≤ p → p < many → ∃ k, 0 ≤ k ∧ k < 6 ∧ f (6 * p + k) ≠ f' (6 * many + k)) : WK L f' (many + 1) := by
  have h' := h.keep hf
  refine ⟨fun p p0 p1 => ?_, fun p q p0 pq q1 => ?_⟩
  · by_cases e : p = many
    · rw [e]; exact hn
    · exact h'.1 p p0 (by omega)
  · by_cases e : q = many
    · subst e
      intro e2
      obtain ⟨k, k0, k1, hk⟩ := hne p p0 (by omega)
      have h5 := congrFun e2 k.toNat
      rw [v6_at _ _ (by omega), v6_at _ _ (by omega), Int.toNat_of_nonneg k0, hf _ (by omega) (by omega)] at h5
      exact hk h5
    · exact h'.2 p q p0 pq (by omega)
