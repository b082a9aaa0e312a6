section
/-! the reference: a root comes to its place -/
def LXA (f R : Int → Int) (q : Int) : Prop := ∃ k, (0 ≤ k ∧ k < 6) ∧ (∀ j, 0 ≤ j → j < k → nl (f (6 * q + j)) = nl (R j)) ∧ nl (R k) < nl (f (6 * q + k))
def LXB (f R : Int → Int) (q : Int) : Prop := ∃ k, (0 ≤ k ∧ k < 6) ∧ (∀ j, 0 ≤ j → j < k → nl (f (6 * q + j)) = nl (R j)) ∧ (k = 5 ∨ nl (f (6 * q + k)) ≠ nl (R k)) ∧ nl (f (6 * q + k)) ≤ nl (R k)
theorem ordv_lt {x y : Nat → Int} {k : Nat} (hk : k < 6) (hx : ∀ j, 0 ≤ x j ∧ x j ≤ 63) (hy : ∀ j, 0 ≤ y j ∧ y j ≤ 63) (he : ∀ j, j < k → x j = y j) (h : x k < y k) : ordv x < ordv y := by
  unfold ordv
  have a0 := hx 0
  have a1 := hx 1
  have a2 := hx 2
  have a3 := hx 3
  have a4 := hx 4
  have a5 := hx 5
  have b0 := hy 0
  have b1 := hy 1
  have b2 := hy 2
  have b3 := hy 3
  have b4 := hy 4
  have b5 := hy 5
  rcases (show k = 0 ∨ k = 1 ∨ k = 2 ∨ k = 3 ∨ k = 4 ∨ k = 5 by omega) with rfl | rfl | rfl | rfl | rfl | rfl
  · omega
  · have := he 0 (by decide); omega
  · have := he 0 (by decide); have := he 1 (by decide); omega
  · have := he 0 (by decide); have := he 1 (by decide); have := he 2 (by decide); omega
  · have := he 0 (by decide); have := he 1 (by decide); have := he 2 (by decide); have := he 3 (by decide); omega
  · have := he 0 (by decide); have := he 1 (by decide); have := he 2 (by decide); have := he 3 (by decide); have := he 4 (by decide); omega
theorem v6_i (f : Int → Int) (p : Int) {k : Int} (k0 : 0 ≤ k) (k1 : k < 6) : v6 f p k.toNat = f (6 * p + k) := by
  rw [v6_at _ _ (by omega), Int.toNat_of_nonneg k0]
theorem v6_o (f : Int → Int) (p : Int) {k : Nat} (h : 6 ≤ k) : v6 f p k = 0 := if_neg (by omega)
theorem lxa_v {f R : Int → Int} {x : Nat → Int} {q : Int} (hR : ∀ k, 0 ≤ k → k < 6 → R k = x k.toNat) (hx : ∀ j, 0 ≤ x j ∧ x j ≤ 63) (hq : ∀ j, 0 ≤ v6 f q j ∧ v6 f q j ≤ 63) (h : LXA f R q) : ordv x < ordv (v6 f q) := by
  obtain ⟨k, ⟨k0, k1⟩, h1, h2⟩ := h
  have e : ∀ j, 0 ≤ j → j < 6 → nl (f (6 * q + j)) = v6 f q j.toNat ∧ nl (R j) = x j.toNat := fun j j0 j1 => by
    have a := hq j.toNat
    have b := hx j.toNat
    rw [v6_i f q j0 j1] at a ⊢
    rw [← hR j j0 j1] at b ⊢
    exact ⟨nl_e (by omega), nl_e (by omega)⟩
  refine ordv_lt (k := k.toNat) (by omega) hx hq (fun j hj => ?_) ?_
  · have h3 := h1 (j : Int) (by omega) (by omega)
    have h4 := e (j : Int) (by omega) (by omega)
    rw [h4.1, h4.2, Int.toNat_natCast] at h3
    exact h3.symm
  · have h4 := e k k0 k1
    rw [h4.1, h4.2] at h2
    exact h2
theorem lxb_v {f R : Int → Int} {x : Nat → Int} {q : Int} (hR : ∀ k, 0 ≤ k → k < 6 → R k = x k.toNat) (hx : ∀ j, 0 ≤ x j ∧ x j ≤ 63) (hx6 : ∀ j, 6 ≤ j → x j = 0) (hq : ∀ j, 0 ≤ v6 f q j ∧ v6 f q j ≤ 63) (hne : v6 f q ≠ x) (h : LXB f R q) : ordv (v6 f q) < ordv x := by
  obtain ⟨k, ⟨k0, k1⟩, h1, h2, h3⟩ := h
  have e : ∀ j, 0 ≤ j → j < 6 → nl (f (6 * q + j)) = v6 f q j.toNat ∧ nl (R j) = x j.toNat := fun j j0 j1 => by
    have a := hq j.toNat
    have b := hx j.toNat
    rw [v6_i f q j0 j1] at a ⊢
    rw [← hR j j0 j1] at b ⊢
    exact ⟨nl_e (by omega), nl_e (by omega)⟩
  have h5 : ∀ j, j < k.toNat → v6 f q j = x j := fun j hj => by
    have h3 := h1 (j : Int) (by omega) (by omega)
    have h4 := e (j : Int) (by omega) (by omega)
    rw [h4.1, h4.2, Int.toNat_natCast] at h3
    exact h3
  have h4 := e k k0 k1
  rw [h4.1, h4.2] at h3
  rw [h4.1, h4.2] at h2
  by_cases c : v6 f q k.toNat = x k.toNat
  · exfalso
    refine hne (funext fun j => ?_)
    rcases h2 with h2 | h2
    · by_cases c2 : j < 5
      · exact h5 j (by omega)
      · by_cases c3 : j = 5
        · rw [c3]
          rw [h2] at c
          exact c
        · rw [v6_o f q (by omega), hx6 j (by omega)]
    · exact absurd c h2
  · exact ordv_lt (k := k.toNat) (by omega) hq hx h5 (by omega)
/-- the roots found so far -/
def FND (M : Nat → Nat → Int) (n : Nat) (h f m : Int) (e : Int → Nat → Int) (ht : Int → Int) : Prop := ENM M n (h - 1) e f ∧ (f ≤ m ∧ m ≤ 400) ∧ (∀ p, f ≤ p → p < m → RTp M n (e p) ∧ sm n (e p) = h ∧ ht p = h) ∧ (∀ p q, f ≤ p → p < q → q < m → RtB n (e p) (e q)) ∧ ∀ p, 0 ≤ p → p < f → ht p = sm n (e p)
def PRC (M : Nat → Nat → Int) (n : Nat) (h f m : Int) (e : Int → Nat → Int) (n' i' : Int) : Prop := ∀ (p : Int) (i : Nat), 0 ≤ p → p < f → i < n → (p < n' ∨ (p = n' ∧ (i : Int) < i')) → prg M n (e p) i < 0 → sm n (rfx M n (e p) i) = h → ∃ q, (f ≤ q ∧ q < m) ∧ e q = rfx M n (e p) i
def OWN (e : Int → Nat → Int) (m i : Int) : Prop := (∀ k : Nat, (k : Int) < i → ∃ q, (0 ≤ q ∧ q < m) ∧ e q = ownV k) ∧ ∀ q, 0 ≤ q → q < m → ∃ k : Nat, (k : Int) < i ∧ e q = ownV k
theorem FND.mid {M : Nat → Nat → Int} {n : Nat} {h f m : Int} {e : Int → Nat → Int} {ht : Int → Int} (H : FND M n h f m e ht) : f ≤ m ∧ m ≤ 400 := H.2.1
theorem FND.le {M : Nat → Nat → Int} {n : Nat} {h f m : Int} {e : Int → Nat → Int} {ht : Int → Int} (H : FND M n h f m e ht) (h40 : h ≤ 40) {p : Int} (p0 : 0 ≤ p) (p1 : p < m) : RTp M n (e p) ∧ ∀ j, 0 ≤ e p j ∧ e p j ≤ 63 := by
  have g : RTp M n (e p) ∧ sm n (e p) ≤ h := by
    by_cases c : p < f
    · have := H.1.2.2.1 p p0 c
      exact ⟨this.1, by omega⟩
    · have := H.2.2.1 p (by omega) p1
      exact ⟨this.1, by omega⟩
  refine ⟨g.1, fun j => ?_⟩
  have := g.1.le j
  omega
theorem FND.ins {M : Nat → Nat → Int} {n : Nat} {h f m p : Int} {e e' : Int → Nat → Int} {ht ht' : Int → Int} {x : Nat → Int} (H : FND M n h f m e ht) (hm : m < 400) (hx : RTp M n x) (hs : sm n x = h) (p0 : f ≤ p) (p1 : p ≤ m) (e1 : ∀ q, 0 ≤ q → q < p → e' q = e q) (e2 : e' p = x) (e3 : ∀ q, p ≤ q → q < m → e' (q + 1) = e q) (hlo : ∀ q, f ≤ q → q < p → ordv x < ordv (e q)) (hz : p = m ∨ ordv (e p) < ordv x) (t1 : ∀ q, q ≠ m → ht' q = ht q) (t2 : ht' m = h) : FND M n h f (m + 1) e' ht' ∧ (∀ q, f ≤ q → q < m → ∃ q', (f ≤ q' ∧ q' < m + 1) ∧ e' q' = e q) ∧ ∀ q', f ≤ q' → q' < m + 1 → e' q' = x ∨ ∃ q, (f ≤ q ∧ q < m) ∧ e' q' = e q := by
  have f0 := H.1.1.1
  have e3' : ∀ q, p < q → q ≤ m → e' q = e (q - 1) := fun q q0 q1 => by
    have := e3 (q - 1) (by omega) (by omega)
    rw [show q - 1 + 1 = q by omega] at this
    exact this
  have hR := H.2.2.1
  have hB := H.2.2.2.1
  have hlow : ∀ q, p ≤ q → q < m → RtB n x (e q) := fun q q0 q1 => by
    right
    refine ⟨by rw [hs, (hR q (by omega) q1).2.1], ?_⟩
    have hz2 := hz.resolve_left (by omega)
    by_cases c : q = p
    · rw [c]; exact hz2
    · have h9 := hB p q p0 (by omega) q1
      have a1 := (hR p p0 (by omega)).2.1
      have a2 := (hR q (by omega) q1).2.1
      rcases h9 with z | z <;> omega
  have hup : ∀ q, f ≤ q → q < p → RtB n (e q) x := fun q q0 q1 => Or.inr ⟨by rw [hs, (hR q q0 (by omega)).2.1], hlo q q0 q1⟩
  refine ⟨⟨H.1.eq (fun a a0 a1 => e1 a a0 (by omega)), by omega, fun q q0 q1 => ?_, fun a b a0 ab b1 => ?_, fun q q0 q1 => ?_⟩, fun q q0 q1 => ?_, fun q q0 q1 => ?_⟩
  · have htq : ht' q = h := by
      by_cases c : q = m
      · rw [c]; exact t2
      · rw [t1 q c]; exact (hR q q0 (by omega)).2.2
    by_cases c : q < p
    · rw [e1 q (by omega) c]
      have := hR q q0 (by omega)
      exact ⟨this.1, this.2.1, htq⟩
    · by_cases c2 : q = p
      · rw [c2] at htq ⊢
        rw [e2]; exact ⟨hx, hs, htq⟩
      · rw [e3' q (by omega) (by omega)]
        have := hR (q - 1) (by omega) (by omega)
        exact ⟨this.1, this.2.1, htq⟩
  · by_cases ca : a < p
    · rw [e1 a (by omega) ca]
      by_cases cb : b < p
      · rw [e1 b (by omega) cb]; exact hB a b a0 ab (by omega)
      · by_cases cb2 : b = p
        · rw [cb2, e2]; exact hup a a0 ca
        · rw [e3' b (by omega) (by omega)]
          exact (hup a a0 ca).trans (hlow (b - 1) (by omega) (by omega))
    · by_cases ca2 : a = p
      · rw [ca2, e2, e3' b (by omega) (by omega)]
        exact hlow (b - 1) (by omega) (by omega)
      · rw [e3' a (by omega) (by omega), e3' b (by omega) (by omega)]
        exact hB (a - 1) (b - 1) (by omega) (by omega) (by omega)
  · rw [t1 q (by omega), e1 q q0 (by omega)]
    exact H.2.2.2.2 q q0 q1
  · by_cases c : q < p
    · exact ⟨q, by omega, e1 q (by omega) c⟩
    · exact ⟨q + 1, by omega, e3 q (by omega) q1⟩
  · by_cases c : q < p
    · exact Or.inr ⟨q, by omega, e1 q (by omega) c⟩
    · by_cases c2 : q = p
      · left; rw [c2]; exact e2
      · exact Or.inr ⟨q - 1, by omega, e3' q (by omega) (by omega)⟩
theorem cm_v {f f' : Int → Int} {R : Int → Int} {m p : Int} {x : Nat → Int} (hR : ∀ k, 0 ≤ k → k < 6 → R k = x k.toNat) (hx : ∀ j, 0 ≤ x j ∧ x j ≤ 63) (hx6 : ∀ j, 6 ≤ j → x j = 0) (p0 : 0 ≤ p) (h1 : ∀ j, 0 ≤ j → j < 6 * p → f' j = f j) (h2 : ∀ k, 0 ≤ k → k < 6 → f' (6 * p + k) = nl (R k)) (h3 : ∀ j, 6 * p ≤ j → j < 6 * m → f' (j + 6) = f j) : (∀ q, 0 ≤ q → q < p → v6 f' q = v6 f q) ∧ v6 f' p = x ∧ ∀ q, p ≤ q → q < m → v6 f' (q + 1) = v6 f q := by
  refine ⟨fun q q0 q1 => v6_eq (fun k k0 k1 => h1 _ (by omega) (by omega)), funext fun k => ?_, fun q q0 q1 => v6_eq (fun k k0 k1 => ?_)⟩
  · by_cases hk : k < 6
    · rw [v6_at _ _ hk, h2 _ (by omega) (by omega), hR _ (by omega) (by omega), Int.toNat_natCast]
      have := hx k
      exact nl_e (by omega)
    · rw [v6_o _ _ (by omega), hx6 k (by omega)]
  · rw [show 6 * (q + 1) + k = 6 * q + k + 6 by omega]
    exact h3 _ (by omega) (by omega)
/-- all that is known of a coming one -/
theorem FND.come {M : Nat → Nat → Int} {n : Nat} (hn : n ≤ 6) {h fr m p : Int} {f f' R : Int → Int} {ht ht' : Int → Int} {x : Nat → Int} (H : FND M n h fr m (v6 f) ht) (h40 : h ≤ 40) (hm : m < 400) (hx : RTp M n x) (hs : sm n x = h) (hR : ∀ k, 0 ≤ k → k < 6 → R k = x k.toNat) (hno : ∀ q, fr ≤ q → q < m → v6 f q ≠ x) (p0 : fr ≤ p) (p1 : p ≤ m) (h1 : ∀ j, 0 ≤ j → j < 6 * p → f' j = f j) (h2 : ∀ k, 0 ≤ k → k < 6 → f' (6 * p + k) = nl (R k)) (h3 : ∀ j, 6 * p ≤ j → j < 6 * m → f' (j + 6) = f j) (hlo : ∀ q, fr ≤ q → q < p → LXA f R q) (hz : p = m ∨ LXB f R p) (t1 : ∀ q, q ≠ m → ht' q = ht q) (t2 : ht' m = h) : FND M n h fr (m + 1) (v6 f') ht' ∧ (∀ q, fr ≤ q → q < m → ∃ q', (fr ≤ q' ∧ q' < m + 1) ∧ v6 f' q' = v6 f q) ∧ (∀ q', fr ≤ q' → q' < m + 1 → v6 f' q' = x ∨ ∃ q, (fr ≤ q ∧ q < m) ∧ v6 f' q' = v6 f q) ∧ (∀ q, 0 ≤ q → q < fr → v6 f' q = v6 f q) ∧ ∃ q, (fr ≤ q ∧ q < m + 1) ∧ v6 f' q = x := by
  have f0 := H.1.1.1
  have hxr : ∀ j, 0 ≤ x j ∧ x j ≤ 63 := fun j => by
    have := hx.le j
    omega
  have hx6 : ∀ j, 6 ≤ j → x j = 0 := fun j hj => hx.b.2.1 j (by omega)
  obtain ⟨e1, e2, e3⟩ := cm_v hR hxr hx6 (by omega) h1 h2 h3
  obtain ⟨g1, g2, g3⟩ := H.ins hm hx hs p0 p1 e1 e2 e3 (fun q q0 q1 => lxa_v hR hxr (H.le h40 (by omega) (by omega)).2 (hlo q q0 q1)) (by
    by_cases c : p = m
    · exact Or.inl c
    · exact Or.inr (lxb_v hR hxr hx6 (H.le h40 (by omega) (by omega)).2 (hno p p0 (by omega)) (hz.resolve_left c))) t1 t2
  exact ⟨g1, g2, g3, fun q q0 q1 => e1 q q0 (by omega), p, by omega, e2⟩
theorem PRC.z {M : Nat → Nat → Int} {n : Nat} {h f m : Int} {e : Int → Nat → Int} : PRC M n h f m e 0 0 := fun p i p0 p1 hi hc _ _ => by omega
theorem PRC.row {M : Nat → Nat → Int} {n : Nat} {h f m n' i' : Int} {e : Int → Nat → Int} (H : PRC M n h f m e n' i') (hi : (n : Int) ≤ i') : PRC M n h f m e (n' + 1) 0 := fun p i p0 p1 i1 hc => H p i p0 p1 i1 (by omega)
theorem PRC.skip {M : Nat → Nat → Int} {n : Nat} {h f m n' i' : Int} {e : Int → Nat → Int} (H : PRC M n h f m e n' i') (hs : prg M n (e n') i'.toNat < 0 → sm n (rfx M n (e n') i'.toNat) = h → ∃ q, (f ≤ q ∧ q < m) ∧ e q = rfx M n (e n') i'.toNat) (i0 : 0 ≤ i') : PRC M n h f m e n' (i' + 1) := fun p i p0 p1 i1 hc hp hh => by
  by_cases c : p = n' ∧ (i : Int) = i'
  · obtain ⟨rfl, rfl⟩ := c
    rw [Int.toNat_natCast] at hs
    exact hs hp hh
  · exact H p i p0 p1 i1 (by omega) hp hh
theorem PRC.ins {M : Nat → Nat → Int} {n : Nat} {h f m m' n' i' : Int} {e e' : Int → Nat → Int} (H : PRC M n h f m e n' i') (g : ∀ q, f ≤ q → q < m → ∃ q', (f ≤ q' ∧ q' < m') ∧ e' q' = e q) (g2 : ∀ q, 0 ≤ q → q < f → e' q = e q) : PRC M n h f m' e' n' i' := fun p i p0 p1 i1 hc => by
  rw [g2 p p0 p1]
  intro hp hh
  obtain ⟨q, q0, q1⟩ := H p i p0 p1 i1 hc hp hh
  obtain ⟨q', a, b⟩ := g q q0.1 q0.2
  exact ⟨q', a, b.trans q1⟩
theorem OWN.ins {e e' : Int → Nat → Int} {m m' i : Int} (H : OWN e m i) (i0 : 0 ≤ i) (g : ∀ q, 0 ≤ q → q < m → ∃ q', (0 ≤ q' ∧ q' < m') ∧ e' q' = e q) (g2 : ∀ q', 0 ≤ q' → q' < m' → e' q' = ownV i.toNat ∨ ∃ q, (0 ≤ q ∧ q < m) ∧ e' q' = e q) (g3 : ∃ q, (0 ≤ q ∧ q < m') ∧ e' q = ownV i.toNat) : OWN e' m' (i + 1) := by
  refine ⟨fun k hk => ?_, fun q q0 q1 => ?_⟩
  · by_cases c : (k : Int) < i
    · obtain ⟨q, a, b⟩ := H.1 k c
      obtain ⟨q', a', b'⟩ := g q a.1 a.2
      exact ⟨q', a', b'.trans b⟩
    · obtain ⟨q, a, b⟩ := g3
      exact ⟨q, a, by rw [b, show i.toNat = k by omega]⟩
  · rcases g2 q q0 q1 with b | ⟨q', a, b⟩
    · exact ⟨i.toNat, by omega, b⟩
    · obtain ⟨k, k0, k1⟩ := H.2 q' a.1 a.2
      exact ⟨k, by omega, b.trans k1⟩
theorem OWN.no {e : Int → Nat → Int} {m i : Int} (H : OWN e m i) (i0 : 0 ≤ i) : ∀ q, 0 ≤ q → q < m → e q ≠ ownV i.toNat := fun q q0 q1 h => by
  obtain ⟨k, k0, k1⟩ := H.2 q q0 q1
  rw [h] at k1
  have := congrFun k1 i.toNat
  unfold ownV at this
  rw [if_pos rfl, if_neg (by omega)] at this
  omega
/-- a height is done -/
theorem FND.done {M : Nat → Nat → Int} {n : Nat} {h f m : Int} {e : Int → Nat → Int} {ht : Int → Int} (H : FND M n h f m e ht) (h1 : 1 ≤ h) (ho : h = 1 → OWN e m n ∧ f = 0) (hp : PRC M n h f m e f 0) : ENM M n h e m := by
  have f0 := H.1.1.1
  have hm := H.2.1
  refine ⟨by omega, fun a b a0 ab b1 => ?_, fun a a0 a1 => ?_, fun y hy hys => ?_⟩
  · by_cases cb : b < f
    · exact H.1.2.1 a b a0 ab cb
    · by_cases ca : a < f
      · have x1 := (H.1.2.2.1 a a0 ca).2
        have x2 := (H.2.2.1 b (by omega) b1).2.1
        exact Or.inl (by omega)
      · exact H.2.2.2.1 a b (by omega) ab b1
  · by_cases ca : a < f
    · have x1 := H.1.2.2.1 a a0 ca
      exact ⟨x1.1, by omega⟩
    · have x2 := H.2.2.1 a (by omega) a1
      exact ⟨x2.1, by omega⟩
  · by_cases c : sm n y ≤ h - 1
    · obtain ⟨a, a0, a1⟩ := H.1.2.2.2 y hy c
      exact ⟨a, by omega, a1⟩
    · have key : ∀ z, RTp M n z → sm n z = h → ∃ a, (0 ≤ a ∧ a < m) ∧ e a = z := by
        intro z hz
        refine hz.ind (P := fun z => sm n z = h → ∃ a, (0 ≤ a ∧ a < m) ∧ e a = z) (fun i hi hs => ?_) (fun x i hx hi hpx _ hs => ?_)
        · have hs1 : sm n (ownV i) = 1 := by
            have := sm_own (n := n) (i := i) (fun _ => 1) hi
            simp only [Int.one_mul] at this
            exact this
          exact (ho (by omega)).1.1 i (by omega)
        · have es := sm_rfx (M := M) (x := x) hi
          obtain ⟨a, a0, rfl⟩ := H.1.2.2.2 x hx (by omega)
          obtain ⟨q, q0, q1⟩ := hp a i a0.1 a0.2 hi (Or.inl a0.2) hpx hs
          exact ⟨q, by omega, q1⟩
      exact key y hy (by omega)
theorem FND.next {M : Nat → Nat → Int} {n : Nat} {h f m : Int} {e : Int → Nat → Int} {ht : Int → Int} (H : FND M n h f m e ht) (hE : ENM M n h e m) : FND M n (h + 1) m m e ht := by
  refine ⟨by rw [show h + 1 - 1 = h by omega]; exact hE, by have := H.2.1; omega, fun p _ _ => by omega, fun p q _ _ _ => by omega, fun p p0 p1 => ?_⟩
  by_cases c : p < f
  · exact H.2.2.2.2 p p0 c
  · have := H.2.2.1 p (by omega) p1
    rw [this.2.1, this.2.2]
theorem FND.start {M : Nat → Nat → Int} {n : Nat} {e : Int → Nat → Int} {ht : Int → Int} : FND M n 1 0 0 e ht := by
  refine ⟨⟨by omega, fun a b _ _ _ => by omega, fun a _ _ => by omega, fun y hy hys => ?_⟩, by omega, fun p _ _ => by omega, fun p q _ _ _ => by omega, fun p _ _ => by omega⟩
  have := hy.b.2.2
  omega
theorem FND.full {M : Nat → Nat → Int} {n : Nat} {h f : Int} {e : Int → Nat → Int} {ht : Int → Int} {x : Nat → Int} (H : FND M n h f 400 e ht) (hx : RTp M n x) (hs : sm n x = h) (hno : ∀ q, f ≤ q → q < 400 → e q ≠ x) : RMo M n h := by
  have f0 := H.1.1.1
  have hB : ∀ a b, 0 ≤ a → a < b → b < 400 → RtB n (e a) (e b) := fun a b a0 ab b1 => by
    by_cases cb : b < f
    · exact H.1.2.1 a b a0 ab cb
    · by_cases ca : a < f
      · have x1 := (H.1.2.2.1 a a0 ca).2
        have x2 := (H.2.2.1 b (by omega) b1).2.1
        exact Or.inl (by omega)
      · exact H.2.2.2.1 a b (by omega) ab b1
  have hR : ∀ a, 0 ≤ a → a < 400 → (RTp M n (e a) ∧ sm n (e a) ≤ h) ∧ e a ≠ x := fun a a0 a1 => by
    by_cases ca : a < f
    · have x1 := H.1.2.2.1 a a0 ca
      exact ⟨⟨x1.1, by omega⟩, fun q => by rw [q] at x1; omega⟩
    · have x2 := H.2.2.1 a (by omega) a1
      exact ⟨⟨x2.1, by omega⟩, hno a (by omega) a1⟩
  refine ⟨x :: enl e 400, List.nodup_cons.mpr ⟨fun q => ?_, enl_nd (fun a b a0 ab b1 q => ?_)⟩, ?_, fun y hy => ?_⟩
  · obtain ⟨a, a0, a1⟩ := enl_mem.mp q
    exact (hR a a0.1 a0.2).2 a1
  · have := hB a b a0 ab b1
    rw [q] at this
    exact this.irr
  · have := enl_len e (m := 400) (by decide)
    rw [List.length_cons]
    omega
  · rcases List.mem_cons.mp hy with q | q
    · rw [q]; exact ⟨hx, by omega⟩
    · obtain ⟨a, a0, rfl⟩ := enl_mem.mp q
      exact (hR a a0.1 a0.2).1
theorem sm_mle {n : Nat} {f g : Nat → Int} (h : ∀ j, j < n → f j ≤ g j) : sm n f ≤ sm n g := by
  induction n with
  | zero => exact Int.le_refl _
  | succ n ih =>
    have := ih (fun j hj => h j (by omega))
    have := h n (by omega)
    rw [sm, sm]
    omega
theorem sm_mul4 {n : Nat} {f : Nat → Int} : sm n (fun j => 4 * f j) = 4 * sm n f := by
  induction n with
  | zero => rfl
  | succ n ih => rw [sm, sm, ih]; omega
theorem prg_bd {M : Nat → Nat → Int} {n : Nat} (hM : MOk M n) {x : Nat → Int} (hx : ∀ j, 0 ≤ x j) {i : Nat} (hi : i < n) : -4 * sm n x ≤ prg M n x i ∧ prg M n x i ≤ 2 * sm n x := by
  have h1 := sm_ge (n := n) (f := x) (fun j _ => hx j) hi
  have h2 : sm n (fun j => M i j * x j) ≤ sm n (fun j => 4 * x j) := sm_mle (fun j hj => Int.mul_le_mul_of_nonneg_right (hM.2.2.1 i j hi hj) (hx j))
  rw [sm_mul4] at h2
  have h3 := sm_nonneg (n := n) (f := fun j => M i j * x j) (fun j hj => Int.mul_nonneg (hM.2.1 i j hi hj) (hx j))
  have h4 := hx i
  unfold prg
  omega
theorem fr_row {M : Nat → Nat → Int} {n : Nat} {h fr m : Int} {e : Int → Nat → Int} {ht : Int → Int} (hM : MOk M n) (H : FND M n h fr m e ht) (h40 : h ≤ 40) {p : Int} (p0 : 0 ≤ p) (p1 : p < fr) {i : Nat} (hi : i < n) : (∀ j, -1000 ≤ rfx M n (e p) i j ∧ rfx M n (e p) i j ≤ 1000) ∧ (-1000 ≤ sm n (rfx M n (e p) i) ∧ sm n (rfx M n (e p) i) ≤ 1000) ∧ (sm n (rfx M n (e p) i) = h → RTp M n (rfx M n (e p) i)) := by
  obtain ⟨h1, h2⟩ := H.1.2.2.1 p p0 p1
  have h3 := prg_bd hM (fun j => h1.b.1 j) hi
  have h4 := h1.b.2.2
  have es := sm_rfx (M := M) (x := e p) hi
  refine ⟨fun j => ?_, by omega, fun q => RTp.up _ i h1 hi (by omega)⟩
  have := h1.le j
  unfold rfx
  split
  · rename_i z
    rw [z] at this
    have h5 := h1.le i
    omega
  · omega
/-- the coming row as it stands in the object -/
theorem fr_R {S W : wSt} {f : Int → Int} {p i : Int} (hs : sOK (S 30 0 0) (S 41 0) (S 42 0)) (i0 : 0 ≤ i) (i1 : i < S 30 0 0) (hR : ∀ k, 0 ≤ k → k < 6 → W 55 0 k = twv (S 42 0) (S 30 0 0) (fun k => f (6 * p + k)) i k) : (∀ k, 0 ≤ k → k < 6 → W 55 0 k = rfx (mxz (S 42 0)) (S 30 0 0).toNat (v6 f p) i.toNat k.toNat) ∧ sm (S 30 0 0).toNat (fun k => W 55 0 (k : Int)) = sm (S 30 0 0).toNat (rfx (mxz (S 42 0)) (S 30 0 0).toNat (v6 f p) i.toNat) := by
  have hn := hs.1
  have h1 : ∀ k, 0 ≤ k → k < 6 → W 55 0 k = rfx (mxz (S 42 0)) (S 30 0 0).toNat (v6 f p) i.toNat k.toNat := fun k k0 k1 => (hR k k0 k1).trans (row_up hs i0 i1 k0 k1)
  exact ⟨h1, sm_congr (fun k hk => by rw [h1 _ (by omega) (by omega), Int.toNat_natCast])⟩
theorem known_v {f R : Int → Int} {x : Nat → Int} {q : Int} (hR : ∀ k, 0 ≤ k → k < 6 → R k = x k.toNat) (hx : ∀ j, -1000 ≤ x j ∧ x j ≤ 1000) (hx6 : ∀ j, 6 ≤ j → x j = 0) (hq : ∀ j, 0 ≤ v6 f q j ∧ v6 f q j ≤ 63) : (∀ j, 0 ≤ j → j < 6 → nl (f (6 * q + j)) = nl (R j)) ↔ v6 f q = x := by
  have e : ∀ j, 0 ≤ j → j < 6 → nl (f (6 * q + j)) = v6 f q j.toNat ∧ nl (R j) = x j.toNat := fun j j0 j1 => by
    have a := hq j.toNat
    have b := hx j.toNat
    rw [v6_i f q j0 j1] at a ⊢
    rw [← hR j j0 j1] at b ⊢
    exact ⟨nl_e (by omega), nl_e (by omega)⟩
  constructor
  · intro h
    funext k
    by_cases hk : k < 6
    · have h1 := h (k : Int) (by omega) (by omega)
      have h2 := e (k : Int) (by omega) (by omega)
      rw [h2.1, h2.2, Int.toNat_natCast] at h1
      exact h1
    · rw [v6_o _ _ (by omega), hx6 k (by omega)]
  · intro h j j0 j1
    have h2 := e j j0 j1
    rw [h2.1, h2.2, h]
theorem hct_s {n : Nat} {e : Int → Nat → Int} {a x : Int} (x0 : 0 ≤ x) : hct n e a (x + 1).toNat = hct n e a x.toNat + if sm n (e x) = a then 1 else 0 := by
  rw [show (x + 1).toNat = x.toNat + 1 by omega]
  show hct n e a x.toNat + (if sm n (e (x.toNat : Int)) = a then 1 else 0) = _
  rw [Int.toNat_of_nonneg x0]
theorem ref_roots {S : wSt} {e : Int → Nat → Int} {a m : Int} (H : ENM (mxz (S 42 0)) (S 30 0 0).toNat a e m) (a0 : 1 ≤ a) (a1 : a ≤ 40) : RootsQ (rM S) (rn S) a (hct (S 30 0 0).toNat e a m.toNat) := RootsQ.ok a0 a1 (RootsP.cg rM_cg (H.rootsC (Int.le_refl _)))
theorem ref_rootsF {S : wSt} {a : Int} (H : RMo (mxz (S 42 0)) (S 30 0 0).toNat a) (a0 : 1 ≤ a) (a1 : a ≤ 40) : RootsQ (rM S) (rn S) a (-3) := RootsQ.ok a0 a1 (RootsP.cg rM_cg (Or.inl ⟨rfl, H⟩))
def FRP (M : Nat → Nat → Int) (n : Nat) (a : Int) (f ht : Int → Int) (m w r : Int) : Prop := (r = 1 → ENM M n a (v6 f) m ∧ w = m ∧ ∀ p, 0 ≤ p → p < m → ht p = sm n (v6 f p)) ∧ (r = 0 → RMo M n a ∧ ∃ H, (0 ≤ H ∧ H < a) ∧ RMo M n (H + 1) ∧ ENM M n H (v6 f) w)
theorem ref_enm {M : Nat → Nat → Int} {n : Nat} {f ht : Int → Int} {m w r : Int} (hr : r = 0 ∨ r = 1) (h : FRP M n 40 f ht m w r) : ∃ h, h ≤ 40 ∧ ENM M n h (v6 f) w ∧ (h = 40 ∨ RMo M n (h + 1)) := by
  rcases hr with q | q
  · obtain ⟨-, H, a, b, c⟩ := h.2 q
    exact ⟨H, by omega, c, Or.inr b⟩
  · obtain ⟨a, b, -⟩ := h.1 q
    exact ⟨40, by omega, by rw [b]; exact a, Or.inl rfl⟩
theorem ref_root {S W : wSt} (hn : 0 ≤ S 30 0 0 ∧ S 30 0 0 ≤ 6) {i j : Int} (h : ∃ h, h ≤ 40 ∧ ENM (mxz (S 42 0)) (S 30 0 0).toNat h (v6 (W 58 0)) (W 30 0 21) ∧ (h = 40 ∨ RMo (mxz (S 42 0)) (S 30 0 0).toNat (h + 1))) (i0 : 0 ≤ i) (j0 : 0 ≤ j) (j1 : j < S 30 0 0) : (i < W 30 0 21 → RootQ (rM S) (rn S) i j (W 58 0 (6 * i + j)) ∧ 0 ≤ W 58 0 (6 * i + j) ∧ W 58 0 (6 * i + j) ≤ 40) ∧ (W 30 0 21 ≤ i → RootQ (rM S) (rn S) i j (-1)) := by
  obtain ⟨h, h40, hE, hM⟩ := h
  refine ⟨fun i1 => ?_, fun i1 => RootQ.ok i0 j0 (by unfold rn; omega) (RootP.cg rM_cg (hE.none h40 i1 hM _))⟩
  have g := hE.root h40 i0 i1 j.toNat
  have q := hE.2.2.1 i i0 i1
  have q2 := q.1.le j.toNat
  rw [v6_i _ _ j0 (by omega)] at g q2
  exact ⟨RootQ.ok i0 j0 (by unfold rn; omega) (RootP.cg rM_cg g), by omega⟩
theorem ref_ends {S : wSt} {r : Int} (h : (r = -2 ∧ ∀ L, ¬ RLi (mxz (S 42 0)) (S 30 0 0).toNat L) ∨ ((0 ≤ r ∧ r ≤ 60) ∧ NoB (mxz (S 42 0)) (S 30 0 0).toNat ∧ EndsP (mxz (S 42 0)) (S 30 0 0).toNat r)) : EndsP (rM S) (rn S) r := by
  refine EndsP.cg rM_cg ?_
  rcases h with ⟨a, b⟩ | ⟨-, -, c⟩
  · exact Or.inl ⟨a, fun L hL => b L hL.1⟩
  · exact c
end
section
set_option maxHeartbeats 4000000 in
set_option maxRecDepth 100000 in
theorem r_X8_comes {g : wG} (hD : wD g) {S : wSt} {a b : Int} (a0 : 0 ≤ a) (a1 : a ≤ S 30 0 20) (m1 : S 30 0 20 ≤ 419) (l : Launch) : Kt l yX8_comes wsX8_comes ({ frames := 0, cells := 0, slots := 0, locals := 0 } : Room) g S [vr g 30 0, vi a, vi b] (pV (fun S' => Fr fC S S' ∧ (S' 30 0 20 = S 30 0 20 + 1 ∧ ∃ p, (a ≤ p ∧ p ≤ S 30 0 20) ∧ (∀ j, 0 ≤ j → j < 6 * p → S' 58 0 j = S 58 0 j) ∧ (∀ k, 0 ≤ k → k < 6 → S' 58 0 (6 * p + k) = nl (S 55 0 k)) ∧ (∀ j, 6 * p ≤ j → j < 6 * S 30 0 20 → S' 58 0 (j + 6) = S 58 0 j) ∧ (∀ q, a ≤ q → q < p → LXA (S 58 0) (S 55 0) q) ∧ (p = S 30 0 20 ∨ LXB (S 58 0) (S 55 0) p) ∧ (∀ j, j ≠ S 30 0 20 → S' 59 0 j = S 59 0 j) ∧ S' 59 0 (S 30 0 20) = b))) := by
  refine Kt.of (cc := cX8_comes) (nL := 6) (ret := none) (own := RX8) rfl hD (by decide) rfl (Nat.le_of_ble_eq_true rfl) ⟨rfl, rfl⟩ ?_
  intro E hC hR9
  have f77 : Cond.fieldLink RX8 77 "MirrorBenchModel" "root" "[J" ∈ wsX8_comes := by decide +kernel
  have f151 : Cond.fieldLink RX8 151 "MirrorBenchModel" "many" "I" ∈ wsX8_comes := by decide +kernel
  have f154 : Cond.fieldLink RX8 154 "MirrorBenchModel" "found" "[J" ∈ wsX8_comes := by decide +kernel
  have f157 : Cond.fieldLink RX8 157 "MirrorBenchModel" "heights" "[I" ∈ wsX8_comes := by decide +kernel
  have w8 : ∀ w ∈ wsX80, w ∈ wsX8_comes := by decide +kernel
  show Wk E g 6 S 0 [(0, vr g 30 0), (1, vi a), (2, vi b)] []
  have hfS : Fr fC S S := Fr.rfl _ S
  refine kw_iload_n hC dX8_comes_0 rfl 1 rfl ?_
  refine kw_istore_n (lv' := [(3, _), (0, _), (1, _), (2, _)]) hC dX8_comes_1 rfl (by decide) rfl ?_
  refine kw_iconst hC dX8_comes_2 rfl ?_
  refine kw_istore (lv' := [(4, _), (3, _), (0, _), (1, _), (2, _)]) hC dX8_comes_3 rfl (by decide) rfl ?_
  have hL5 : ∀ (n5 : Nat) (p : Int) (z : Int), (a ≤ p) → (p ≤ S 30 0 20) → (z = 0 ∨ z = 1) → (∀ q, a ≤ q → q < p → LXA (S 58 0) (S 55 0) q) → (z = 0 → p < S 30 0 20 ∧ LXB (S 58 0) (S 55 0) p) → 2 * (S 30 0 20 - p) + z < (n5 : Int) → Wk E g 6 S 5 [(0, vr g 30 0), (1, vi a), (2, vi b), (3, vi p), (4, vi z)] [] := by
    intro n5
    induction n5 with
    | zero => intro p z p0 p1 hz hlo hz0 hm5; exact absurd hm5 (by omega)
    | succ n5 ih5 =>
      intro p z p0 p1 hz hlo hz0 hm5
      refine kw_iload_n hC dX8_comes_5 rfl 3 rfl ?_
      refine kw_aload_n hC dX8_comes_6 rfl 0 rfl ?_
      refine kg_30_20 hC w8 f151 dX8_comes_7 rfl (by decide) (by decide) ?_
      refine kw_icmp_ge (tgt := 102) hC dX8_comes_10 rfl (by decide) (by omega) (by omega) ⟨fun c10 => ?_, fun c10 => ?_⟩
      · refine kw_bipush hC dX8_comes_102 rfl (by decide) ?_
        refine kw_aload_n hC dX8_comes_104 rfl 0 rfl ?_
        refine kg_30_20 hC w8 f151 dX8_comes_105 rfl (by decide) (by decide) ?_
        refine kw_imul hC dX8_comes_108 rfl ?_
        refine kw_iconst hC dX8_comes_109 rfl ?_
        refine kw_isub hC dX8_comes_110 rfl ?_
        refine kw_istore (lv' := [(5, _), (0, _), (1, _), (2, _), (3, _), (4, _)]) hC dX8_comes_111 rfl (by decide) rfl ?_
        have hL113 : ∀ (n113 : Nat) (x : Int) (W113 : wSt), Fr fC S W113 → (6 * p - 1 ≤ x) → (x ≤ 6 * S 30 0 20 - 1) → (W113 30 0 20 = S 30 0 20) → (∀ j, x < j → j < 6 * S 30 0 20 → W113 58 0 (j + 6) = S 58 0 j) → (∀ j, j ≤ x + 6 → j < 6 * p ∨ j ≤ x → W113 58 0 j = S 58 0 j) → (∀ j, W113 59 0 j = S 59 0 j) → x + 1 < (n113 : Int) → Wk E g 6 W113 113 [(0, vr g 30 0), (1, vi a), (2, vi b), (3, vi p), (4, vi z), (5, vi x)] [] := by
          intro n113
          induction n113 with
          | zero => intro x W113 hfW113 y0 y1 x20 h1 h2 h59 hm113; exact absurd hm113 (by omega)
          | succ n113 ih113 =>
            intro x W113 hfW113 y0 y1 x20 h1 h2 h59 hm113
            refine kw_iload hC dX8_comes_113 rfl 5 rfl ?_
            refine kw_bipush hC dX8_comes_115 rfl (by decide) ?_
            refine kw_iload_n hC dX8_comes_117 rfl 3 rfl ?_
            refine kw_imul hC dX8_comes_118 rfl ?_
            refine kw_icmp_lt (tgt := 145) hC dX8_comes_119 rfl (by decide) (by omega) (by omega) ⟨fun c119 => ?_, fun c119 => ?_⟩
            · refine kw_iconst hC dX8_comes_145 rfl ?_
              refine kw_istore (lv' := [(5, _), (0, _), (1, _), (2, _), (3, _), (4, _)]) hC dX8_comes_146 rfl (by decide) rfl ?_
              have hL148 : ∀ (n148 : Nat) (k : Int) (W148 : wSt), Fr fC S W148 → (0 ≤ k) → (k ≤ 6) → (W148 30 0 20 = S 30 0 20) → (∀ j, 6 * p ≤ j → j < 6 * S 30 0 20 → W148 58 0 (j + 6) = S 58 0 j) → (∀ j, 0 ≤ j → j < 6 * p → W148 58 0 j = S 58 0 j) → (∀ j, 0 ≤ j → j < k → W148 58 0 (6 * p + j) = nl (S 55 0 j)) → (∀ j, W148 59 0 j = S 59 0 j) → 6 - k < (n148 : Int) → Wk E g 6 W148 148 [(0, vr g 30 0), (1, vi a), (2, vi b), (3, vi p), (4, vi z), (5, vi k)] [] := by
                intro n148
                induction n148 with
                | zero => intro k W148 hfW148 k0 k1 x20 h1 h2 h3 h59 hm148; exact absurd hm148 (by omega)
                | succ n148 ih148 =>
                  intro k W148 hfW148 k0 k1 x20 h1 h2 h3 h59 hm148
                  have e55 : ∀ j, W148 55 0 j = S 55 0 j := fun j => hfW148 55 0 j (by unfold fC; omega)
                  refine kw_iload hC dX8_comes_148 rfl 5 rfl ?_
                  refine kw_bipush hC dX8_comes_150 rfl (by decide) ?_
                  refine kw_icmp_ge (tgt := 180) hC dX8_comes_152 rfl (by decide) (by omega) (by omega) ⟨fun c152 => ?_, fun c152 => ?_⟩
                  · refine kw_aload_n hC dX8_comes_180 rfl 0 rfl ?_
                    refine kg_30_19 hC w8 f157 dX8_comes_181 rfl (by decide) (by decide) ?_
                    refine kw_aload_n hC dX8_comes_184 rfl 0 rfl ?_
                    refine kg_30_20 hC w8 f151 dX8_comes_185 rfl (by decide) (by decide) ?_
                    refine kw_iload_n hC dX8_comes_188 rfl 2 rfl ?_
                    refine ks_59 hC dX8_comes_189 rfl (by decide) (by decide) (by omega) (by omega) ?_
                    refine kw_hv hfW148 (by unfold fC; omega) (fun S4 hfS4 hv4 ho4 => ?_)
                    have hvA := hv4
                    have hoA := ho4
                    have x21 : S4 30 0 20 = S 30 0 20 := (ho4 30 0 20 (by omega)).trans x20
                    refine kw_aload_n hC dX8_comes_190 rfl 0 rfl ?_
                    refine kw_dup hC dX8_comes_191 rfl rfl ?_
                    refine kg_30_20 hC w8 f151 dX8_comes_192 rfl (by decide) (by decide) ?_
                    refine kw_chi (z' := S 30 0 20) x21 ?_
                    refine kw_iconst hC dX8_comes_195 rfl ?_
                    refine kw_iadd hC dX8_comes_196 rfl ?_
                    refine kp_30_20 hC w8 f151 dX8_comes_197 rfl (by decide) (by decide) ?_
                    refine kw_hv hfS4 (by unfold fC; omega) (fun S5 hfS5 hv5 ho5 => ?_)
                    exact hR9.2.2.2 rfl _ _ _ dX8_comes_200 ⟨rfl, hfS5, hv5, p, ⟨by omega, by omega⟩, fun j j0 j1 => by rw [ho5 58 0 j (by omega), hoA 58 0 j (by omega)]; exact h2 j j0 j1, fun k k0 k1 => by rw [ho5 58 0 _ (by omega), hoA 58 0 _ (by omega)]; exact h3 k k0 (by omega), fun j j0 j1 => by rw [ho5 58 0 _ (by omega), hoA 58 0 _ (by omega)]; exact h1 j j0 j1, hlo, (by by_cases hpm : p = S 30 0 20; exact Or.inl hpm; exact Or.inr (hz0 (by omega)).2), fun j hj => by rw [ho5 59 0 j (by omega), hoA 59 0 j (by omega)]; exact h59 j, by rw [ho5 59 0 _ (by omega), ← x20]; exact hvA⟩
                  · refine kw_aload_n hC dX8_comes_155 rfl 0 rfl ?_
                    refine kg_30_18 hC w8 f154 dX8_comes_156 rfl (by decide) (by decide) ?_
                    refine kw_bipush hC dX8_comes_159 rfl (by decide) ?_
                    refine kw_iload_n hC dX8_comes_161 rfl 3 rfl ?_
                    refine kw_imul hC dX8_comes_162 rfl ?_
                    refine kw_iload hC dX8_comes_163 rfl 5 rfl ?_
                    refine kw_iadd hC dX8_comes_165 rfl ?_
                    refine kw_aload_n hC dX8_comes_166 rfl 0 rfl ?_
                    refine kg_30_15 hC w8 f77 dX8_comes_167 rfl (by decide) (by decide) ?_
                    refine kw_iload hC dX8_comes_170 rfl 5 rfl ?_
                    refine ka_55 hC dX8_comes_172 rfl (by decide) (by decide) (by omega) (by omega) ?_
                    refine kw_nrl ?_
                    refine ks_58 hC dX8_comes_173 rfl (by decide) (by decide) (by omega) (by omega) ?_
                    refine kw_hv hfW148 (by unfold fC; omega) (fun S6 hfS6 hv6 ho6 => ?_)
                    refine kw_iinc (lv' := [(5, _), (0, _), (1, _), (2, _), (3, _), (4, _)]) hC dX8_comes_174 rfl 5 rfl (by decide) rfl ?_
                    refine kw_goto (tgt := 148) hC dX8_comes_177 rfl (by decide) ?_
                    refine kw_lv [1, 2, 3, 4, 5, 0] rfl ?_
                    exact ih148 (k + 1) S6 hfS6 (by omega) (by omega) ((ho6 30 0 20 (by omega)).trans x20) (fun j j0 j1 => (ho6 58 0 _ (by omega)).trans (h1 j j0 j1)) (fun j j0 j1 => (ho6 58 0 j (by omega)).trans (h2 j j0 j1)) (fun j j0 j1 => by rcases Decidable.em (j = k) with e | e; exact (by rw [e, hv6, e55 k]); exact (ho6 58 0 _ (by omega)).trans (h3 j j0 (by omega))) (fun j => (ho6 59 0 j (by omega)).trans (h59 j)) (by omega)
              refine kw_lv [1, 2, 3, 4, 5, 0] rfl ?_
              exact hL148 7 0 W113 hfW113 (by omega) (by omega) x20 (fun j j0 j1 => h1 j (by omega) j1) (fun j j0 j1 => h2 j (by omega) (by omega)) (fun j _ _ => by omega) h59 (by omega)
            · refine kw_aload_n hC dX8_comes_122 rfl 0 rfl ?_
              refine kg_30_18 hC w8 f154 dX8_comes_123 rfl (by decide) (by decide) ?_
              refine kw_iload hC dX8_comes_126 rfl 5 rfl ?_
              refine kw_bipush hC dX8_comes_128 rfl (by decide) ?_
              refine kw_iadd hC dX8_comes_130 rfl ?_
              refine kw_aload_n hC dX8_comes_131 rfl 0 rfl ?_
              refine kg_30_18 hC w8 f154 dX8_comes_132 rfl (by decide) (by decide) ?_
              refine kw_iload hC dX8_comes_135 rfl 5 rfl ?_
              refine ka_58 hC dX8_comes_137 rfl (by decide) (by decide) (by omega) (by omega) ?_
              refine ks_58 hC dX8_comes_138 rfl (by decide) (by decide) (by omega) (by omega) ?_
              refine kw_hv hfW113 (by unfold fC; omega) (fun S7 hfS7 hv7 ho7 => ?_)
              refine kw_iinc (lv' := [(5, _), (0, _), (1, _), (2, _), (3, _), (4, _)]) hC dX8_comes_139 rfl 5 rfl (by decide) rfl ?_
              refine kw_goto (tgt := 113) hC dX8_comes_142 rfl (by decide) ?_
              refine kw_lv [1, 2, 3, 4, 5, 0] rfl ?_
              exact ih113 (x + -1) S7 hfS7 (by omega) (by omega) ((ho7 30 0 20 (by omega)).trans x20) (fun j j0 j1 => by rcases Decidable.em (j = x) with e | e; exact (by rw [e, hv7]; exact h2 x (by omega) (by omega)); exact (ho7 58 0 _ (by omega)).trans (h1 j (by omega) j1)) (fun j j0 j1 => (ho7 58 0 j (by omega)).trans (h2 j (by omega) (by omega))) (fun j => (ho7 59 0 j (by omega)).trans (h59 j)) (by omega)
        refine kw_lv [1, 2, 3, 4, 5, 0] rfl ?_
        exact hL113 2600 _ S hfS (by omega) (by omega) (by omega) (fun j _ _ => by omega) (fun _ _ _ => rfl) (fun _ => rfl) (by omega)
      · refine kw_iload hC dX8_comes_13 rfl 4 rfl ?_
        refine kw_if_eq (tgt := 102) hC dX8_comes_15 rfl (by decide) (by omega) ⟨fun c15 => ?_, fun c15 => ?_⟩
        · refine kw_bipush hC dX8_comes_102 rfl (by decide) ?_
          refine kw_aload_n hC dX8_comes_104 rfl 0 rfl ?_
          refine kg_30_20 hC w8 f151 dX8_comes_105 rfl (by decide) (by decide) ?_
          refine kw_imul hC dX8_comes_108 rfl ?_
          refine kw_iconst hC dX8_comes_109 rfl ?_
          refine kw_isub hC dX8_comes_110 rfl ?_
          refine kw_istore (lv' := [(5, _), (0, _), (1, _), (2, _), (3, _), (4, _)]) hC dX8_comes_111 rfl (by decide) rfl ?_
          have hL113 : ∀ (n113 : Nat) (x : Int) (W113 : wSt), Fr fC S W113 → (6 * p - 1 ≤ x) → (x ≤ 6 * S 30 0 20 - 1) → (W113 30 0 20 = S 30 0 20) → (∀ j, x < j → j < 6 * S 30 0 20 → W113 58 0 (j + 6) = S 58 0 j) → (∀ j, j ≤ x + 6 → j < 6 * p ∨ j ≤ x → W113 58 0 j = S 58 0 j) → (∀ j, W113 59 0 j = S 59 0 j) → x + 1 < (n113 : Int) → Wk E g 6 W113 113 [(0, vr g 30 0), (1, vi a), (2, vi b), (3, vi p), (4, vi z), (5, vi x)] [] := by
            intro n113
            induction n113 with
            | zero => intro x W113 hfW113 y0 y1 x20 h1 h2 h59 hm113; exact absurd hm113 (by omega)
            | succ n113 ih113 =>
              intro x W113 hfW113 y0 y1 x20 h1 h2 h59 hm113
              refine kw_iload hC dX8_comes_113 rfl 5 rfl ?_
              refine kw_bipush hC dX8_comes_115 rfl (by decide) ?_
              refine kw_iload_n hC dX8_comes_117 rfl 3 rfl ?_
              refine kw_imul hC dX8_comes_118 rfl ?_
              refine kw_icmp_lt (tgt := 145) hC dX8_comes_119 rfl (by decide) (by omega) (by omega) ⟨fun c119 => ?_, fun c119 => ?_⟩
              · refine kw_iconst hC dX8_comes_145 rfl ?_
                refine kw_istore (lv' := [(5, _), (0, _), (1, _), (2, _), (3, _), (4, _)]) hC dX8_comes_146 rfl (by decide) rfl ?_
                have hL148 : ∀ (n148 : Nat) (k : Int) (W148 : wSt), Fr fC S W148 → (0 ≤ k) → (k ≤ 6) → (W148 30 0 20 = S 30 0 20) → (∀ j, 6 * p ≤ j → j < 6 * S 30 0 20 → W148 58 0 (j + 6) = S 58 0 j) → (∀ j, 0 ≤ j → j < 6 * p → W148 58 0 j = S 58 0 j) → (∀ j, 0 ≤ j → j < k → W148 58 0 (6 * p + j) = nl (S 55 0 j)) → (∀ j, W148 59 0 j = S 59 0 j) → 6 - k < (n148 : Int) → Wk E g 6 W148 148 [(0, vr g 30 0), (1, vi a), (2, vi b), (3, vi p), (4, vi z), (5, vi k)] [] := by
                  intro n148
                  induction n148 with
                  | zero => intro k W148 hfW148 k0 k1 x20 h1 h2 h3 h59 hm148; exact absurd hm148 (by omega)
                  | succ n148 ih148 =>
                    intro k W148 hfW148 k0 k1 x20 h1 h2 h3 h59 hm148
                    have e55 : ∀ j, W148 55 0 j = S 55 0 j := fun j => hfW148 55 0 j (by unfold fC; omega)
                    refine kw_iload hC dX8_comes_148 rfl 5 rfl ?_
                    refine kw_bipush hC dX8_comes_150 rfl (by decide) ?_
                    refine kw_icmp_ge (tgt := 180) hC dX8_comes_152 rfl (by decide) (by omega) (by omega) ⟨fun c152 => ?_, fun c152 => ?_⟩
                    · refine kw_aload_n hC dX8_comes_180 rfl 0 rfl ?_
                      refine kg_30_19 hC w8 f157 dX8_comes_181 rfl (by decide) (by decide) ?_
                      refine kw_aload_n hC dX8_comes_184 rfl 0 rfl ?_
                      refine kg_30_20 hC w8 f151 dX8_comes_185 rfl (by decide) (by decide) ?_
                      refine kw_iload_n hC dX8_comes_188 rfl 2 rfl ?_
                      refine ks_59 hC dX8_comes_189 rfl (by decide) (by decide) (by omega) (by omega) ?_
                      refine kw_hv hfW148 (by unfold fC; omega) (fun S11 hfS11 hv11 ho11 => ?_)
                      have hvA := hv11
                      have hoA := ho11
                      have x21 : S11 30 0 20 = S 30 0 20 := (ho11 30 0 20 (by omega)).trans x20
                      refine kw_aload_n hC dX8_comes_190 rfl 0 rfl ?_
                      refine kw_dup hC dX8_comes_191 rfl rfl ?_
                      refine kg_30_20 hC w8 f151 dX8_comes_192 rfl (by decide) (by decide) ?_
                      refine kw_chi (z' := S 30 0 20) x21 ?_
                      refine kw_iconst hC dX8_comes_195 rfl ?_
                      refine kw_iadd hC dX8_comes_196 rfl ?_
                      refine kp_30_20 hC w8 f151 dX8_comes_197 rfl (by decide) (by decide) ?_
                      refine kw_hv hfS11 (by unfold fC; omega) (fun S12 hfS12 hv12 ho12 => ?_)
                      exact hR9.2.2.2 rfl _ _ _ dX8_comes_200 ⟨rfl, hfS12, hv12, p, ⟨by omega, by omega⟩, fun j j0 j1 => by rw [ho12 58 0 j (by omega), hoA 58 0 j (by omega)]; exact h2 j j0 j1, fun k k0 k1 => by rw [ho12 58 0 _ (by omega), hoA 58 0 _ (by omega)]; exact h3 k k0 (by omega), fun j j0 j1 => by rw [ho12 58 0 _ (by omega), hoA 58 0 _ (by omega)]; exact h1 j j0 j1, hlo, (by by_cases hpm : p = S 30 0 20; exact Or.inl hpm; exact Or.inr (hz0 (by omega)).2), fun j hj => by rw [ho12 59 0 j (by omega), hoA 59 0 j (by omega)]; exact h59 j, by rw [ho12 59 0 _ (by omega), ← x20]; exact hvA⟩
                    · refine kw_aload_n hC dX8_comes_155 rfl 0 rfl ?_
                      refine kg_30_18 hC w8 f154 dX8_comes_156 rfl (by decide) (by decide) ?_
                      refine kw_bipush hC dX8_comes_159 rfl (by decide) ?_
                      refine kw_iload_n hC dX8_comes_161 rfl 3 rfl ?_
                      refine kw_imul hC dX8_comes_162 rfl ?_
                      refine kw_iload hC dX8_comes_163 rfl 5 rfl ?_
                      refine kw_iadd hC dX8_comes_165 rfl ?_
                      refine kw_aload_n hC dX8_comes_166 rfl 0 rfl ?_
                      refine kg_30_15 hC w8 f77 dX8_comes_167 rfl (by decide) (by decide) ?_
                      refine kw_iload hC dX8_comes_170 rfl 5 rfl ?_
                      refine ka_55 hC dX8_comes_172 rfl (by decide) (by decide) (by omega) (by omega) ?_
                      refine kw_nrl ?_
                      refine ks_58 hC dX8_comes_173 rfl (by decide) (by decide) (by omega) (by omega) ?_
                      refine kw_hv hfW148 (by unfold fC; omega) (fun S13 hfS13 hv13 ho13 => ?_)
                      refine kw_iinc (lv' := [(5, _), (0, _), (1, _), (2, _), (3, _), (4, _)]) hC dX8_comes_174 rfl 5 rfl (by decide) rfl ?_
                      refine kw_goto (tgt := 148) hC dX8_comes_177 rfl (by decide) ?_
                      refine kw_lv [1, 2, 3, 4, 5, 0] rfl ?_
                      exact ih148 (k + 1) S13 hfS13 (by omega) (by omega) ((ho13 30 0 20 (by omega)).trans x20) (fun j j0 j1 => (ho13 58 0 _ (by omega)).trans (h1 j j0 j1)) (fun j j0 j1 => (ho13 58 0 j (by omega)).trans (h2 j j0 j1)) (fun j j0 j1 => by rcases Decidable.em (j = k) with e | e; exact (by rw [e, hv13, e55 k]); exact (ho13 58 0 _ (by omega)).trans (h3 j j0 (by omega))) (fun j => (ho13 59 0 j (by omega)).trans (h59 j)) (by omega)
                refine kw_lv [1, 2, 3, 4, 5, 0] rfl ?_
                exact hL148 7 0 W113 hfW113 (by omega) (by omega) x20 (fun j j0 j1 => h1 j (by omega) j1) (fun j j0 j1 => h2 j (by omega) (by omega)) (fun j _ _ => by omega) h59 (by omega)
              · refine kw_aload_n hC dX8_comes_122 rfl 0 rfl ?_
                refine kg_30_18 hC w8 f154 dX8_comes_123 rfl (by decide) (by decide) ?_
                refine kw_iload hC dX8_comes_126 rfl 5 rfl ?_
                refine kw_bipush hC dX8_comes_128 rfl (by decide) ?_
                refine kw_iadd hC dX8_comes_130 rfl ?_
                refine kw_aload_n hC dX8_comes_131 rfl 0 rfl ?_
                refine kg_30_18 hC w8 f154 dX8_comes_132 rfl (by decide) (by decide) ?_
                refine kw_iload hC dX8_comes_135 rfl 5 rfl ?_
                refine ka_58 hC dX8_comes_137 rfl (by decide) (by decide) (by omega) (by omega) ?_
                refine ks_58 hC dX8_comes_138 rfl (by decide) (by decide) (by omega) (by omega) ?_
                refine kw_hv hfW113 (by unfold fC; omega) (fun S14 hfS14 hv14 ho14 => ?_)
                refine kw_iinc (lv' := [(5, _), (0, _), (1, _), (2, _), (3, _), (4, _)]) hC dX8_comes_139 rfl 5 rfl (by decide) rfl ?_
                refine kw_goto (tgt := 113) hC dX8_comes_142 rfl (by decide) ?_
                refine kw_lv [1, 2, 3, 4, 5, 0] rfl ?_
                exact ih113 (x + -1) S14 hfS14 (by omega) (by omega) ((ho14 30 0 20 (by omega)).trans x20) (fun j j0 j1 => by rcases Decidable.em (j = x) with e | e; exact (by rw [e, hv14]; exact h2 x (by omega) (by omega)); exact (ho14 58 0 _ (by omega)).trans (h1 j (by omega) j1)) (fun j j0 j1 => (ho14 58 0 j (by omega)).trans (h2 j (by omega) (by omega))) (fun j => (ho14 59 0 j (by omega)).trans (h59 j)) (by omega)
          refine kw_lv [1, 2, 3, 4, 5, 0] rfl ?_
          exact hL113 2600 _ S hfS (by omega) (by omega) (by omega) (fun j _ _ => by omega) (fun _ _ _ => rfl) (fun _ => rfl) (by omega)
        · refine kw_iconst hC dX8_comes_18 rfl ?_
          refine kw_istore (lv' := [(5, _), (0, _), (1, _), (2, _), (3, _), (4, _)]) hC dX8_comes_19 rfl (by decide) rfl ?_
          have hL21 : ∀ (n21 : Nat) (k : Int), (0 ≤ k) → (k ≤ 5) → (∀ j, 0 ≤ j → j < k → nl (S 58 0 (6 * p + j)) = nl (S 55 0 j)) → 5 - k < (n21 : Int) → Wk E g 6 S 21 [(0, vr g 30 0), (1, vi a), (2, vi b), (3, vi p), (4, vi z), (5, vi k)] [] := by
            intro n21
            induction n21 with
            | zero => intro k k0 k1 hke hm21; exact absurd hm21 (by omega)
            | succ n21 ih21 =>
              intro k k0 k1 hke hm21
              refine kw_iload hC dX8_comes_21 rfl 5 rfl ?_
              refine kw_iconst hC dX8_comes_23 rfl ?_
              refine kw_icmp_ge (tgt := 56) hC dX8_comes_24 rfl (by decide) (by omega) (by omega) ⟨fun c24 => ?_, fun c24 => ?_⟩
              · refine kw_aload_n hC dX8_comes_56 rfl 0 rfl ?_
                refine kg_30_18 hC w8 f154 dX8_comes_57 rfl (by decide) (by decide) ?_
                refine kw_bipush hC dX8_comes_60 rfl (by decide) ?_
                refine kw_iload_n hC dX8_comes_62 rfl 3 rfl ?_
                refine kw_imul hC dX8_comes_63 rfl ?_
                refine kw_iload hC dX8_comes_64 rfl 5 rfl ?_
                refine kw_iadd hC dX8_comes_66 rfl ?_
                refine ka_58 hC dX8_comes_67 rfl (by decide) (by decide) (by omega) (by omega) ?_
                refine kw_nrl ?_
                refine kw_aload_n hC dX8_comes_68 rfl 0 rfl ?_
                refine kg_30_15 hC w8 f77 dX8_comes_69 rfl (by decide) (by decide) ?_
                refine kw_iload hC dX8_comes_72 rfl 5 rfl ?_
                refine ka_55 hC dX8_comes_74 rfl (by decide) (by decide) (by omega) (by omega) ?_
                refine kw_nrl ?_
                refine kw_lcmp hC dX8_comes_75 rfl (nl_r _) (nl_r _) ?_
                refine kw_if_le (tgt := 83) hC dX8_comes_76 rfl (by decide) (cz_r _ _) ⟨fun c76 => ?_, fun c76 => ?_⟩
                · replace c76 := (cz_le _ _).mp c76
                  refine kw_iconst hC dX8_comes_83 rfl ?_
                  refine kw_istore (lv' := [(4, _), (0, _), (1, _), (2, _), (3, _), (5, _)]) hC dX8_comes_84 rfl (by decide) rfl ?_
                  refine kw_iload_n hC dX8_comes_86 rfl 4 rfl ?_
                  refine kw_iload hC dX8_comes_87 rfl 0 rfl ?_
                  refine kw_if_eq (tgt := 96) hC dX8_comes_89 rfl (by decide) (by omega) ⟨fun c89 => ?_, fun c89 => ?_⟩
                  · refine kw_iconst hC dX8_comes_96 rfl ?_
                    refine kw_iadd hC dX8_comes_97 rfl ?_
                    refine kw_istore_n (lv' := [(3, _), (4, _), (0, _), (1, _), (2, _), (5, _)]) hC dX8_comes_98 rfl (by decide) rfl ?_
                    refine kw_goto (tgt := 5) hC dX8_comes_99 rfl (by decide) ?_
                    refine kw_lv [2, 3, 4, 0, 1] rfl ?_
                    exact ih5 _ _ (by omega) (by omega) (by omega) (by first | exact (fun q q0 q1 => hlo q q0 (by omega)) | exact (fun q q0 q1 => by rcases Decidable.em (q = p) with e | e; exact (by rw [e]; exact ⟨k, by omega, hke, by omega⟩); exact hlo q q0 (by omega))) (by first | (exfalso; omega) | exact (fun q => absurd q (by decide)) | exact (fun _ => ⟨by omega, by rw [Int.add_zero]; exact ⟨k, by omega, hke, by omega, by omega⟩⟩)) (by omega)
                  · refine kw_iconst hC dX8_comes_92 rfl ?_
                    refine kw_goto (tgt := 97) hC dX8_comes_93 rfl (by decide) ?_
                    refine kw_iadd hC dX8_comes_97 rfl ?_
                    refine kw_istore_n (lv' := [(3, _), (4, _), (0, _), (1, _), (2, _), (5, _)]) hC dX8_comes_98 rfl (by decide) rfl ?_
                    refine kw_goto (tgt := 5) hC dX8_comes_99 rfl (by decide) ?_
                    refine kw_lv [2, 3, 4, 0, 1] rfl ?_
                    exact ih5 _ _ (by omega) (by omega) (by omega) (by first | exact (fun q q0 q1 => hlo q q0 (by omega)) | exact (fun q q0 q1 => by rcases Decidable.em (q = p) with e | e; exact (by rw [e]; exact ⟨k, by omega, hke, by omega⟩); exact hlo q q0 (by omega))) (by first | (exfalso; omega) | exact (fun q => absurd q (by decide)) | exact (fun _ => ⟨by omega, by rw [Int.add_zero]; exact ⟨k, by omega, hke, by omega, by omega⟩⟩)) (by omega)
                · replace c76 := (not_congr (cz_le _ _)).mp c76
                  refine kw_iconst hC dX8_comes_79 rfl ?_
                  refine kw_goto (tgt := 84) hC dX8_comes_80 rfl (by decide) ?_
                  refine kw_istore (lv' := [(4, _), (0, _), (1, _), (2, _), (3, _), (5, _)]) hC dX8_comes_84 rfl (by decide) rfl ?_
                  refine kw_iload_n hC dX8_comes_86 rfl 4 rfl ?_
                  refine kw_iload hC dX8_comes_87 rfl 0 rfl ?_
                  refine kw_if_eq (tgt := 96) hC dX8_comes_89 rfl (by decide) (by omega) ⟨fun c89 => ?_, fun c89 => ?_⟩
                  · refine kw_iconst hC dX8_comes_96 rfl ?_
                    refine kw_iadd hC dX8_comes_97 rfl ?_
                    refine kw_istore_n (lv' := [(3, _), (4, _), (0, _), (1, _), (2, _), (5, _)]) hC dX8_comes_98 rfl (by decide) rfl ?_
                    refine kw_goto (tgt := 5) hC dX8_comes_99 rfl (by decide) ?_
                    refine kw_lv [2, 3, 4, 0, 1] rfl ?_
                    exact ih5 _ _ (by omega) (by omega) (by omega) (by first | exact (fun q q0 q1 => hlo q q0 (by omega)) | exact (fun q q0 q1 => by rcases Decidable.em (q = p) with e | e; exact (by rw [e]; exact ⟨k, by omega, hke, by omega⟩); exact hlo q q0 (by omega))) (by first | (exfalso; omega) | exact (fun q => absurd q (by decide)) | exact (fun _ => ⟨by omega, by rw [Int.add_zero]; exact ⟨k, by omega, hke, by omega, by omega⟩⟩)) (by omega)
                  · refine kw_iconst hC dX8_comes_92 rfl ?_
                    refine kw_goto (tgt := 97) hC dX8_comes_93 rfl (by decide) ?_
                    refine kw_iadd hC dX8_comes_97 rfl ?_
                    refine kw_istore_n (lv' := [(3, _), (4, _), (0, _), (1, _), (2, _), (5, _)]) hC dX8_comes_98 rfl (by decide) rfl ?_
                    refine kw_goto (tgt := 5) hC dX8_comes_99 rfl (by decide) ?_
                    refine kw_lv [2, 3, 4, 0, 1] rfl ?_
                    exact ih5 _ _ (by omega) (by omega) (by omega) (by first | exact (fun q q0 q1 => hlo q q0 (by omega)) | exact (fun q q0 q1 => by rcases Decidable.em (q = p) with e | e; exact (by rw [e]; exact ⟨k, by omega, hke, by omega⟩); exact hlo q q0 (by omega))) (by first | (exfalso; omega) | exact (fun q => absurd q (by decide)) | exact (fun _ => ⟨by omega, by rw [Int.add_zero]; exact ⟨k, by omega, hke, by omega, by omega⟩⟩)) (by omega)
              · refine kw_aload_n hC dX8_comes_27 rfl 0 rfl ?_
                refine kg_30_18 hC w8 f154 dX8_comes_28 rfl (by decide) (by decide) ?_
                refine kw_bipush hC dX8_comes_31 rfl (by decide) ?_
                refine kw_iload_n hC dX8_comes_33 rfl 3 rfl ?_
                refine kw_imul hC dX8_comes_34 rfl ?_
                refine kw_iload hC dX8_comes_35 rfl 5 rfl ?_
                refine kw_iadd hC dX8_comes_37 rfl ?_
                refine ka_58 hC dX8_comes_38 rfl (by decide) (by decide) (by omega) (by omega) ?_
                refine kw_nrl ?_
                refine kw_aload_n hC dX8_comes_39 rfl 0 rfl ?_
                refine kg_30_15 hC w8 f77 dX8_comes_40 rfl (by decide) (by decide) ?_
                refine kw_iload hC dX8_comes_43 rfl 5 rfl ?_
                refine ka_55 hC dX8_comes_45 rfl (by decide) (by decide) (by omega) (by omega) ?_
                refine kw_nrl ?_
                refine kw_lcmp hC dX8_comes_46 rfl (nl_r _) (nl_r _) ?_
                refine kw_if_ne (tgt := 56) hC dX8_comes_47 rfl (by decide) (cz_r _ _) ⟨fun c47 => ?_, fun c47 => ?_⟩
                · replace c47 := (cz_ne _ _).mp c47
                  refine kw_aload_n hC dX8_comes_56 rfl 0 rfl ?_
                  refine kg_30_18 hC w8 f154 dX8_comes_57 rfl (by decide) (by decide) ?_
                  refine kw_bipush hC dX8_comes_60 rfl (by decide) ?_
                  refine kw_iload_n hC dX8_comes_62 rfl 3 rfl ?_
                  refine kw_imul hC dX8_comes_63 rfl ?_
                  refine kw_iload hC dX8_comes_64 rfl 5 rfl ?_
                  refine kw_iadd hC dX8_comes_66 rfl ?_
                  refine ka_58 hC dX8_comes_67 rfl (by decide) (by decide) (by omega) (by omega) ?_
                  refine kw_nrl ?_
                  refine kw_aload_n hC dX8_comes_68 rfl 0 rfl ?_
                  refine kg_30_15 hC w8 f77 dX8_comes_69 rfl (by decide) (by decide) ?_
                  refine kw_iload hC dX8_comes_72 rfl 5 rfl ?_
                  refine ka_55 hC dX8_comes_74 rfl (by decide) (by decide) (by omega) (by omega) ?_
                  refine kw_nrl ?_
                  refine kw_lcmp hC dX8_comes_75 rfl (nl_r _) (nl_r _) ?_
                  refine kw_if_le (tgt := 83) hC dX8_comes_76 rfl (by decide) (cz_r _ _) ⟨fun c76 => ?_, fun c76 => ?_⟩
                  · replace c76 := (cz_le _ _).mp c76
                    refine kw_iconst hC dX8_comes_83 rfl ?_
                    refine kw_istore (lv' := [(4, _), (0, _), (1, _), (2, _), (3, _), (5, _)]) hC dX8_comes_84 rfl (by decide) rfl ?_
                    refine kw_iload_n hC dX8_comes_86 rfl 4 rfl ?_
                    refine kw_iload hC dX8_comes_87 rfl 0 rfl ?_
                    refine kw_if_eq (tgt := 96) hC dX8_comes_89 rfl (by decide) (by omega) ⟨fun c89 => ?_, fun c89 => ?_⟩
                    · refine kw_iconst hC dX8_comes_96 rfl ?_
                      refine kw_iadd hC dX8_comes_97 rfl ?_
                      refine kw_istore_n (lv' := [(3, _), (4, _), (0, _), (1, _), (2, _), (5, _)]) hC dX8_comes_98 rfl (by decide) rfl ?_
                      refine kw_goto (tgt := 5) hC dX8_comes_99 rfl (by decide) ?_
                      refine kw_lv [2, 3, 4, 0, 1] rfl ?_
                      exact ih5 _ _ (by omega) (by omega) (by omega) (by first | exact (fun q q0 q1 => hlo q q0 (by omega)) | exact (fun q q0 q1 => by rcases Decidable.em (q = p) with e | e; exact (by rw [e]; exact ⟨k, by omega, hke, by omega⟩); exact hlo q q0 (by omega))) (by first | (exfalso; omega) | exact (fun q => absurd q (by decide)) | exact (fun _ => ⟨by omega, by rw [Int.add_zero]; exact ⟨k, by omega, hke, by omega, by omega⟩⟩)) (by omega)
                    · refine kw_iconst hC dX8_comes_92 rfl ?_
                      refine kw_goto (tgt := 97) hC dX8_comes_93 rfl (by decide) ?_
                      refine kw_iadd hC dX8_comes_97 rfl ?_
                      refine kw_istore_n (lv' := [(3, _), (4, _), (0, _), (1, _), (2, _), (5, _)]) hC dX8_comes_98 rfl (by decide) rfl ?_
                      refine kw_goto (tgt := 5) hC dX8_comes_99 rfl (by decide) ?_
                      refine kw_lv [2, 3, 4, 0, 1] rfl ?_
                      exact ih5 _ _ (by omega) (by omega) (by omega) (by first | exact (fun q q0 q1 => hlo q q0 (by omega)) | exact (fun q q0 q1 => by rcases Decidable.em (q = p) with e | e; exact (by rw [e]; exact ⟨k, by omega, hke, by omega⟩); exact hlo q q0 (by omega))) (by first | (exfalso; omega) | exact (fun q => absurd q (by decide)) | exact (fun _ => ⟨by omega, by rw [Int.add_zero]; exact ⟨k, by omega, hke, by omega, by omega⟩⟩)) (by omega)
                  · replace c76 := (not_congr (cz_le _ _)).mp c76
                    refine kw_iconst hC dX8_comes_79 rfl ?_
                    refine kw_goto (tgt := 84) hC dX8_comes_80 rfl (by decide) ?_
                    refine kw_istore (lv' := [(4, _), (0, _), (1, _), (2, _), (3, _), (5, _)]) hC dX8_comes_84 rfl (by decide) rfl ?_
                    refine kw_iload_n hC dX8_comes_86 rfl 4 rfl ?_
                    refine kw_iload hC dX8_comes_87 rfl 0 rfl ?_
                    refine kw_if_eq (tgt := 96) hC dX8_comes_89 rfl (by decide) (by omega) ⟨fun c89 => ?_, fun c89 => ?_⟩
                    · refine kw_iconst hC dX8_comes_96 rfl ?_
                      refine kw_iadd hC dX8_comes_97 rfl ?_
                      refine kw_istore_n (lv' := [(3, _), (4, _), (0, _), (1, _), (2, _), (5, _)]) hC dX8_comes_98 rfl (by decide) rfl ?_
                      refine kw_goto (tgt := 5) hC dX8_comes_99 rfl (by decide) ?_
                      refine kw_lv [2, 3, 4, 0, 1] rfl ?_
                      exact ih5 _ _ (by omega) (by omega) (by omega) (by first | exact (fun q q0 q1 => hlo q q0 (by omega)) | exact (fun q q0 q1 => by rcases Decidable.em (q = p) with e | e; exact (by rw [e]; exact ⟨k, by omega, hke, by omega⟩); exact hlo q q0 (by omega))) (by first | (exfalso; omega) | exact (fun q => absurd q (by decide)) | exact (fun _ => ⟨by omega, by rw [Int.add_zero]; exact ⟨k, by omega, hke, by omega, by omega⟩⟩)) (by omega)
                    · refine kw_iconst hC dX8_comes_92 rfl ?_
                      refine kw_goto (tgt := 97) hC dX8_comes_93 rfl (by decide) ?_
                      refine kw_iadd hC dX8_comes_97 rfl ?_
                      refine kw_istore_n (lv' := [(3, _), (4, _), (0, _), (1, _), (2, _), (5, _)]) hC dX8_comes_98 rfl (by decide) rfl ?_
                      refine kw_goto (tgt := 5) hC dX8_comes_99 rfl (by decide) ?_
                      refine kw_lv [2, 3, 4, 0, 1] rfl ?_
                      exact ih5 _ _ (by omega) (by omega) (by omega) (by first | exact (fun q q0 q1 => hlo q q0 (by omega)) | exact (fun q q0 q1 => by rcases Decidable.em (q = p) with e | e; exact (by rw [e]; exact ⟨k, by omega, hke, by omega⟩); exact hlo q q0 (by omega))) (by first | (exfalso; omega) | exact (fun q => absurd q (by decide)) | exact (fun _ => ⟨by omega, by rw [Int.add_zero]; exact ⟨k, by omega, hke, by omega, by omega⟩⟩)) (by omega)
                · replace c47 := (not_congr (cz_ne _ _)).mp c47
                  refine kw_iinc (lv' := [(5, _), (0, _), (1, _), (2, _), (3, _), (4, _)]) hC dX8_comes_50 rfl 5 rfl (by decide) rfl ?_
                  refine kw_goto (tgt := 21) hC dX8_comes_53 rfl (by decide) ?_
                  refine kw_lv [1, 2, 3, 4, 5, 0] rfl ?_
                  exact ih21 (k + 1) (by omega) (by omega) (fun j j0 j1 => by rcases Decidable.em (j = k) with e | e; exact (by rw [e]; omega); exact hke j j0 (by omega)) (by omega)
          refine kw_lv [1, 2, 3, 4, 5, 0] rfl ?_
          exact hL21 6 0 (by omega) (by omega) (fun j _ _ => by omega) (by omega)
  refine kw_lv [2, 3, 4, 1, 0] rfl ?_
  exact hL5 900 a _ (by omega) (by omega) (by omega) (fun q _ _ => by omega) (fun q => by omega) (by omega)

set_option maxHeartbeats 4000000 in
set_option maxRecDepth 100000 in
theorem r_X8_findRoots {g : wG} (hD : wD g) {S : wSt} {a : Int} (a0 : 1 ≤ a) (a1 : a ≤ 40) (hRS : RI S) (l : Launch) : Kt l yX8_findRoots wsX8_findRoots ({ frames := 2, cells := 0, slots := 0, locals := 49 } : Room) g S [vr g 30 0, vi a] (pI (fun r S' => Fr fR S S' ∧ ((r = 0 ∨ r = 1) ∧ (0 ≤ S' 30 0 20 ∧ S' 30 0 20 ≤ 400) ∧ (0 ≤ S' 30 0 21 ∧ S' 30 0 21 ≤ 400) ∧ FRP (mxz (S 42 0)) (S 30 0 0).toNat a (S' 58 0) (S' 59 0) (S' 30 0 20) (S' 30 0 21) r))) := by
  refine Kt.of (cc := cX8_findRoots) (nL := 7) (ret := (some .boolean)) (own := RX8) rfl hD (by decide) rfl (Nat.le_of_ble_eq_true rfl) ⟨rfl, rfl⟩ ?_
  intro E hC hR9
  have f11 : Cond.fieldLink RX8 11 "MirrorBenchModel" "mirrors" "I" ∈ wsX8_findRoots := by decide +kernel
  have f77 : Cond.fieldLink RX8 77 "MirrorBenchModel" "root" "[J" ∈ wsX8_findRoots := by decide +kernel
  have f151 : Cond.fieldLink RX8 151 "MirrorBenchModel" "many" "I" ∈ wsX8_findRoots := by decide +kernel
  have f154 : Cond.fieldLink RX8 154 "MirrorBenchModel" "found" "[J" ∈ wsX8_findRoots := by decide +kernel
  have f160 : Cond.fieldLink RX8 160 "MirrorBenchModel" "whole" "I" ∈ wsX8_findRoots := by decide +kernel
  have w8 : ∀ w ∈ wsX80, w ∈ wsX8_findRoots := by decide +kernel
  show Wk E g 7 S 0 [(0, vr g 30 0), (1, vi a)] []
  have hfS : Fr fR S S := Fr.rfl _ S
  have hRS := hRS.fr (hfS.mono (fun k i j h => by unfold fR at h; unfold tR; omega))
  have hnS := hRS.n
  have enS : S 30 0 0 = S 30 0 0 := hfS 30 0 0 (by unfold fR; omega)
  have hM := hRS.set.mok
  have hsO := hRS.set
  have hnS := hRS.n
  refine kw_aload_n hC dX8_findRoots_0 rfl 0 rfl ?_
  refine kw_iconst hC dX8_findRoots_1 rfl ?_
  refine kp_30_20 hC w8 f151 dX8_findRoots_2 rfl (by decide) (by decide) ?_
  refine kw_hv hfS (by unfold fR; omega) (fun S1 hfS1 hv1 ho1 => ?_)
  have hRS1 := hRS.fr (hfS1.mono (fun k i j h => by unfold fR at h; unfold tR; omega))
  have hnS1 := hRS1.n
  have enS1 : S1 30 0 0 = S 30 0 0 := hfS1 30 0 0 (by unfold fR; omega)
  have x20 := hv1
  refine kw_aload_n hC dX8_findRoots_5 rfl 0 rfl ?_
  refine kw_iconst hC dX8_findRoots_6 rfl ?_
  refine kp_30_21 hC w8 f160 dX8_findRoots_7 rfl (by decide) (by decide) ?_
  refine kw_hv hfS1 (by unfold fR; omega) (fun S2 hfS2 hv2 ho2 => ?_)
  have hRS2 := hRS.fr (hfS2.mono (fun k i j h => by unfold fR at h; unfold tR; omega))
  have hnS2 := hRS2.n
  have enS2 : S2 30 0 0 = S 30 0 0 := hfS2 30 0 0 (by unfold fR; omega)
  have e20_2 : S2 30 0 20 = S1 30 0 20 := ho2 30 0 20 (by omega)
  have x21 := hv2
  refine kw_iconst hC dX8_findRoots_10 rfl ?_
  refine kw_istore_n (lv' := [(2, _), (0, _), (1, _)]) hC dX8_findRoots_11 rfl (by decide) rfl ?_
  have hL12 : ∀ (n12 : Nat) (h : Int) (W12 : wSt), Fr fR S W12 → (1 ≤ h) → (h ≤ a + 1) → (0 ≤ W12 30 0 20) → (W12 30 0 20 ≤ 400) → (W12 30 0 21 = W12 30 0 20) → (h = 1 → W12 30 0 20 = 0) → (FND (mxz (S 42 0)) (S 30 0 0).toNat h (W12 30 0 20) (W12 30 0 20) (v6 (W12 58 0)) (W12 59 0)) → 41 - h < (n12 : Int) → Wk E g 7 W12 12 [(0, vr g 30 0), (1, vi a), (2, vi h)] [] := by
    intro n12
    induction n12 with
    | zero => intro h W12 hfW12 h0 h1 m0 m1 hw hm1 hfd hm12; exact absurd hm12 (by omega)
    | succ n12 ih12 =>
      intro h W12 hfW12 h0 h1 m0 m1 hw hm1 hfd hm12
      have hRW12 := hRS.fr (hfW12.mono (fun k i j h => by unfold fR at h; unfold tR; omega))
      have hnW12 := hRW12.n
      have enW12 : W12 30 0 0 = S 30 0 0 := hfW12 30 0 0 (by unfold fR; omega)
      refine kw_iload_n hC dX8_findRoots_12 rfl 2 rfl ?_
      refine kw_iload_n hC dX8_findRoots_13 rfl 1 rfl ?_
      refine kw_icmp_gt (tgt := 189) hC dX8_findRoots_14 rfl (by decide) (by omega) (by omega) ⟨fun c14 => ?_, fun c14 => ?_⟩
      · refine kw_iconst hC dX8_findRoots_189 rfl ?_
        exact hR9.2.1 rfl _ _ _ _ dX8_findRoots_190 (by omega) ⟨_, rfl, hfW12, by omega, by omega, by omega, ⟨fun _ => ⟨by have z := hfd.1; rw [show h - 1 = a by omega] at z; exact z, hw, hfd.2.2.2.2⟩, fun q => by omega⟩⟩
      · refine kw_aload_n hC dX8_findRoots_17 rfl 0 rfl ?_
        refine kg_30_20 hC w8 f151 dX8_findRoots_18 rfl (by decide) (by decide) ?_
        obtain ⟨f, hff⟩ : ∃ z, z = W12 30 0 20 := ⟨_, rfl⟩
        rw [← hff]
        refine kw_istore_n (lv' := [(3, _), (0, _), (1, _), (2, _)]) hC dX8_findRoots_21 rfl (by decide) rfl ?_
        refine kw_iconst hC dX8_findRoots_22 rfl ?_
        refine kw_istore (lv' := [(4, _), (3, _), (0, _), (1, _), (2, _)]) hC dX8_findRoots_23 rfl (by decide) rfl ?_
        have hL25 : ∀ (n25 : Nat) (i : Int) (W25 : wSt), Fr fR S W25 → (0 ≤ i) → (i ≤ S 30 0 0) → (h ≠ 1 → W25 30 0 20 = f) → (h = 1 → f = 0) → (h = 1 → W25 30 0 20 = i) → (f ≤ W25 30 0 20) → (W25 30 0 20 ≤ 400) → (W25 30 0 21 = f) → (FND (mxz (S 42 0)) (S 30 0 0).toNat h f (W25 30 0 20) (v6 (W25 58 0)) (W25 59 0)) → (h = 1 → OWN (v6 (W25 58 0)) (W25 30 0 20) i) → S 30 0 0 - i < (n25 : Int) → Wk E g 7 W25 25 [(0, vr g 30 0), (1, vi a), (2, vi h), (3, vi f), (4, vi i)] [] := by
          intro n25
          induction n25 with
          | zero => intro i W25 hfW25 i0 i1 hm2 hf0 hm1 m0 m1 hw hfd hoi hm25; exact absurd hm25 (by omega)
          | succ n25 ih25 =>
            intro i W25 hfW25 i0 i1 hm2 hf0 hm1 m0 m1 hw hfd hoi hm25
            have hRW25 := hRS.fr (hfW25.mono (fun k i j h => by unfold fR at h; unfold tR; omega))
            have hnW25 := hRW25.n
            have enW25 : W25 30 0 0 = S 30 0 0 := hfW25 30 0 0 (by unfold fR; omega)
            refine kw_iload hC dX8_findRoots_25 rfl 4 rfl ?_
            refine kw_aload_n hC dX8_findRoots_27 rfl 0 rfl ?_
            refine kg_30_0 hC w8 f11 dX8_findRoots_28 rfl (by decide) (by decide) ?_
            refine kw_icmp_ge (tgt := 57) hC dX8_findRoots_31 rfl (by decide) (by omega) (by omega) ⟨fun c31 => ?_, fun c31 => ?_⟩
            · refine kw_iconst hC dX8_findRoots_57 rfl ?_
              refine kw_istore (lv' := [(4, _), (0, _), (1, _), (2, _), (3, _)]) hC dX8_findRoots_58 rfl (by decide) rfl ?_
              have hL60 : ∀ (n60 : Nat) (n : Int) (W60 : wSt), Fr fR S W60 → (0 ≤ n) → (n ≤ f) → (0 ≤ f) → (f ≤ W60 30 0 20) → (W60 30 0 20 ≤ 400) → (W60 30 0 21 = f) → (FND (mxz (S 42 0)) (S 30 0 0).toNat h f (W60 30 0 20) (v6 (W60 58 0)) (W60 59 0)) → (h = 1 → OWN (v6 (W60 58 0)) (W60 30 0 20) (S 30 0 0) ∧ f = 0) → (PRC (mxz (S 42 0)) (S 30 0 0).toNat h f (W60 30 0 20) (v6 (W60 58 0)) n 0) → f - n < (n60 : Int) → Wk E g 7 W60 60 [(0, vr g 30 0), (1, vi a), (2, vi h), (3, vi f), (4, vi n)] [] := by
                intro n60
                induction n60 with
                | zero => intro n W60 hfW60 n0 n1 f0 m0 m1 hw hfd how hpr hm60; exact absurd hm60 (by omega)
                | succ n60 ih60 =>
                  intro n W60 hfW60 n0 n1 f0 m0 m1 hw hfd how hpr hm60
                  have hRW60 := hRS.fr (hfW60.mono (fun k i j h => by unfold fR at h; unfold tR; omega))
                  have hnW60 := hRW60.n
                  have enW60 : W60 30 0 0 = S 30 0 0 := hfW60 30 0 0 (by unfold fR; omega)
                  refine kw_iload hC dX8_findRoots_60 rfl 4 rfl ?_
                  refine kw_iload_n hC dX8_findRoots_62 rfl 3 rfl ?_
                  refine kw_icmp_ge (tgt := 175) hC dX8_findRoots_63 rfl (by decide) (by omega) (by omega) ⟨fun c63 => ?_, fun c63 => ?_⟩
                  · have hdn := hfd.done h0 (fun q => ⟨by rw [Int.toNat_of_nonneg hnS.1]; exact (how q).1, (how q).2⟩) (by have z := hpr; rw [show n = f by omega] at z; exact z)
                    refine kw_aload_n hC dX8_findRoots_175 rfl 0 rfl ?_
                    refine kw_aload_n hC dX8_findRoots_176 rfl 0 rfl ?_
                    refine kg_30_20 hC w8 f151 dX8_findRoots_177 rfl (by decide) (by decide) ?_
                    refine kp_30_21 hC w8 f160 dX8_findRoots_180 rfl (by decide) (by decide) ?_
                    refine kw_hv hfW60 (by unfold fR; omega) (fun S6 hfS6 hv6 ho6 => ?_)
                    have hRS6 := hRS.fr (hfS6.mono (fun k i j h => by unfold fR at h; unfold tR; omega))
                    have hnS6 := hRS6.n
                    have enS6 : S6 30 0 0 = S 30 0 0 := hfS6 30 0 0 (by unfold fR; omega)
                    have e20_6 : S6 30 0 20 = W60 30 0 20 := ho6 30 0 20 (by omega)
                    have x21 := hv6
                    have e58_6 : S6 58 0 = W60 58 0 := funext fun j => ho6 58 0 j (by omega)
                    have e59_6 : S6 59 0 = W60 59 0 := funext fun j => ho6 59 0 j (by omega)
                    have hfdN : FND (mxz (S 42 0)) (S 30 0 0).toNat (h + 1) (S6 30 0 20) (S6 30 0 20) (v6 (S6 58 0)) (S6 59 0) := by rw [e20_6, e58_6, e59_6]; exact hfd.next hdn
                    refine kw_iinc (lv' := [(2, _), (0, _), (1, _), (3, _), (4, _)]) hC dX8_findRoots_183 rfl 2 rfl (by decide) rfl ?_
                    refine kw_goto (tgt := 12) hC dX8_findRoots_186 rfl (by decide) ?_
                    refine kw_lv [1, 2, 0] rfl ?_
                    exact ih12 (h + 1) S6 hfS6 (by omega) (by omega) (by omega) (by omega) (by omega) (by omega) hfdN (by omega)
                  · refine kw_iconst hC dX8_findRoots_66 rfl ?_
                    refine kw_istore (lv' := [(5, _), (0, _), (1, _), (2, _), (3, _), (4, _)]) hC dX8_findRoots_67 rfl (by decide) rfl ?_
                    have hL69 : ∀ (n69 : Nat) (i : Int) (W69 : wSt), Fr fR S W69 → (0 ≤ i) → (i ≤ S 30 0 0) → (f ≤ W69 30 0 20) → (W69 30 0 20 ≤ 400) → (W69 30 0 21 = f) → (FND (mxz (S 42 0)) (S 30 0 0).toNat h f (W69 30 0 20) (v6 (W69 58 0)) (W69 59 0)) → (h = 1 → OWN (v6 (W69 58 0)) (W69 30 0 20) (S 30 0 0) ∧ f = 0) → (PRC (mxz (S 42 0)) (S 30 0 0).toNat h f (W69 30 0 20) (v6 (W69 58 0)) n i) → S 30 0 0 - i < (n69 : Int) → Wk E g 7 W69 69 [(0, vr g 30 0), (1, vi a), (2, vi h), (3, vi f), (4, vi n), (5, vi i)] [] := by
                      intro n69
                      induction n69 with
                      | zero => intro i W69 hfW69 i0 i1 m0 m1 hw hfd how hpr hm69; exact absurd hm69 (by omega)
                      | succ n69 ih69 =>
                        intro i W69 hfW69 i0 i1 m0 m1 hw hfd how hpr hm69
                        have hRW69 := hRS.fr (hfW69.mono (fun k i j h => by unfold fR at h; unfold tR; omega))
                        have hnW69 := hRW69.n
                        have enW69 : W69 30 0 0 = S 30 0 0 := hfW69 30 0 0 (by unfold fR; omega)
                        refine kw_iload hC dX8_findRoots_69 rfl 5 rfl ?_
                        refine kw_aload_n hC dX8_findRoots_71 rfl 0 rfl ?_
                        refine kg_30_0 hC w8 f11 dX8_findRoots_72 rfl (by decide) (by decide) ?_
                        refine kw_icmp_ge (tgt := 169) hC dX8_findRoots_75 rfl (by decide) (by omega) (by omega) ⟨fun c75 => ?_, fun c75 => ?_⟩
                        · refine kw_iinc (lv' := [(4, _), (0, _), (1, _), (2, _), (3, _), (5, _)]) hC dX8_findRoots_169 rfl 4 rfl (by decide) rfl ?_
                          refine kw_goto (tgt := 60) hC dX8_findRoots_172 rfl (by decide) ?_
                          refine kw_lv [1, 2, 3, 4, 0] rfl ?_
                          exact ih60 (n + 1) W69 hfW69 (by omega) (by omega) (by omega) (by omega) (by omega) (by omega) hfd how (hpr.row (by omega)) (by omega)
                        · refine kw_iconst hC dX8_findRoots_78 rfl ?_
                          refine kw_istore (lv' := [(6, _), (0, _), (1, _), (2, _), (3, _), (4, _), (5, _)]) hC dX8_findRoots_79 rfl (by decide) rfl ?_
                          have hL81 : ∀ (n81 : Nat) (k : Int) (W81 : wSt), Fr fR S W81 → (0 ≤ k) → (k ≤ 6) → (f ≤ W81 30 0 20) → (W81 30 0 20 ≤ 400) → (W81 30 0 21 = f) → (FND (mxz (S 42 0)) (S 30 0 0).toNat h f (W81 30 0 20) (v6 (W81 58 0)) (W81 59 0)) → (h = 1 → OWN (v6 (W81 58 0)) (W81 30 0 20) (S 30 0 0) ∧ f = 0) → (PRC (mxz (S 42 0)) (S 30 0 0).toNat h f (W81 30 0 20) (v6 (W81 58 0)) n i) → (∀ j, 0 ≤ j → j < k → W81 55 0 j = W81 58 0 (6 * n + j)) → 6 - k < (n81 : Int) → Wk E g 7 W81 81 [(0, vr g 30 0), (1, vi a), (2, vi h), (3, vi f), (4, vi n), (5, vi i), (6, vi k)] [] := by
                            intro n81
                            induction n81 with
                            | zero => intro k W81 hfW81 k0 k1 m0 m1 hw hfd how hpr hk hm81; exact absurd hm81 (by omega)
                            | succ n81 ih81 =>
                              intro k W81 hfW81 k0 k1 m0 m1 hw hfd how hpr hk hm81
                              have hRW81 := hRS.fr (hfW81.mono (fun k i j h => by unfold fR at h; unfold tR; omega))
                              have hnW81 := hRW81.n
                              have enW81 : W81 30 0 0 = S 30 0 0 := hfW81 30 0 0 (by unfold fR; omega)
                              refine kw_iload hC dX8_findRoots_81 rfl 6 rfl ?_
                              refine kw_bipush hC dX8_findRoots_83 rfl (by decide) ?_
                              refine kw_icmp_ge (tgt := 114) hC dX8_findRoots_85 rfl (by decide) (by omega) (by omega) ⟨fun c85 => ?_, fun c85 => ?_⟩
                              · refine kw_aload_n hC dX8_findRoots_114 rfl 0 rfl ?_
                                refine kw_iload hC dX8_findRoots_115 rfl 5 rfl ?_
                                refine kw_callV hC (d_X8_turn hD (by omega) (by omega) hRW81) gX8_findRoots_X8_turn ⟨_, rfl⟩ rfl (by decide) (by decide) rfl ⟨rfl, rfl⟩ 1 (by decide +kernel) ⟨by decide, by decide⟩ rfl rfl (Nat.le_of_ble_eq_true rfl) dX8_findRoots_117 rfl (kd_v (fun S9 hp9 => ?_))
                                obtain ⟨hg9, hp9⟩ := hp9
                                have hfS9 : Fr fR S S9 := hfW81.trans (hg9.mono (fun k i j h => by unfold fT at h; unfold fR; omega))
                                have hRS9 := hRS.fr (hfS9.mono (fun k i j h => by unfold fR at h; unfold tR; omega))
                                have hnS9 := hRS9.n
                                have enS9 : S9 30 0 0 = S 30 0 0 := hfS9 30 0 0 (by unfold fR; omega)
                                obtain ⟨ht1, ht2, hgw, -⟩ := hp9
                                have e20_9 : S9 30 0 20 = W81 30 0 20 := hg9 30 0 20 (by unfold fT; omega)
                                have e21_9 : S9 30 0 21 = W81 30 0 21 := hg9 30 0 21 (by unfold fT; omega)
                                have e58_9 : S9 58 0 = W81 58 0 := funext fun j => hg9 58 0 j (by unfold fT; omega)
                                have e59_9 : S9 59 0 = W81 59 0 := funext fun j => hg9 59 0 j (by unfold fT; omega)
                                replace hfd := by have z := hfd; (try rw [← e58_9] at z); (try rw [← e59_9] at z); (try rw [← e20_9] at z); exact z
                                replace how := by have z := how; (try rw [← e58_9] at z); (try rw [← e59_9] at z); (try rw [← e20_9] at z); exact z
                                replace hpr := by have z := hpr; (try rw [← e58_9] at z); (try rw [← e59_9] at z); (try rw [← e20_9] at z); exact z
                                have hRw : ∀ k, 0 ≤ k → k < 6 → S9 55 0 k = twv (S 42 0) (S 30 0 0) (fun k => S9 58 0 (6 * n + k)) i k := trn_twv (W := W81) (funext fun j => hfW81 42 0 j (by unfold fR; omega)) enW81 hnS (by omega) (by omega) ht1 ht2 (fun k k0 k1 => by rw [hk k k0 (by omega)]; exact (hg9 58 0 _ (by unfold fT; omega)).symm)
                                obtain ⟨hRx, hRs⟩ := fr_R (f := S9 58 0) (p := n) hsO i0 (by omega) hRw
                                obtain ⟨hxb, hsb, hxT⟩ := fr_row hM hfd (by omega) n0 (by omega) (i := i.toNat) (by omega)
                                have hx6 : ∀ j, 6 ≤ j → rfx (mxz (S 42 0)) (S 30 0 0).toNat (v6 (S9 58 0) n) i.toNat j = 0 := fun j hj => by unfold rfx; rw [if_neg (by omega)]; exact v6_o _ _ hj
                                have hhs : hsum S9 (S9 30 0 0) = sm (S 30 0 0).toNat (rfx (mxz (S 42 0)) (S 30 0 0).toNat (v6 (S9 58 0) n) i.toNat) := by rw [enS9]; exact hRs
                                refine kw_aload_n hC dX8_findRoots_120 rfl 0 rfl ?_
                                refine kw_callV hC (d_X8_height hD (by omega) (by omega)) gX8_findRoots_X8_height ⟨_, rfl⟩ rfl (by decide) (by decide) rfl ⟨rfl, rfl⟩ 0 (by decide +kernel) ⟨by decide, by decide⟩ rfl rfl (Nat.le_of_ble_eq_true rfl) dX8_findRoots_121 rfl (kd_le ?_)
                                refine kw_nrl ?_
                                refine kw_iload_n hC dX8_findRoots_124 rfl 2 rfl ?_
                                refine kw_i2l hC dX8_findRoots_125 rfl (by omega) ?_
                                refine kw_lcmp hC dX8_findRoots_126 rfl (nl_r _) (by omega) ?_
                                refine kw_if_ne (tgt := 163) hC dX8_findRoots_127 rfl (by decide) (cz_r _ _) ⟨fun c127 => ?_, fun c127 => ?_⟩
                                · replace c127 := (cz_ne _ _).mp c127
                                  have hskip : prg (mxz (S 42 0)) (S 30 0 0).toNat (v6 (S9 58 0) n) i.toNat < 0 → sm (S 30 0 0).toNat (rfx (mxz (S 42 0)) (S 30 0 0).toNat (v6 (S9 58 0) n) i.toNat) = h → False := fun _ q => c127 (by rw [hhs, q]; exact nl_e (by omega))
                                  refine kw_iinc (lv' := [(5, _), (0, _), (1, _), (2, _), (3, _), (4, _), (6, _)]) hC dX8_findRoots_163 rfl 5 rfl (by decide) rfl ?_
                                  refine kw_goto (tgt := 69) hC dX8_findRoots_166 rfl (by decide) ?_
                                  refine kw_lv [1, 2, 3, 4, 5, 0] rfl ?_
                                  exact ih69 (i + 1) S9 hfS9 (by omega) (by omega) (by omega) (by omega) (by omega) (by first | exact hfdN | exact hfd) (by first | exact howN | exact how) (by first | exact hprN | exact hpr.skip (fun u v => (hskip u v).elim) (by omega) | exact hpr.skip (fun u v => hknown) (by omega)) (by omega)
                                · replace c127 := (not_congr (cz_ne _ _)).mp c127
                                  have hxs : sm (S 30 0 0).toNat (rfx (mxz (S 42 0)) (S 30 0 0).toNat (v6 (S9 58 0) n) i.toNat) = h := by rw [hhs, nl_e (by omega)] at c127; exact Classical.not_not.mp c127
                                  have hxr := hxT hxs
                                  refine kw_aload_n hC dX8_findRoots_130 rfl 0 rfl ?_
                                  refine kw_callV hC (d_X8_isAbove hD (by omega) (by omega)) gX8_findRoots_X8_isAbove ⟨_, rfl⟩ rfl (by decide) (by decide) rfl ⟨rfl, rfl⟩ 0 (by decide +kernel) ⟨by decide, by decide⟩ rfl rfl (Nat.le_of_ble_eq_true rfl) dX8_findRoots_131 rfl (kd_ie ?_)
                                  refine kw_ifeq_b (tgt := 163) hC dX8_findRoots_134 rfl (by decide) ⟨fun c134 => ?_, fun c134 => ?_⟩
                                  · have hskip : prg (mxz (S 42 0)) (S 30 0 0).toNat (v6 (S9 58 0) n) i.toNat < 0 → sm (S 30 0 0).toNat (rfx (mxz (S 42 0)) (S 30 0 0).toNat (v6 (S9 58 0) n) i.toNat) = h → False := fun _ _ => c134 (fun j j0 j1 => by have hb9 := hxb j.toNat; rw [hRx j j0 (by omega), nl_e (by omega)]; exact hxr.b.1 _)
                                    refine kw_iinc (lv' := [(5, _), (0, _), (1, _), (2, _), (3, _), (4, _), (6, _)]) hC dX8_findRoots_163 rfl 5 rfl (by decide) rfl ?_
                                    refine kw_goto (tgt := 69) hC dX8_findRoots_166 rfl (by decide) ?_
                                    refine kw_lv [1, 2, 3, 4, 5, 0] rfl ?_
                                    exact ih69 (i + 1) S9 hfS9 (by omega) (by omega) (by omega) (by omega) (by omega) (by first | exact hfdN | exact hfd) (by first | exact howN | exact how) (by first | exact hprN | exact hpr.skip (fun u v => (hskip u v).elim) (by omega) | exact hpr.skip (fun u v => hknown) (by omega)) (by omega)
                                  · refine kw_aload_n hC dX8_findRoots_137 rfl 0 rfl ?_
                                    refine kw_iload_n hC dX8_findRoots_138 rfl 3 rfl ?_
                                    refine kw_callV hC (d_X8_isKnown hD (by omega) (by omega) (by omega) (by omega)) gX8_findRoots_X8_isKnown ⟨_, rfl⟩ rfl (by decide) (by decide) rfl ⟨rfl, rfl⟩ 1 (by decide +kernel) ⟨by decide, by decide⟩ rfl rfl (Nat.le_of_ble_eq_true rfl) dX8_findRoots_139 rfl (kd_ie ?_)
                                    refine kw_ifne_b (tgt := 163) hC dX8_findRoots_142 rfl (by decide) ⟨fun c142 => ?_, fun c142 => ?_⟩
                                    · have hknown : ∃ q, (f ≤ q ∧ q < S9 30 0 20) ∧ v6 (S9 58 0) q = (rfx (mxz (S 42 0)) (S 30 0 0).toNat (v6 (S9 58 0) n) i.toNat) := by obtain ⟨q, q0, q1, q2⟩ := c142; exact ⟨q, ⟨q0, q1⟩, (known_v hRx hxb hx6 (hfd.le (by omega) (by omega) q1).2).mp q2⟩
                                      refine kw_iinc (lv' := [(5, _), (0, _), (1, _), (2, _), (3, _), (4, _), (6, _)]) hC dX8_findRoots_163 rfl 5 rfl (by decide) rfl ?_
                                      refine kw_goto (tgt := 69) hC dX8_findRoots_166 rfl (by decide) ?_
                                      refine kw_lv [1, 2, 3, 4, 5, 0] rfl ?_
                                      exact ih69 (i + 1) S9 hfS9 (by omega) (by omega) (by omega) (by omega) (by omega) (by first | exact hfdN | exact hfd) (by first | exact howN | exact how) (by first | exact hprN | exact hpr.skip (fun u v => (hskip u v).elim) (by omega) | exact hpr.skip (fun u v => hknown) (by omega)) (by omega)
                                    · have hnk : ∀ q, f ≤ q → q < S9 30 0 20 → v6 (S9 58 0) q ≠ (rfx (mxz (S 42 0)) (S 30 0 0).toNat (v6 (S9 58 0) n) i.toNat) := fun q q0 q1 q2 => c142 ⟨q, q0, q1, (known_v hRx hxb hx6 (hfd.le (by omega) (by omega) q1).2).mpr q2⟩
                                      refine kw_aload_n hC dX8_findRoots_145 rfl 0 rfl ?_
                                      refine kg_30_20 hC w8 f151 dX8_findRoots_146 rfl (by decide) (by decide) ?_
                                      refine kw_sipush hC dX8_findRoots_149 rfl (by decide) ?_
                                      refine kw_icmp_ne (tgt := 157) hC dX8_findRoots_152 rfl (by decide) (by omega) (by omega) ⟨fun c152 => ?_, fun c152 => ?_⟩
                                      · refine kw_aload_n hC dX8_findRoots_157 rfl 0 rfl ?_
                                        refine kw_iload_n hC dX8_findRoots_158 rfl 3 rfl ?_
                                        refine kw_iload_n hC dX8_findRoots_159 rfl 2 rfl ?_
                                        refine kw_callV hC (r_X8_comes hD (by omega) (by omega) (by omega)) gX8_findRoots_X8_comes ⟨_, rfl⟩ rfl (by decide) (by decide) rfl ⟨rfl, rfl⟩ 2 (by decide +kernel) ⟨by decide, by decide⟩ rfl rfl (Nat.le_of_ble_eq_true rfl) dX8_findRoots_160 rfl (kd_v (fun S14 hp14 => ?_))
                                        obtain ⟨hg14, hp14⟩ := hp14
                                        have hfS14 : Fr fR S S14 := hfS9.trans (hg14.mono (fun k i j h => by unfold fC at h; unfold fR; omega))
                                        have hRS14 := hRS.fr (hfS14.mono (fun k i j h => by unfold fR at h; unfold tR; omega))
                                        have hnS14 := hRS14.n
                                        have enS14 : S14 30 0 0 = S 30 0 0 := hfS14 30 0 0 (by unfold fR; omega)
                                        have hn9 : n < f := by omega
                                        obtain ⟨x20, p9, hp2, hq1, hq2, hq3, hq4, hq5, hq6, hq7⟩ := hp14
                                        have e21_14 : S14 30 0 21 = S9 30 0 21 := hg14 30 0 21 (by unfold fC; omega)
                                        obtain ⟨g1, g2, g3, g4, g5⟩ := hfd.come (by omega) (by omega) (by omega) hxr hxs hRx hnk hp2.1 hp2.2 hq1 hq2 hq3 hq4 hq5 hq6 (by omega)
                                        have hfdN : FND (mxz (S 42 0)) (S 30 0 0).toNat h f (S14 30 0 20) (v6 (S14 58 0)) (S14 59 0) := by rw [x20]; exact g1
                                        have howN : h = 1 → OWN (v6 (S14 58 0)) (S14 30 0 20) (S 30 0 0) ∧ f = 0 := fun q => by have := (how q).2; omega
                                        have hprN : PRC (mxz (S 42 0)) (S 30 0 0).toNat h f (S14 30 0 20) (v6 (S14 58 0)) n (i + 1) := (hpr.ins (m' := S14 30 0 20) (by rw [x20]; exact g2) g4).skip (fun _ _ => by rw [g4 n n0 hn9, x20]; exact g5) i0
                                        refine kw_iinc (lv' := [(5, _), (0, _), (1, _), (2, _), (3, _), (4, _), (6, _)]) hC dX8_findRoots_163 rfl 5 rfl (by decide) rfl ?_
                                        refine kw_goto (tgt := 69) hC dX8_findRoots_166 rfl (by decide) ?_
                                        refine kw_lv [1, 2, 3, 4, 5, 0] rfl ?_
                                        exact ih69 (i + 1) S14 hfS14 (by omega) (by omega) (by omega) (by omega) (by omega) (by first | exact hfdN | exact hfd) (by first | exact howN | exact how) (by first | exact hprN | exact hpr.skip (fun u v => (hskip u v).elim) (by omega) | exact hpr.skip (fun u v => hknown) (by omega)) (by omega)
                                      · have e400 : S9 30 0 20 = 400 := by omega
                                        have hful : RMo (mxz (S 42 0)) (S 30 0 0).toNat h := by rw [e400] at hfd hnk; exact hfd.full hxr hxs hnk
                                        refine kw_iconst hC dX8_findRoots_155 rfl ?_
                                        exact hR9.2.1 rfl _ _ _ _ dX8_findRoots_156 (by omega) ⟨_, rfl, hfS9, by omega, by omega, by omega, ⟨fun q => by omega, fun _ => ⟨hful.mono (by omega), h - 1, by omega, by rw [show h - 1 + 1 = h by omega]; exact hful, by rw [show S9 30 0 21 = f by omega]; exact hfd.1⟩⟩⟩
                              · refine kw_aload_n hC dX8_findRoots_88 rfl 0 rfl ?_
                                refine kg_30_15 hC w8 f77 dX8_findRoots_89 rfl (by decide) (by decide) ?_
                                refine kw_iload hC dX8_findRoots_92 rfl 6 rfl ?_
                                refine kw_aload_n hC dX8_findRoots_94 rfl 0 rfl ?_
                                refine kg_30_18 hC w8 f154 dX8_findRoots_95 rfl (by decide) (by decide) ?_
                                refine kw_bipush hC dX8_findRoots_98 rfl (by decide) ?_
                                refine kw_iload hC dX8_findRoots_100 rfl 4 rfl ?_
                                refine kw_imul hC dX8_findRoots_102 rfl ?_
                                refine kw_iload hC dX8_findRoots_103 rfl 6 rfl ?_
                                refine kw_iadd hC dX8_findRoots_105 rfl ?_
                                refine ka_58 hC dX8_findRoots_106 rfl (by decide) (by decide) (by omega) (by omega) ?_
                                refine ks_55 hC dX8_findRoots_107 rfl (by decide) (by decide) (by omega) (by omega) ?_
                                refine kw_hv hfW81 (by unfold fR; omega) (fun S15 hfS15 hv15 ho15 => ?_)
                                have hRS15 := hRS.fr (hfS15.mono (fun k i j h => by unfold fR at h; unfold tR; omega))
                                have hnS15 := hRS15.n
                                have enS15 : S15 30 0 0 = S 30 0 0 := hfS15 30 0 0 (by unfold fR; omega)
                                have e20_15 : S15 30 0 20 = W81 30 0 20 := ho15 30 0 20 (by omega)
                                have e21_15 : S15 30 0 21 = W81 30 0 21 := ho15 30 0 21 (by omega)
                                have e58_15 : S15 58 0 = W81 58 0 := funext fun j => ho15 58 0 j (by omega)
                                have e59_15 : S15 59 0 = W81 59 0 := funext fun j => ho15 59 0 j (by omega)
                                replace hfd := by have z := hfd; (try rw [← e58_15] at z); (try rw [← e59_15] at z); (try rw [← e20_15] at z); exact z
                                replace how := by have z := how; (try rw [← e58_15] at z); (try rw [← e59_15] at z); (try rw [← e20_15] at z); exact z
                                replace hpr := by have z := hpr; (try rw [← e58_15] at z); (try rw [← e59_15] at z); (try rw [← e20_15] at z); exact z
                                refine kw_iinc (lv' := [(6, _), (0, _), (1, _), (2, _), (3, _), (4, _), (5, _)]) hC dX8_findRoots_108 rfl 6 rfl (by decide) rfl ?_
                                refine kw_goto (tgt := 81) hC dX8_findRoots_111 rfl (by decide) ?_
                                refine kw_lv [1, 2, 3, 4, 5, 6, 0] rfl ?_
                                exact ih81 (k + 1) S15 hfS15 (by omega) (by omega) (by omega) (by omega) (by omega) hfd how hpr (fun j j0 j1 => by rw [e58_15]; rcases Decidable.em (j = k) with e | e; exact (by rw [e]; exact hv15); exact (ho15 55 0 j (by omega)).trans (hk j j0 (by omega))) (by omega)
                          refine kw_lv [1, 2, 3, 4, 5, 6, 0] rfl ?_
                          exact hL81 7 0 W69 hfW69 (by omega) (by omega) (by omega) (by omega) (by omega) hfd how hpr (fun j _ _ => by omega) (by omega)
                    refine kw_lv [1, 2, 3, 4, 5, 0] rfl ?_
                    exact hL69 7 0 W60 hfW60 (by omega) (by omega) (by omega) (by omega) (by omega) hfd how hpr (by omega)
              refine kw_lv [1, 2, 3, 4, 0] rfl ?_
              exact hL60 401 0 W25 hfW25 (by omega) (by omega) (by omega) (by omega) (by omega) (by omega) hfd (fun q => ⟨by rw [← show i = S 30 0 0 by omega]; exact hoi q, hf0 q⟩) PRC.z (by omega)
            · refine kw_iload_n hC dX8_findRoots_34 rfl 2 rfl ?_
              refine kw_iconst hC dX8_findRoots_35 rfl ?_
              refine kw_icmp_ne (tgt := 57) hC dX8_findRoots_36 rfl (by decide) (by omega) (by omega) ⟨fun c36 => ?_, fun c36 => ?_⟩
              · refine kw_iconst hC dX8_findRoots_57 rfl ?_
                refine kw_istore (lv' := [(4, _), (0, _), (1, _), (2, _), (3, _)]) hC dX8_findRoots_58 rfl (by decide) rfl ?_
                have hL60 : ∀ (n60 : Nat) (n : Int) (W60 : wSt), Fr fR S W60 → (0 ≤ n) → (n ≤ f) → (0 ≤ f) → (f ≤ W60 30 0 20) → (W60 30 0 20 ≤ 400) → (W60 30 0 21 = f) → (FND (mxz (S 42 0)) (S 30 0 0).toNat h f (W60 30 0 20) (v6 (W60 58 0)) (W60 59 0)) → (h = 1 → OWN (v6 (W60 58 0)) (W60 30 0 20) (S 30 0 0) ∧ f = 0) → (PRC (mxz (S 42 0)) (S 30 0 0).toNat h f (W60 30 0 20) (v6 (W60 58 0)) n 0) → f - n < (n60 : Int) → Wk E g 7 W60 60 [(0, vr g 30 0), (1, vi a), (2, vi h), (3, vi f), (4, vi n)] [] := by
                  intro n60
                  induction n60 with
                  | zero => intro n W60 hfW60 n0 n1 f0 m0 m1 hw hfd how hpr hm60; exact absurd hm60 (by omega)
                  | succ n60 ih60 =>
                    intro n W60 hfW60 n0 n1 f0 m0 m1 hw hfd how hpr hm60
                    have hRW60 := hRS.fr (hfW60.mono (fun k i j h => by unfold fR at h; unfold tR; omega))
                    have hnW60 := hRW60.n
                    have enW60 : W60 30 0 0 = S 30 0 0 := hfW60 30 0 0 (by unfold fR; omega)
                    refine kw_iload hC dX8_findRoots_60 rfl 4 rfl ?_
                    refine kw_iload_n hC dX8_findRoots_62 rfl 3 rfl ?_
                    refine kw_icmp_ge (tgt := 175) hC dX8_findRoots_63 rfl (by decide) (by omega) (by omega) ⟨fun c63 => ?_, fun c63 => ?_⟩
                    · have hdn := hfd.done h0 (fun q => ⟨by rw [Int.toNat_of_nonneg hnS.1]; exact (how q).1, (how q).2⟩) (by have z := hpr; rw [show n = f by omega] at z; exact z)
                      refine kw_aload_n hC dX8_findRoots_175 rfl 0 rfl ?_
                      refine kw_aload_n hC dX8_findRoots_176 rfl 0 rfl ?_
                      refine kg_30_20 hC w8 f151 dX8_findRoots_177 rfl (by decide) (by decide) ?_
                      refine kp_30_21 hC w8 f160 dX8_findRoots_180 rfl (by decide) (by decide) ?_
                      refine kw_hv hfW60 (by unfold fR; omega) (fun S18 hfS18 hv18 ho18 => ?_)
                      have hRS18 := hRS.fr (hfS18.mono (fun k i j h => by unfold fR at h; unfold tR; omega))
                      have hnS18 := hRS18.n
                      have enS18 : S18 30 0 0 = S 30 0 0 := hfS18 30 0 0 (by unfold fR; omega)
                      have e20_18 : S18 30 0 20 = W60 30 0 20 := ho18 30 0 20 (by omega)
                      have x21 := hv18
                      have e58_18 : S18 58 0 = W60 58 0 := funext fun j => ho18 58 0 j (by omega)
                      have e59_18 : S18 59 0 = W60 59 0 := funext fun j => ho18 59 0 j (by omega)
                      have hfdN : FND (mxz (S 42 0)) (S 30 0 0).toNat (h + 1) (S18 30 0 20) (S18 30 0 20) (v6 (S18 58 0)) (S18 59 0) := by rw [e20_18, e58_18, e59_18]; exact hfd.next hdn
                      refine kw_iinc (lv' := [(2, _), (0, _), (1, _), (3, _), (4, _)]) hC dX8_findRoots_183 rfl 2 rfl (by decide) rfl ?_
                      refine kw_goto (tgt := 12) hC dX8_findRoots_186 rfl (by decide) ?_
                      refine kw_lv [1, 2, 0] rfl ?_
                      exact ih12 (h + 1) S18 hfS18 (by omega) (by omega) (by omega) (by omega) (by omega) (by omega) hfdN (by omega)
                    · refine kw_iconst hC dX8_findRoots_66 rfl ?_
                      refine kw_istore (lv' := [(5, _), (0, _), (1, _), (2, _), (3, _), (4, _)]) hC dX8_findRoots_67 rfl (by decide) rfl ?_
                      have hL69 : ∀ (n69 : Nat) (i : Int) (W69 : wSt), Fr fR S W69 → (0 ≤ i) → (i ≤ S 30 0 0) → (f ≤ W69 30 0 20) → (W69 30 0 20 ≤ 400) → (W69 30 0 21 = f) → (FND (mxz (S 42 0)) (S 30 0 0).toNat h f (W69 30 0 20) (v6 (W69 58 0)) (W69 59 0)) → (h = 1 → OWN (v6 (W69 58 0)) (W69 30 0 20) (S 30 0 0) ∧ f = 0) → (PRC (mxz (S 42 0)) (S 30 0 0).toNat h f (W69 30 0 20) (v6 (W69 58 0)) n i) → S 30 0 0 - i < (n69 : Int) → Wk E g 7 W69 69 [(0, vr g 30 0), (1, vi a), (2, vi h), (3, vi f), (4, vi n), (5, vi i)] [] := by
                        intro n69
                        induction n69 with
                        | zero => intro i W69 hfW69 i0 i1 m0 m1 hw hfd how hpr hm69; exact absurd hm69 (by omega)
                        | succ n69 ih69 =>
                          intro i W69 hfW69 i0 i1 m0 m1 hw hfd how hpr hm69
                          have hRW69 := hRS.fr (hfW69.mono (fun k i j h => by unfold fR at h; unfold tR; omega))
                          have hnW69 := hRW69.n
                          have enW69 : W69 30 0 0 = S 30 0 0 := hfW69 30 0 0 (by unfold fR; omega)
                          refine kw_iload hC dX8_findRoots_69 rfl 5 rfl ?_
                          refine kw_aload_n hC dX8_findRoots_71 rfl 0 rfl ?_
                          refine kg_30_0 hC w8 f11 dX8_findRoots_72 rfl (by decide) (by decide) ?_
                          refine kw_icmp_ge (tgt := 169) hC dX8_findRoots_75 rfl (by decide) (by omega) (by omega) ⟨fun c75 => ?_, fun c75 => ?_⟩
                          · refine kw_iinc (lv' := [(4, _), (0, _), (1, _), (2, _), (3, _), (5, _)]) hC dX8_findRoots_169 rfl 4 rfl (by decide) rfl ?_
                            refine kw_goto (tgt := 60) hC dX8_findRoots_172 rfl (by decide) ?_
                            refine kw_lv [1, 2, 3, 4, 0] rfl ?_
                            exact ih60 (n + 1) W69 hfW69 (by omega) (by omega) (by omega) (by omega) (by omega) (by omega) hfd how (hpr.row (by omega)) (by omega)
                          · refine kw_iconst hC dX8_findRoots_78 rfl ?_
                            refine kw_istore (lv' := [(6, _), (0, _), (1, _), (2, _), (3, _), (4, _), (5, _)]) hC dX8_findRoots_79 rfl (by decide) rfl ?_
                            have hL81 : ∀ (n81 : Nat) (k : Int) (W81 : wSt), Fr fR S W81 → (0 ≤ k) → (k ≤ 6) → (f ≤ W81 30 0 20) → (W81 30 0 20 ≤ 400) → (W81 30 0 21 = f) → (FND (mxz (S 42 0)) (S 30 0 0).toNat h f (W81 30 0 20) (v6 (W81 58 0)) (W81 59 0)) → (h = 1 → OWN (v6 (W81 58 0)) (W81 30 0 20) (S 30 0 0) ∧ f = 0) → (PRC (mxz (S 42 0)) (S 30 0 0).toNat h f (W81 30 0 20) (v6 (W81 58 0)) n i) → (∀ j, 0 ≤ j → j < k → W81 55 0 j = W81 58 0 (6 * n + j)) → 6 - k < (n81 : Int) → Wk E g 7 W81 81 [(0, vr g 30 0), (1, vi a), (2, vi h), (3, vi f), (4, vi n), (5, vi i), (6, vi k)] [] := by
                              intro n81
                              induction n81 with
                              | zero => intro k W81 hfW81 k0 k1 m0 m1 hw hfd how hpr hk hm81; exact absurd hm81 (by omega)
                              | succ n81 ih81 =>
                                intro k W81 hfW81 k0 k1 m0 m1 hw hfd how hpr hk hm81
                                have hRW81 := hRS.fr (hfW81.mono (fun k i j h => by unfold fR at h; unfold tR; omega))
                                have hnW81 := hRW81.n
                                have enW81 : W81 30 0 0 = S 30 0 0 := hfW81 30 0 0 (by unfold fR; omega)
                                refine kw_iload hC dX8_findRoots_81 rfl 6 rfl ?_
                                refine kw_bipush hC dX8_findRoots_83 rfl (by decide) ?_
                                refine kw_icmp_ge (tgt := 114) hC dX8_findRoots_85 rfl (by decide) (by omega) (by omega) ⟨fun c85 => ?_, fun c85 => ?_⟩
                                · refine kw_aload_n hC dX8_findRoots_114 rfl 0 rfl ?_
                                  refine kw_iload hC dX8_findRoots_115 rfl 5 rfl ?_
                                  refine kw_callV hC (d_X8_turn hD (by omega) (by omega) hRW81) gX8_findRoots_X8_turn ⟨_, rfl⟩ rfl (by decide) (by decide) rfl ⟨rfl, rfl⟩ 1 (by decide +kernel) ⟨by decide, by decide⟩ rfl rfl (Nat.le_of_ble_eq_true rfl) dX8_findRoots_117 rfl (kd_v (fun S21 hp21 => ?_))
                                  obtain ⟨hg21, hp21⟩ := hp21
                                  have hfS21 : Fr fR S S21 := hfW81.trans (hg21.mono (fun k i j h => by unfold fT at h; unfold fR; omega))
                                  have hRS21 := hRS.fr (hfS21.mono (fun k i j h => by unfold fR at h; unfold tR; omega))
                                  have hnS21 := hRS21.n
                                  have enS21 : S21 30 0 0 = S 30 0 0 := hfS21 30 0 0 (by unfold fR; omega)
                                  obtain ⟨ht1, ht2, hgw, -⟩ := hp21
                                  have e20_21 : S21 30 0 20 = W81 30 0 20 := hg21 30 0 20 (by unfold fT; omega)
                                  have e21_21 : S21 30 0 21 = W81 30 0 21 := hg21 30 0 21 (by unfold fT; omega)
                                  have e58_21 : S21 58 0 = W81 58 0 := funext fun j => hg21 58 0 j (by unfold fT; omega)
                                  have e59_21 : S21 59 0 = W81 59 0 := funext fun j => hg21 59 0 j (by unfold fT; omega)
                                  replace hfd := by have z := hfd; (try rw [← e58_21] at z); (try rw [← e59_21] at z); (try rw [← e20_21] at z); exact z
                                  replace how := by have z := how; (try rw [← e58_21] at z); (try rw [← e59_21] at z); (try rw [← e20_21] at z); exact z
                                  replace hpr := by have z := hpr; (try rw [← e58_21] at z); (try rw [← e59_21] at z); (try rw [← e20_21] at z); exact z
                                  have hRw : ∀ k, 0 ≤ k → k < 6 → S21 55 0 k = twv (S 42 0) (S 30 0 0) (fun k => S21 58 0 (6 * n + k)) i k := trn_twv (W := W81) (funext fun j => hfW81 42 0 j (by unfold fR; omega)) enW81 hnS (by omega) (by omega) ht1 ht2 (fun k k0 k1 => by rw [hk k k0 (by omega)]; exact (hg21 58 0 _ (by unfold fT; omega)).symm)
                                  obtain ⟨hRx, hRs⟩ := fr_R (f := S21 58 0) (p := n) hsO i0 (by omega) hRw
                                  obtain ⟨hxb, hsb, hxT⟩ := fr_row hM hfd (by omega) n0 (by omega) (i := i.toNat) (by omega)
                                  have hx6 : ∀ j, 6 ≤ j → rfx (mxz (S 42 0)) (S 30 0 0).toNat (v6 (S21 58 0) n) i.toNat j = 0 := fun j hj => by unfold rfx; rw [if_neg (by omega)]; exact v6_o _ _ hj
                                  have hhs : hsum S21 (S21 30 0 0) = sm (S 30 0 0).toNat (rfx (mxz (S 42 0)) (S 30 0 0).toNat (v6 (S21 58 0) n) i.toNat) := by rw [enS21]; exact hRs
                                  refine kw_aload_n hC dX8_findRoots_120 rfl 0 rfl ?_
                                  refine kw_callV hC (d_X8_height hD (by omega) (by omega)) gX8_findRoots_X8_height ⟨_, rfl⟩ rfl (by decide) (by decide) rfl ⟨rfl, rfl⟩ 0 (by decide +kernel) ⟨by decide, by decide⟩ rfl rfl (Nat.le_of_ble_eq_true rfl) dX8_findRoots_121 rfl (kd_le ?_)
                                  refine kw_nrl ?_
                                  refine kw_iload_n hC dX8_findRoots_124 rfl 2 rfl ?_
                                  refine kw_i2l hC dX8_findRoots_125 rfl (by omega) ?_
                                  refine kw_lcmp hC dX8_findRoots_126 rfl (nl_r _) (by omega) ?_
                                  refine kw_if_ne (tgt := 163) hC dX8_findRoots_127 rfl (by decide) (cz_r _ _) ⟨fun c127 => ?_, fun c127 => ?_⟩
                                  · replace c127 := (cz_ne _ _).mp c127
                                    have hskip : prg (mxz (S 42 0)) (S 30 0 0).toNat (v6 (S21 58 0) n) i.toNat < 0 → sm (S 30 0 0).toNat (rfx (mxz (S 42 0)) (S 30 0 0).toNat (v6 (S21 58 0) n) i.toNat) = h → False := fun _ q => c127 (by rw [hhs, q]; exact nl_e (by omega))
                                    refine kw_iinc (lv' := [(5, _), (0, _), (1, _), (2, _), (3, _), (4, _), (6, _)]) hC dX8_findRoots_163 rfl 5 rfl (by decide) rfl ?_
                                    refine kw_goto (tgt := 69) hC dX8_findRoots_166 rfl (by decide) ?_
                                    refine kw_lv [1, 2, 3, 4, 5, 0] rfl ?_
                                    exact ih69 (i + 1) S21 hfS21 (by omega) (by omega) (by omega) (by omega) (by omega) (by first | exact hfdN | exact hfd) (by first | exact howN | exact how) (by first | exact hprN | exact hpr.skip (fun u v => (hskip u v).elim) (by omega) | exact hpr.skip (fun u v => hknown) (by omega)) (by omega)
                                  · replace c127 := (not_congr (cz_ne _ _)).mp c127
                                    have hxs : sm (S 30 0 0).toNat (rfx (mxz (S 42 0)) (S 30 0 0).toNat (v6 (S21 58 0) n) i.toNat) = h := by rw [hhs, nl_e (by omega)] at c127; exact Classical.not_not.mp c127
                                    have hxr := hxT hxs
                                    refine kw_aload_n hC dX8_findRoots_130 rfl 0 rfl ?_
                                    refine kw_callV hC (d_X8_isAbove hD (by omega) (by omega)) gX8_findRoots_X8_isAbove ⟨_, rfl⟩ rfl (by decide) (by decide) rfl ⟨rfl, rfl⟩ 0 (by decide +kernel) ⟨by decide, by decide⟩ rfl rfl (Nat.le_of_ble_eq_true rfl) dX8_findRoots_131 rfl (kd_ie ?_)
                                    refine kw_ifeq_b (tgt := 163) hC dX8_findRoots_134 rfl (by decide) ⟨fun c134 => ?_, fun c134 => ?_⟩
                                    · have hskip : prg (mxz (S 42 0)) (S 30 0 0).toNat (v6 (S21 58 0) n) i.toNat < 0 → sm (S 30 0 0).toNat (rfx (mxz (S 42 0)) (S 30 0 0).toNat (v6 (S21 58 0) n) i.toNat) = h → False := fun _ _ => c134 (fun j j0 j1 => by have hb9 := hxb j.toNat; rw [hRx j j0 (by omega), nl_e (by omega)]; exact hxr.b.1 _)
                                      refine kw_iinc (lv' := [(5, _), (0, _), (1, _), (2, _), (3, _), (4, _), (6, _)]) hC dX8_findRoots_163 rfl 5 rfl (by decide) rfl ?_
                                      refine kw_goto (tgt := 69) hC dX8_findRoots_166 rfl (by decide) ?_
                                      refine kw_lv [1, 2, 3, 4, 5, 0] rfl ?_
                                      exact ih69 (i + 1) S21 hfS21 (by omega) (by omega) (by omega) (by omega) (by omega) (by first | exact hfdN | exact hfd) (by first | exact howN | exact how) (by first | exact hprN | exact hpr.skip (fun u v => (hskip u v).elim) (by omega) | exact hpr.skip (fun u v => hknown) (by omega)) (by omega)
                                    · refine kw_aload_n hC dX8_findRoots_137 rfl 0 rfl ?_
                                      refine kw_iload_n hC dX8_findRoots_138 rfl 3 rfl ?_
                                      refine kw_callV hC (d_X8_isKnown hD (by omega) (by omega) (by omega) (by omega)) gX8_findRoots_X8_isKnown ⟨_, rfl⟩ rfl (by decide) (by decide) rfl ⟨rfl, rfl⟩ 1 (by decide +kernel) ⟨by decide, by decide⟩ rfl rfl (Nat.le_of_ble_eq_true rfl) dX8_findRoots_139 rfl (kd_ie ?_)
                                      refine kw_ifne_b (tgt := 163) hC dX8_findRoots_142 rfl (by decide) ⟨fun c142 => ?_, fun c142 => ?_⟩
                                      · have hknown : ∃ q, (f ≤ q ∧ q < S21 30 0 20) ∧ v6 (S21 58 0) q = (rfx (mxz (S 42 0)) (S 30 0 0).toNat (v6 (S21 58 0) n) i.toNat) := by obtain ⟨q, q0, q1, q2⟩ := c142; exact ⟨q, ⟨q0, q1⟩, (known_v hRx hxb hx6 (hfd.le (by omega) (by omega) q1).2).mp q2⟩
                                        refine kw_iinc (lv' := [(5, _), (0, _), (1, _), (2, _), (3, _), (4, _), (6, _)]) hC dX8_findRoots_163 rfl 5 rfl (by decide) rfl ?_
                                        refine kw_goto (tgt := 69) hC dX8_findRoots_166 rfl (by decide) ?_
                                        refine kw_lv [1, 2, 3, 4, 5, 0] rfl ?_
                                        exact ih69 (i + 1) S21 hfS21 (by omega) (by omega) (by omega) (by omega) (by omega) (by first | exact hfdN | exact hfd) (by first | exact howN | exact how) (by first | exact hprN | exact hpr.skip (fun u v => (hskip u v).elim) (by omega) | exact hpr.skip (fun u v => hknown) (by omega)) (by omega)
                                      · have hnk : ∀ q, f ≤ q → q < S21 30 0 20 → v6 (S21 58 0) q ≠ (rfx (mxz (S 42 0)) (S 30 0 0).toNat (v6 (S21 58 0) n) i.toNat) := fun q q0 q1 q2 => c142 ⟨q, q0, q1, (known_v hRx hxb hx6 (hfd.le (by omega) (by omega) q1).2).mpr q2⟩
                                        refine kw_aload_n hC dX8_findRoots_145 rfl 0 rfl ?_
                                        refine kg_30_20 hC w8 f151 dX8_findRoots_146 rfl (by decide) (by decide) ?_
                                        refine kw_sipush hC dX8_findRoots_149 rfl (by decide) ?_
                                        refine kw_icmp_ne (tgt := 157) hC dX8_findRoots_152 rfl (by decide) (by omega) (by omega) ⟨fun c152 => ?_, fun c152 => ?_⟩
                                        · refine kw_aload_n hC dX8_findRoots_157 rfl 0 rfl ?_
                                          refine kw_iload_n hC dX8_findRoots_158 rfl 3 rfl ?_
                                          refine kw_iload_n hC dX8_findRoots_159 rfl 2 rfl ?_
                                          refine kw_callV hC (r_X8_comes hD (by omega) (by omega) (by omega)) gX8_findRoots_X8_comes ⟨_, rfl⟩ rfl (by decide) (by decide) rfl ⟨rfl, rfl⟩ 2 (by decide +kernel) ⟨by decide, by decide⟩ rfl rfl (Nat.le_of_ble_eq_true rfl) dX8_findRoots_160 rfl (kd_v (fun S26 hp26 => ?_))
                                          obtain ⟨hg26, hp26⟩ := hp26
                                          have hfS26 : Fr fR S S26 := hfS21.trans (hg26.mono (fun k i j h => by unfold fC at h; unfold fR; omega))
                                          have hRS26 := hRS.fr (hfS26.mono (fun k i j h => by unfold fR at h; unfold tR; omega))
                                          have hnS26 := hRS26.n
                                          have enS26 : S26 30 0 0 = S 30 0 0 := hfS26 30 0 0 (by unfold fR; omega)
                                          have hn9 : n < f := by omega
                                          obtain ⟨x20, p9, hp2, hq1, hq2, hq3, hq4, hq5, hq6, hq7⟩ := hp26
                                          have e21_26 : S26 30 0 21 = S21 30 0 21 := hg26 30 0 21 (by unfold fC; omega)
                                          obtain ⟨g1, g2, g3, g4, g5⟩ := hfd.come (by omega) (by omega) (by omega) hxr hxs hRx hnk hp2.1 hp2.2 hq1 hq2 hq3 hq4 hq5 hq6 (by omega)
                                          have hfdN : FND (mxz (S 42 0)) (S 30 0 0).toNat h f (S26 30 0 20) (v6 (S26 58 0)) (S26 59 0) := by rw [x20]; exact g1
                                          have howN : h = 1 → OWN (v6 (S26 58 0)) (S26 30 0 20) (S 30 0 0) ∧ f = 0 := fun q => by have := (how q).2; omega
                                          have hprN : PRC (mxz (S 42 0)) (S 30 0 0).toNat h f (S26 30 0 20) (v6 (S26 58 0)) n (i + 1) := (hpr.ins (m' := S26 30 0 20) (by rw [x20]; exact g2) g4).skip (fun _ _ => by rw [g4 n n0 hn9, x20]; exact g5) i0
                                          refine kw_iinc (lv' := [(5, _), (0, _), (1, _), (2, _), (3, _), (4, _), (6, _)]) hC dX8_findRoots_163 rfl 5 rfl (by decide) rfl ?_
                                          refine kw_goto (tgt := 69) hC dX8_findRoots_166 rfl (by decide) ?_
                                          refine kw_lv [1, 2, 3, 4, 5, 0] rfl ?_
                                          exact ih69 (i + 1) S26 hfS26 (by omega) (by omega) (by omega) (by omega) (by omega) (by first | exact hfdN | exact hfd) (by first | exact howN | exact how) (by first | exact hprN | exact hpr.skip (fun u v => (hskip u v).elim) (by omega) | exact hpr.skip (fun u v => hknown) (by omega)) (by omega)
                                        · have e400 : S21 30 0 20 = 400 := by omega
                                          have hful : RMo (mxz (S 42 0)) (S 30 0 0).toNat h := by rw [e400] at hfd hnk; exact hfd.full hxr hxs hnk
                                          refine kw_iconst hC dX8_findRoots_155 rfl ?_
                                          exact hR9.2.1 rfl _ _ _ _ dX8_findRoots_156 (by omega) ⟨_, rfl, hfS21, by omega, by omega, by omega, ⟨fun q => by omega, fun _ => ⟨hful.mono (by omega), h - 1, by omega, by rw [show h - 1 + 1 = h by omega]; exact hful, by rw [show S21 30 0 21 = f by omega]; exact hfd.1⟩⟩⟩
                                · refine kw_aload_n hC dX8_findRoots_88 rfl 0 rfl ?_
                                  refine kg_30_15 hC w8 f77 dX8_findRoots_89 rfl (by decide) (by decide) ?_
                                  refine kw_iload hC dX8_findRoots_92 rfl 6 rfl ?_
                                  refine kw_aload_n hC dX8_findRoots_94 rfl 0 rfl ?_
                                  refine kg_30_18 hC w8 f154 dX8_findRoots_95 rfl (by decide) (by decide) ?_
                                  refine kw_bipush hC dX8_findRoots_98 rfl (by decide) ?_
                                  refine kw_iload hC dX8_findRoots_100 rfl 4 rfl ?_
                                  refine kw_imul hC dX8_findRoots_102 rfl ?_
                                  refine kw_iload hC dX8_findRoots_103 rfl 6 rfl ?_
                                  refine kw_iadd hC dX8_findRoots_105 rfl ?_
                                  refine ka_58 hC dX8_findRoots_106 rfl (by decide) (by decide) (by omega) (by omega) ?_
                                  refine ks_55 hC dX8_findRoots_107 rfl (by decide) (by decide) (by omega) (by omega) ?_
                                  refine kw_hv hfW81 (by unfold fR; omega) (fun S27 hfS27 hv27 ho27 => ?_)
                                  have hRS27 := hRS.fr (hfS27.mono (fun k i j h => by unfold fR at h; unfold tR; omega))
                                  have hnS27 := hRS27.n
                                  have enS27 : S27 30 0 0 = S 30 0 0 := hfS27 30 0 0 (by unfold fR; omega)
                                  have e20_27 : S27 30 0 20 = W81 30 0 20 := ho27 30 0 20 (by omega)
                                  have e21_27 : S27 30 0 21 = W81 30 0 21 := ho27 30 0 21 (by omega)
                                  have e58_27 : S27 58 0 = W81 58 0 := funext fun j => ho27 58 0 j (by omega)
                                  have e59_27 : S27 59 0 = W81 59 0 := funext fun j => ho27 59 0 j (by omega)
                                  replace hfd := by have z := hfd; (try rw [← e58_27] at z); (try rw [← e59_27] at z); (try rw [← e20_27] at z); exact z
                                  replace how := by have z := how; (try rw [← e58_27] at z); (try rw [← e59_27] at z); (try rw [← e20_27] at z); exact z
                                  replace hpr := by have z := hpr; (try rw [← e58_27] at z); (try rw [← e59_27] at z); (try rw [← e20_27] at z); exact z
                                  refine kw_iinc (lv' := [(6, _), (0, _), (1, _), (2, _), (3, _), (4, _), (5, _)]) hC dX8_findRoots_108 rfl 6 rfl (by decide) rfl ?_
                                  refine kw_goto (tgt := 81) hC dX8_findRoots_111 rfl (by decide) ?_
                                  refine kw_lv [1, 2, 3, 4, 5, 6, 0] rfl ?_
                                  exact ih81 (k + 1) S27 hfS27 (by omega) (by omega) (by omega) (by omega) (by omega) hfd how hpr (fun j j0 j1 => by rw [e58_27]; rcases Decidable.em (j = k) with e | e; exact (by rw [e]; exact hv27); exact (ho27 55 0 j (by omega)).trans (hk j j0 (by omega))) (by omega)
                            refine kw_lv [1, 2, 3, 4, 5, 6, 0] rfl ?_
                            exact hL81 7 0 W69 hfW69 (by omega) (by omega) (by omega) (by omega) (by omega) hfd how hpr (fun j _ _ => by omega) (by omega)
                      refine kw_lv [1, 2, 3, 4, 5, 0] rfl ?_
                      exact hL69 7 0 W60 hfW60 (by omega) (by omega) (by omega) (by omega) (by omega) hfd how hpr (by omega)
                refine kw_lv [1, 2, 3, 4, 0] rfl ?_
                exact hL60 401 0 W25 hfW25 (by omega) (by omega) (by omega) (by omega) (by omega) (by omega) hfd (fun q => ⟨by rw [← show i = S 30 0 0 by omega]; exact hoi q, hf0 q⟩) PRC.z (by omega)
              · refine kw_aload_n hC dX8_findRoots_39 rfl 0 rfl ?_
                refine kw_iload hC dX8_findRoots_40 rfl 4 rfl ?_
                refine kw_callV hC (d_X8_own hD (by omega)) gX8_findRoots_X8_own ⟨_, rfl⟩ rfl (by decide) (by decide) rfl ⟨rfl, rfl⟩ 1 (by decide +kernel) ⟨by decide, by decide⟩ rfl rfl (Nat.le_of_ble_eq_true rfl) dX8_findRoots_42 rfl (kd_v (fun S28 hp28 => ?_))
                obtain ⟨hg28, hp28⟩ := hp28
                have hfS28 : Fr fR S S28 := hfW25.trans (hg28.mono (fun k i j h => by unfold fO at h; unfold fR; omega))
                have hRS28 := hRS.fr (hfS28.mono (fun k i j h => by unfold fR at h; unfold tR; omega))
                have hnS28 := hRS28.n
                have enS28 : S28 30 0 0 = S 30 0 0 := hfS28 30 0 0 (by unfold fR; omega)
                have e20_28 : S28 30 0 20 = W25 30 0 20 := hg28 30 0 20 (by unfold fO; omega)
                have e21_28 : S28 30 0 21 = W25 30 0 21 := hg28 30 0 21 (by unfold fO; omega)
                have e58_28 : S28 58 0 = W25 58 0 := funext fun j => hg28 58 0 j (by unfold fO; omega)
                have e59_28 : S28 59 0 = W25 59 0 := funext fun j => hg28 59 0 j (by unfold fO; omega)
                replace hfd := by have z := hfd; (try rw [← e58_28] at z); (try rw [← e59_28] at z); (try rw [← e20_28] at z); exact z
                replace hoi := by have z := hoi; (try rw [← e58_28] at z); (try rw [← e59_28] at z); (try rw [← e20_28] at z); exact z
                have hr55 := hp28
                refine kw_aload_n hC dX8_findRoots_45 rfl 0 rfl ?_
                refine kw_iload_n hC dX8_findRoots_46 rfl 3 rfl ?_
                refine kw_iconst hC dX8_findRoots_47 rfl ?_
                refine kw_callV hC (r_X8_comes hD (by omega) (by omega) (by omega)) gX8_findRoots_X8_comes ⟨_, rfl⟩ rfl (by decide) (by decide) rfl ⟨rfl, rfl⟩ 2 (by decide +kernel) ⟨by decide, by decide⟩ rfl rfl (Nat.le_of_ble_eq_true rfl) dX8_findRoots_48 rfl (kd_v (fun S29 hp29 => ?_))
                obtain ⟨hg29, hp29⟩ := hp29
                have hfS29 : Fr fR S S29 := hfS28.trans (hg29.mono (fun k i j h => by unfold fC at h; unfold fR; omega))
                have hRS29 := hRS.fr (hfS29.mono (fun k i j h => by unfold fR at h; unfold tR; omega))
                have hnS29 := hRS29.n
                have enS29 : S29 30 0 0 = S 30 0 0 := hfS29 30 0 0 (by unfold fR; omega)
                have hxr : RTp (mxz (S 42 0)) (S 30 0 0).toNat (ownV i.toNat) := RTp.own _ (by omega)
                have hxs : sm (S 30 0 0).toNat (ownV i.toNat) = h := by have := sm_own (n := (S 30 0 0).toNat) (i := i.toNat) (fun _ => 1) (by omega); simp only [Int.one_mul] at this; rw [show h = 1 by omega]; exact this
                obtain ⟨x20, p9, hp2, hq1, hq2, hq3, hq4, hq5, hq6, hq7⟩ := hp29
                have e21_29 : S29 30 0 21 = S28 30 0 21 := hg29 30 0 21 (by unfold fC; omega)
                obtain ⟨g1, g2, g3, g4, g5⟩ := hfd.come (by omega) (by omega) (by omega) hxr hxs (fun k k0 k1 => by rw [hr55 k k0 k1]; unfold ownV; by_cases e : k = i; (rw [if_pos e, if_pos (by omega)]); (rw [if_neg e, if_neg (by omega)])) (fun q q0 q1 => (hoi (by omega)).no i0 q (by omega) q1) hp2.1 hp2.2 hq1 hq2 hq3 hq4 hq5 hq6 (by omega)
                have hfdN : FND (mxz (S 42 0)) (S 30 0 0).toNat h f (S29 30 0 20) (v6 (S29 58 0)) (S29 59 0) := by rw [x20]; exact g1
                have hoiN : h = 1 → OWN (v6 (S29 58 0)) (S29 30 0 20) (i + 1) := fun q => by have hz9 := hf0 q; subst hz9; rw [x20]; exact (hoi q).ins i0 g2 g3 g5
                refine kw_iinc (lv' := [(4, _), (0, _), (1, _), (2, _), (3, _)]) hC dX8_findRoots_51 rfl 4 rfl (by decide) rfl ?_
                refine kw_goto (tgt := 25) hC dX8_findRoots_54 rfl (by decide) ?_
                refine kw_lv [1, 2, 3, 4, 0] rfl ?_
                exact ih25 (i + 1) S29 hfS29 (by omega) (by omega) (by omega) (by omega) (by omega) (by omega) (by omega) (by omega) hfdN hoiN (by omega)
        refine kw_lv [2, 3, 4, 1, 0] rfl ?_
        exact hL25 7 0 W12 hfW12 (by omega) (by omega) (by omega) (by omega) (by omega) (by omega) (by omega) (by omega) (by rw [hff]; exact hfd) (fun q => ⟨fun k hk => by omega, fun q2 _ _ => by have := hm1 q; omega⟩) (by omega)
  refine kw_lv [1, 2, 0] rfl ?_
  exact hL12 41 1 S2 hfS2 (by omega) (by omega) (by omega) (by omega) (by omega) (by omega) (by rw [show S2 30 0 20 = 0 by omega]; exact FND.start) (by omega)

set_option maxHeartbeats 4000000 in
set_option maxRecDepth 100000 in
theorem r_X8_roots {g : wG} (hD : wD g) {S : wSt} {a : Int} (ha : -2147483648 ≤ a ∧ a ≤ 2147483647) (hRS : RI S) (l : Launch) : Kt l yX8_roots wsX8_roots ({ frames := 3, cells := 0, slots := 0, locals := 75 } : Room) g S [vr g 30 0, vi a] (pI (fun r S' => RI S' ∧ Fr tW S S' ∧ rSl S' = rSl S ∧ RootsQ (rM S) (rn S) a r)) := by
  refine Kt.of (cc := cX8_roots) (nL := 4) (ret := (some .int)) (own := RX8) rfl hD (by decide) rfl (Nat.le_of_ble_eq_true rfl) ⟨rfl, rfl⟩ ?_
  intro E hC hR9
  have f151 : Cond.fieldLink RX8 151 "MirrorBenchModel" "many" "I" ∈ wsX8_roots := by decide +kernel
  have f157 : Cond.fieldLink RX8 157 "MirrorBenchModel" "heights" "[I" ∈ wsX8_roots := by decide +kernel
  have l177 : Cond.constantLong RX8 177 (Int64.ofInt (40)) ∈ wsX8_roots := by decide +kernel
  have w8 : ∀ w ∈ wsX80, w ∈ wsX8_roots := by decide +kernel
  show Wk E g 4 S 0 [(0, vr g 30 0), (1, vi a)] []
  have hfS : Fr tR S S := Fr.rfl _ S
  have hRS := hRS.fr hfS
  have hnS := hRS.n
  have enS : S 30 0 0 = S 30 0 0 := hfS 30 0 0 (by unfold tR; omega)
  refine kw_iload_n hC dX8_roots_0 rfl 1 rfl ?_
  refine kw_i2l hC dX8_roots_1 rfl (by omega) ?_
  refine kw_lconst (z := 1) hC dX8_roots_2 rfl rfl ?_
  refine kw_ldc2 (z := 40) hC dX8_roots_3 rfl l177 ?_
  refine kw_callS hC (d_X8_in hD (by omega) (by omega) (by omega)) gX8_roots_X8_in rfl ⟨rfl, rfl⟩ 3 (by decide +kernel) ⟨by decide, by decide⟩ rfl rfl (Nat.le_of_ble_eq_true rfl) dX8_roots_6 rfl (kd_ie ?_)
  refine kw_ifne_b (tgt := 14) hC dX8_roots_9 rfl (by decide) ⟨fun c9 => ?_, fun c9 => ?_⟩
  · refine kw_aload_n hC dX8_roots_14 rfl 0 rfl ?_
    refine kw_iload_n hC dX8_roots_15 rfl 1 rfl ?_
    refine kw_callV hC (r_X8_findRoots hD (by omega) (by omega) hRS) gX8_roots_X8_findRoots ⟨_, rfl⟩ rfl (by decide) (by decide) rfl ⟨rfl, rfl⟩ 1 (by decide +kernel) ⟨by decide, by decide⟩ rfl rfl (Nat.le_of_ble_eq_true rfl) dX8_roots_16 rfl (kd_i (fun r2 S2 hp2 => ?_))
    obtain ⟨hg2, hp2⟩ := hp2
    have hfS2 : Fr tR S S2 := hfS.trans (hg2.mono (fun k i j h => by unfold fR at h; unfold tR; omega))
    have hRS2 := hRS.fr hfS2
    have hnS2 := hRS2.n
    have enS2 : S2 30 0 0 = S 30 0 0 := hfS2 30 0 0 (by unfold tR; omega)
    obtain ⟨hb2, hm2, hw2, hq⟩ := hp2
    refine kw_if_ne (tgt := 25) hC dX8_roots_19 rfl (by decide) (by omega) ⟨fun c19 => ?_, fun c19 => ?_⟩
    · have hht := (hq.1 (by omega)).2.2
      have hE9 := (hq.1 (by omega)).1
      refine kw_iconst hC dX8_roots_25 rfl ?_
      refine kw_istore_n (lv' := [(2, _), (0, _), (1, _)]) hC dX8_roots_26 rfl (by decide) rfl ?_
      refine kw_iconst hC dX8_roots_27 rfl ?_
      refine kw_istore_n (lv' := [(3, _), (2, _), (0, _), (1, _)]) hC dX8_roots_28 rfl (by decide) rfl ?_
      have hL29 : ∀ (n29 : Nat) (x : Int) (z : Int), (0 ≤ x) → (x ≤ S2 30 0 20) → (z = hct (S 30 0 0).toNat (v6 (S2 58 0)) a x.toNat) → 400 - x < (n29 : Int) → Wk E g 4 S2 29 [(0, vr g 30 0), (1, vi a), (2, vi z), (3, vi x)] [] := by
        intro n29
        induction n29 with
        | zero => intro x z x0 x1 hz hm29; exact absurd hm29 (by omega)
        | succ n29 ih29 =>
          intro x z x0 x1 hz hm29
          refine kw_iload_n hC dX8_roots_29 rfl 3 rfl ?_
          refine kw_aload_n hC dX8_roots_30 rfl 0 rfl ?_
          refine kg_30_20 hC w8 f151 dX8_roots_31 rfl (by decide) (by decide) ?_
          refine kw_icmp_ge (tgt := 61) hC dX8_roots_34 rfl (by decide) (by omega) (by omega) ⟨fun c34 => ?_, fun c34 => ?_⟩
          · refine kw_iload_n hC dX8_roots_61 rfl 2 rfl ?_
            exact hR9.1 rfl _ _ _ _ dX8_roots_62 (by first | (exfalso; omega) | exact ⟨_, rfl, hRS2, tR_tW hfS2, rSl_tR hfS2, RootsQ.bad (by omega)⟩ | exact ⟨_, rfl, hRS2, tR_tW hfS2, rSl_tR hfS2, ref_rootsF (hq.2 (by omega)).1 (by omega) (by omega)⟩ | exact ⟨_, rfl, hRS2, tR_tW hfS2, rSl_tR hfS2, (by rw [hz, show x = S2 30 0 20 by omega]; exact ref_roots (hq.1 (by omega)).1 (by omega) (by omega))⟩)
          · refine kw_iload_n hC dX8_roots_37 rfl 2 rfl ?_
            refine kw_aload_n hC dX8_roots_38 rfl 0 rfl ?_
            refine kg_30_19 hC w8 f157 dX8_roots_39 rfl (by decide) (by decide) ?_
            refine kw_iload_n hC dX8_roots_42 rfl 3 rfl ?_
            refine ka_59 hC dX8_roots_43 rfl (by decide) (by decide) (by omega) (by omega) ?_
            refine kw_nri ?_
            refine kw_iload_n hC dX8_roots_44 rfl 1 rfl ?_
            have hh9 := hht x x0 (by omega)
            have hs9 := (hE9.2.2.1 x x0 (by omega))
            have hb9 := hs9.1.b.2.2
            have hst := hct_s (n := (S 30 0 0).toNat) (e := v6 (S2 58 0)) (a := a) x0
            have hni : ni (S2 59 0 x) = sm (S 30 0 0).toNat (v6 (S2 58 0) x) := by rw [ni_e (by omega)]; exact hh9
            refine kw_icmp_ne (tgt := 52) hC dX8_roots_45 rfl (by decide) (ni_r _) (by omega) ⟨fun c45 => ?_, fun c45 => ?_⟩
            · refine kw_iconst hC dX8_roots_52 rfl ?_
              refine kw_iadd hC dX8_roots_53 rfl ?_
              refine kw_istore_n (lv' := [(2, _), (0, _), (1, _), (3, _)]) hC dX8_roots_54 rfl (by decide) rfl ?_
              refine kw_iinc (lv' := [(3, _), (2, _), (0, _), (1, _)]) hC dX8_roots_55 rfl 3 rfl (by decide) rfl ?_
              refine kw_goto (tgt := 29) hC dX8_roots_58 rfl (by decide) ?_
              refine kw_lv [2, 3, 1, 0] rfl ?_
              exact ih29 (x + 1) _ (by omega) (by omega) (by rw [hst]; first | (rw [if_pos (by omega)]; omega) | (rw [if_neg (by omega)]; omega)) (by omega)
            · refine kw_iconst hC dX8_roots_48 rfl ?_
              refine kw_goto (tgt := 53) hC dX8_roots_49 rfl (by decide) ?_
              refine kw_iadd hC dX8_roots_53 rfl ?_
              refine kw_istore_n (lv' := [(2, _), (0, _), (1, _), (3, _)]) hC dX8_roots_54 rfl (by decide) rfl ?_
              refine kw_iinc (lv' := [(3, _), (2, _), (0, _), (1, _)]) hC dX8_roots_55 rfl 3 rfl (by decide) rfl ?_
              refine kw_goto (tgt := 29) hC dX8_roots_58 rfl (by decide) ?_
              refine kw_lv [2, 3, 1, 0] rfl ?_
              exact ih29 (x + 1) _ (by omega) (by omega) (by rw [hst]; first | (rw [if_pos (by omega)]; omega) | (rw [if_neg (by omega)]; omega)) (by omega)
      refine kw_lv [2, 3, 1, 0] rfl ?_
      exact hL29 401 0 _ (by omega) (by omega) rfl (by omega)
    · refine kw_bipush hC dX8_roots_22 rfl (by decide) ?_
      exact hR9.1 rfl _ _ _ _ dX8_roots_24 (by first | (exfalso; omega) | exact ⟨_, rfl, hRS2, tR_tW hfS2, rSl_tR hfS2, RootsQ.bad (by omega)⟩ | exact ⟨_, rfl, hRS2, tR_tW hfS2, rSl_tR hfS2, ref_rootsF (hq.2 (by omega)).1 (by omega) (by omega)⟩ | exact ⟨_, rfl, hRS2, tR_tW hfS2, rSl_tR hfS2, (by rw [hz, show x = S2 30 0 20 by omega]; exact ref_roots (hq.1 (by omega)).1 (by omega) (by omega))⟩)
  · refine kw_iconst hC dX8_roots_12 rfl ?_
    exact hR9.1 rfl _ _ _ _ dX8_roots_13 (by first | (exfalso; omega) | exact ⟨_, rfl, hRS, tR_tW hfS, rSl_tR hfS, RootsQ.bad (by omega)⟩ | exact ⟨_, rfl, hRS, tR_tW hfS, rSl_tR hfS, ref_rootsF (hq.2 (by omega)).1 (by omega) (by omega)⟩ | exact ⟨_, rfl, hRS, tR_tW hfS, rSl_tR hfS, (by rw [hz, show x = S 30 0 20 by omega]; exact ref_roots (hq.1 (by omega)).1 (by omega) (by omega))⟩)

set_option maxHeartbeats 4000000 in
set_option maxRecDepth 100000 in
theorem r_X8_root {g : wG} (hD : wD g) {S : wSt} {a b : Int} (ha : -2147483648 ≤ a ∧ a ≤ 2147483647) (hb : -2147483648 ≤ b ∧ b ≤ 2147483647) (hRS : RI S) (l : Launch) : Kt l yX8_root wsX8_root ({ frames := 3, cells := 0, slots := 0, locals := 75 } : Room) g S [vr g 30 0, vi a, vi b] (pI (fun r S' => RI S' ∧ Fr tW S S' ∧ rSl S' = rSl S ∧ RootQ (rM S) (rn S) a b r)) := by
  refine Kt.of (cc := cX8_root) (nL := 4) (ret := (some .int)) (own := RX8) rfl hD (by decide) rfl (Nat.le_of_ble_eq_true rfl) ⟨rfl, rfl⟩ ?_
  intro E hC hR9
  have f154 : Cond.fieldLink RX8 154 "MirrorBenchModel" "found" "[J" ∈ wsX8_root := by decide +kernel
  have f160 : Cond.fieldLink RX8 160 "MirrorBenchModel" "whole" "I" ∈ wsX8_root := by decide +kernel
  have w8 : ∀ w ∈ wsX80, w ∈ wsX8_root := by decide +kernel
  show Wk E g 4 S 0 [(0, vr g 30 0), (1, vi a), (2, vi b)] []
  have hfS : Fr tR S S := Fr.rfl _ S
  have hRS := hRS.fr hfS
  have hnS := hRS.n
  have enS : S 30 0 0 = S 30 0 0 := hfS 30 0 0 (by unfold tR; omega)
  refine kw_aload_n hC dX8_root_0 rfl 0 rfl ?_
  refine kw_iload_n hC dX8_root_1 rfl 2 rfl ?_
  refine kw_i2l hC dX8_root_2 rfl (by omega) ?_
  refine kw_callV hC (d_X8_isMirror hD (by omega) (by omega) (by omega)) gX8_root_X8_isMirror ⟨_, rfl⟩ rfl (by decide) (by decide) rfl ⟨rfl, rfl⟩ 1 (by decide +kernel) ⟨by decide, by decide⟩ rfl rfl (Nat.le_of_ble_eq_true rfl) dX8_root_3 rfl (kd_ie ?_)
  refine kw_ifeq_b (tgt := 13) hC dX8_root_6 rfl (by decide) ⟨fun c6 => ?_, fun c6 => ?_⟩
  · refine kw_iconst hC dX8_root_13 rfl ?_
    exact hR9.1 rfl _ _ _ _ dX8_root_14 (by first | (exfalso; omega) | exact ⟨_, rfl, hRS, tR_tW hfS, rSl_tR hfS, RootQ.bad (by unfold rn; omega)⟩ | exact ⟨_, rfl, hRS, tR_tW hfS, rSl_tR hfS, (hrq (by omega) (by omega) (by omega)).2 (by omega)⟩ | exact ⟨_, rfl, hRS, tR_tW hfS, rSl_tR hfS, ((hrq (by omega) (by omega) (by omega)).1 (by omega)).1⟩)
  · refine kw_iload_n hC dX8_root_9 rfl 1 rfl ?_
    refine kw_if_ge (tgt := 15) hC dX8_root_10 rfl (by decide) (by omega) ⟨fun c10 => ?_, fun c10 => ?_⟩
    · refine kw_aload_n hC dX8_root_15 rfl 0 rfl ?_
      refine kw_bipush hC dX8_root_16 rfl (by decide) ?_
      refine kw_callV hC (r_X8_findRoots hD (by omega) (by omega) hRS) gX8_root_X8_findRoots ⟨_, rfl⟩ rfl (by decide) (by decide) rfl ⟨rfl, rfl⟩ 1 (by decide +kernel) ⟨by decide, by decide⟩ rfl rfl (Nat.le_of_ble_eq_true rfl) dX8_root_18 rfl (kd_i (fun r3 S3 hp3 => ?_))
      obtain ⟨hg3, hp3⟩ := hp3
      have hfS3 : Fr tR S S3 := hfS.trans (hg3.mono (fun k i j h => by unfold fR at h; unfold tR; omega))
      have hRS3 := hRS.fr hfS3
      have hnS3 := hRS3.n
      have enS3 : S3 30 0 0 = S 30 0 0 := hfS3 30 0 0 (by unfold tR; omega)
      obtain ⟨hb3, hm3, hw3, hq⟩ := hp3
      have hrq : 0 ≤ a → 0 ≤ b → b < S 30 0 0 → _ := fun i0 j0 j1 => ref_root (S := S) (W := S3) (by have := hRS.n; omega) (ref_enm hb3 hq) i0 j0 j1
      refine kw_istore_n (lv' := [(3, _), (0, _), (1, _), (2, _)]) hC dX8_root_21 rfl (by decide) rfl ?_
      refine kw_iload_n hC dX8_root_22 rfl 2 rfl ?_
      refine kw_aload_n hC dX8_root_23 rfl 1 rfl ?_
      refine kg_30_21 hC w8 f160 dX8_root_24 rfl (by decide) (by decide) ?_
      refine kw_icmp_ge (tgt := 45) hC dX8_root_27 rfl (by decide) (by omega) (by omega) ⟨fun c27 => ?_, fun c27 => ?_⟩
      · refine kw_iconst hC dX8_root_45 rfl ?_
        exact hR9.1 rfl _ _ _ _ dX8_root_46 (by first | (exfalso; omega) | exact ⟨_, rfl, hRS3, tR_tW hfS3, rSl_tR hfS3, RootQ.bad (by unfold rn; omega)⟩ | exact ⟨_, rfl, hRS3, tR_tW hfS3, rSl_tR hfS3, (hrq (by omega) (by omega) (by omega)).2 (by omega)⟩ | exact ⟨_, rfl, hRS3, tR_tW hfS3, rSl_tR hfS3, ((hrq (by omega) (by omega) (by omega)).1 (by omega)).1⟩)
      · refine kw_aload_n hC dX8_root_30 rfl 1 rfl ?_
        refine kg_30_18 hC w8 f154 dX8_root_31 rfl (by decide) (by decide) ?_
        refine kw_bipush hC dX8_root_34 rfl (by decide) ?_
        refine kw_iload_n hC dX8_root_36 rfl 2 rfl ?_
        refine kw_imul hC dX8_root_37 rfl ?_
        refine kw_iload_n hC dX8_root_38 rfl 3 rfl ?_
        refine kw_iadd hC dX8_root_39 rfl ?_
        refine ka_58 hC dX8_root_40 rfl (by decide) (by decide) (by omega) (by omega) ?_
        refine kw_l2i hC dX8_root_41 rfl ?_
        refine kw_goto (tgt := 46) hC dX8_root_42 rfl (by decide) ?_
        exact hR9.1 rfl _ _ _ _ dX8_root_46 (by first | (exfalso; omega) | exact ⟨_, rfl, hRS3, tR_tW hfS3, rSl_tR hfS3, RootQ.bad (by unfold rn; omega)⟩ | exact ⟨_, rfl, hRS3, tR_tW hfS3, rSl_tR hfS3, (hrq (by omega) (by omega) (by omega)).2 (by omega)⟩ | exact ⟨_, rfl, hRS3, tR_tW hfS3, rSl_tR hfS3, ((hrq (by omega) (by omega) (by omega)).1 (by omega)).1⟩)
    · refine kw_iconst hC dX8_root_13 rfl ?_
      exact hR9.1 rfl _ _ _ _ dX8_root_14 (by first | (exfalso; omega) | exact ⟨_, rfl, hRS, tR_tW hfS, rSl_tR hfS, RootQ.bad (by unfold rn; omega)⟩ | exact ⟨_, rfl, hRS, tR_tW hfS, rSl_tR hfS, (hrq (by omega) (by omega) (by omega)).2 (by omega)⟩ | exact ⟨_, rfl, hRS, tR_tW hfS, rSl_tR hfS, ((hrq (by omega) (by omega) (by omega)).1 (by omega)).1⟩)
end
