section
/-! the roots in their order: by height, then the greater first -/
def ordv (x : Nat → Int) : Int := x 0 * 1073741824 + x 1 * 16777216 + x 2 * 262144 + x 3 * 4096 + x 4 * 64 + x 5
def RtB (n : Nat) (y x : Nat → Int) : Prop := sm n y < sm n x ∨ (sm n y = sm n x ∧ ordv x < ordv y)
theorem RtB.irr {n : Nat} {x : Nat → Int} (h : RtB n x x) : False := by
  rcases h with h | h <;> omega
theorem RtB.trans {n : Nat} {x y z : Nat → Int} (h : RtB n x y) (g : RtB n y z) : RtB n x z := by
  unfold RtB at h g ⊢
  omega
theorem ordv_dgv {k : Int} (h0 : 0 ≤ k) (h1 : k < 68719476736) : ordv (dgv k) = k := by
  have e : ∀ b : Nat, b < 6 → dgv k b = dg k (b : Int) := fun b hb => if_pos hb
  unfold ordv
  rw [e 0 (by decide), e 1 (by decide), e 2 (by decide), e 3 (by decide), e 4 (by decide), e 5 (by decide)]
  unfold dg
  simp only [show ((5 : Int) - ((0 : Nat) : Int)).toNat = 5 from rfl, show ((5 : Int) - ((1 : Nat) : Int)).toNat = 4 from rfl, show ((5 : Int) - ((2 : Nat) : Int)).toNat = 3 from rfl, show ((5 : Int) - ((3 : Nat) : Int)).toNat = 2 from rfl, show ((5 : Int) - ((4 : Nat) : Int)).toNat = 1 from rfl, show ((5 : Int) - ((5 : Nat) : Int)).toNat = 0 from rfl, show ((64 : Int) ^ 5) = 1073741824 from rfl, show ((64 : Int) ^ 4) = 16777216 from rfl, show ((64 : Int) ^ 3) = 262144 from rfl, show ((64 : Int) ^ 2) = 4096 from rfl, show ((64 : Int) ^ 1) = 64 from rfl, show ((64 : Int) ^ 0) = 1 from rfl]
  omega
theorem RTp.b {M : Nat → Nat → Int} {n : Nat} {x : Nat → Int} (h : RTp M n x) : (∀ j, 0 ≤ x j) ∧ (∀ j, n ≤ j → x j = 0) ∧ 1 ≤ sm n x := by
  refine h.ind (P := fun x => (∀ j, 0 ≤ x j) ∧ (∀ j, n ≤ j → x j = 0) ∧ 1 ≤ sm n x) (fun i hi => ?_) (fun x i _ hi hp ih => ?_)
  · have e1 : sm n (ownV i) = 1 := by
      have := sm_own (n := n) (i := i) (fun _ => 1) hi
      simp only [Int.one_mul] at this
      exact this
    exact ⟨fun j => by unfold ownV; split <;> omega, fun j hj => by unfold ownV; rw [if_neg (by omega)], by omega⟩
  · obtain ⟨h1, h2, h3⟩ := ih
    have es := sm_rfx (M := M) (x := x) hi
    refine ⟨fun j => ?_, fun j hj => ?_, by omega⟩
    · unfold rfx
      split
      · rename_i e
        have := h1 i
        omega
      · exact h1 j
    · unfold rfx
      rw [if_neg (by omega)]
      exact h2 j hj
theorem RTp.le {M : Nat → Nat → Int} {n : Nat} {x : Nat → Int} (h : RTp M n x) (j : Nat) : 0 ≤ x j ∧ x j ≤ sm n x := by
  obtain ⟨h1, h2, h3⟩ := h.b
  refine ⟨h1 j, ?_⟩
  by_cases c : j < n
  · exact sm_ge (fun i _ => h1 i) c
  · rw [h2 j (by omega)]
    omega
theorem ordv_inj {x y : Nat → Int} (hx : ∀ j, 0 ≤ x j ∧ x j ≤ 63) (hy : ∀ j, 0 ≤ y j ∧ y j ≤ 63) (h : ordv x = ordv y) : ∀ j, j < 6 → x j = y j := by
  unfold ordv at h
  have a0 := hx 0
  have a1 := hx 1
  have a2 := hx 2
  have a3 := hx 3
  have a4 := hx 4
  have a5 := hx 5
  have b0 := hy 0
  have b1 := hy 1
  have b2 := hy 2
  have b3 := hy 3
  have b4 := hy 4
  have b5 := hy 5
  have e0 : x 0 = y 0 := by omega
  have e1 : x 1 = y 1 := by omega
  have e2 : x 2 = y 2 := by omega
  have e3 : x 3 = y 3 := by omega
  have e4 : x 4 = y 4 := by omega
  have e5 : x 5 = y 5 := by omega
  intro j hj
  rcases (show j = 0 ∨ j = 1 ∨ j = 2 ∨ j = 3 ∨ j = 4 ∨ j = 5 by omega) with rfl | rfl | rfl | rfl | rfl | rfl <;> assumption
theorem RtB.tri {M : Nat → Nat → Int} {n : Nat} (hn : n ≤ 6) {x y : Nat → Int} (hx : RTp M n x) (hy : RTp M n y) (h40 : sm n x ≤ 63) : x = y ∨ RtB n x y ∨ RtB n y x := by
  rcases Int.lt_trichotomy (sm n x) (sm n y) with q | q | q
  · exact Or.inr (Or.inl (Or.inl q))
  · rcases Int.lt_trichotomy (ordv x) (ordv y) with r | r | r
    · exact Or.inr (Or.inr (Or.inr ⟨q.symm, r⟩))
    · left
      have e := ordv_inj (fun j => by have := hx.le j; omega) (fun j => by have := hy.le j; omega) r
      funext j
      by_cases c : j < 6
      · exact e j c
      · rw [hx.b.2.1 j (by omega), hy.b.2.1 j (by omega)]
    · exact Or.inr (Or.inl (Or.inr ⟨q, r⟩))
  · exact Or.inr (Or.inr (Or.inl q))
/-- all of heights up to h, in their order -/
def ENM (M : Nat → Nat → Int) (n : Nat) (h : Int) (e : Int → Nat → Int) (m : Int) : Prop := (0 ≤ m ∧ m ≤ 400) ∧ (∀ a b, 0 ≤ a → a < b → b < m → RtB n (e a) (e b)) ∧ (∀ a, 0 ≤ a → a < m → RTp M n (e a) ∧ sm n (e a) ≤ h) ∧ ∀ y, RTp M n y → sm n y ≤ h → ∃ a, (0 ≤ a ∧ a < m) ∧ e a = y
theorem ENM.eq {M : Nat → Nat → Int} {n : Nat} {h : Int} {e e' : Int → Nat → Int} {m : Int} (H : ENM M n h e m) (q : ∀ a, 0 ≤ a → a < m → e' a = e a) : ENM M n h e' m := by
  refine ⟨H.1, fun a b a0 ab b1 => ?_, fun a a0 a1 => ?_, fun y y0 y1 => ?_⟩
  · rw [q a a0 (by omega), q b (by omega) b1]; exact H.2.1 a b a0 ab b1
  · rw [q a a0 a1]; exact H.2.2.1 a a0 a1
  · obtain ⟨a, a0, a1⟩ := H.2.2.2 y y0 y1
    exact ⟨a, a0, by rw [q a a0.1 a0.2]; exact a1⟩
def enl (e : Int → Nat → Int) (m : Int) : List (Nat → Int) := (List.range m.toNat).map (fun (p : Nat) => e (p : Int))
theorem enl_mem {e : Int → Nat → Int} {m : Int} {x : Nat → Int} : x ∈ enl e m ↔ ∃ a, (0 ≤ a ∧ a < m) ∧ e a = x := by
  constructor
  · intro h
    obtain ⟨p, hp, q⟩ := List.mem_map.mp h
    have hp := List.mem_range.mp hp
    exact ⟨(p : Int), by omega, q⟩
  · rintro ⟨a, a0, q⟩
    exact List.mem_map.mpr ⟨a.toNat, List.mem_range.mpr (by omega), by rw [Int.toNat_of_nonneg (by omega)]; exact q⟩
theorem enl_nd {e : Int → Nat → Int} {m : Int} (h : ∀ a b, 0 ≤ a → a < b → b < m → e a ≠ e b) : (enl e m).Nodup := by
  unfold enl
  rw [List.nodup_iff_pairwise_ne, List.pairwise_map]
  refine List.Pairwise.imp_of_mem ?_ (List.nodup_iff_pairwise_ne.mp (List.nodup_range (n := m.toNat)))
  intro a b ha hb hne q
  have ha := List.mem_range.mp ha
  have hb := List.mem_range.mp hb
  rcases Nat.lt_or_gt_of_ne hne with c | c
  · exact h a b (by omega) (by omega) (by omega) q
  · exact h b a (by omega) (by omega) (by omega) q.symm
theorem enl_len (e : Int → Nat → Int) {m : Int} (h : 0 ≤ m) : ((enl e m).length : Int) = m := by
  unfold enl
  rw [List.length_map, List.length_range]
  omega
theorem ENM.ne {M : Nat → Nat → Int} {n : Nat} {h : Int} {e : Int → Nat → Int} {m : Int} (H : ENM M n h e m) : ∀ a b, 0 ≤ a → a < b → b < m → e a ≠ e b := fun a b a0 ab b1 q => by
  have := H.2.1 a b a0 ab b1
  rw [q] at this
  exact this.irr
theorem ENM.noM {M : Nat → Nat → Int} {n : Nat} {h : Int} {e : Int → Nat → Int} {m : Int} (H : ENM M n h e m) : ¬ RMo M n h := by
  haveI : DecidableEq (Nat → Int) := fun a b => Classical.propDecidable (a = b)
  rintro ⟨l, h1, h2, h3⟩
  have h4 := php_list h1 (m := enl e m) (fun x hx => enl_mem.mpr (H.2.2.2 x (h3 x hx).1 (h3 x hx).2))
  have h5 := enl_len e H.1.1
  have := H.1.2
  omega
/-- what roots answers -/
def RootsP (M : Nat → Nat → Int) (n : Nat) (a r : Int) : Prop := (r = -3 ∧ RMo M n a) ∨ (¬ RMo M n a ∧ ∃ l : List (Nat → Int), l.Nodup ∧ (∀ x, x ∈ l ↔ RTp M n x ∧ sm n x = a) ∧ r = l.length)
theorem RootsP.uniq {M : Nat → Nat → Int} {n : Nat} {a r r' : Int} (h : RootsP M n a r) (h' : RootsP M n a r') : r = r' := by
  haveI : DecidableEq (Nat → Int) := fun a b => Classical.propDecidable (a = b)
  rcases h with ⟨h1, h2⟩ | ⟨h1, l, h2, h3, h4⟩
  · rcases h' with ⟨g1, -⟩ | ⟨g1, -⟩
    · omega
    · exact absurd h2 g1
  · rcases h' with ⟨-, g2⟩ | ⟨-, l', g2, g3, g4⟩
    · exact absurd g2 h1
    · have a := php_list h2 (m := l') (fun x hx => (g3 x).mpr ((h3 x).mp hx))
      have b := php_list g2 (m := l) (fun x hx => (h3 x).mpr ((g3 x).mp hx))
      omega
theorem RootsP.cg {M M' : Nat → Nat → Int} {n : Nat} (e : ∀ i j, i < n → j < n → M' i j = M i j) {a r : Int} (h : RootsP M n a r) : RootsP M' n a r := by
  have e2 : ∀ i j, i < n → j < n → M i j = M' i j := fun i j hi hj => (e i j hi hj).symm
  rcases h with ⟨h1, h2⟩ | ⟨h1, l, h2, h3, h4⟩
  · exact Or.inl ⟨h1, h2.cg e⟩
  · exact Or.inr ⟨fun q => h1 (q.cg e2), l, h2, fun x => (h3 x).trans ⟨fun q => ⟨q.1.cg e, q.2⟩, fun q => ⟨q.1.cg e2, q.2⟩⟩, h4⟩
theorem ENM.roots {M : Nat → Nat → Int} {n : Nat} {h : Int} {e : Int → Nat → Int} {m : Int} (H : ENM M n h e m) {a u v : Int} (a1 : a ≤ h) (u0 : 0 ≤ u) (uv : u ≤ v) (vm : v ≤ m) (hlo : ∀ p, 0 ≤ p → p < u → sm n (e p) ≠ a) (hmi : ∀ p, u ≤ p → p < v → sm n (e p) = a) (hhi : ∀ p, v ≤ p → p < m → sm n (e p) ≠ a) : RootsP M n a (v - u) := by
  refine Or.inr ⟨fun q => H.noM (q.mono a1), enl (fun p => e (u + p)) (v - u), enl_nd (fun p q p0 pq q1 => H.ne _ _ (by omega) (by omega) (by omega)), fun x => ?_, (enl_len _ (by omega)).symm⟩
  rw [enl_mem]
  constructor
  · rintro ⟨p, p0, rfl⟩
    exact ⟨(H.2.2.1 _ (by omega) (by omega)).1, hmi _ (by omega) (by omega)⟩
  · rintro ⟨x1, x2⟩
    obtain ⟨p, p0, rfl⟩ := H.2.2.2 x x1 (by omega)
    have c1 : u ≤ p := Classical.byContradiction fun c => hlo p (by omega) (by omega) x2
    have c2 : p < v := Classical.byContradiction fun c => hhi p (by omega) (by omega) x2
    exact ⟨p - u, by omega, by show e (u + (p - u)) = e p; rw [show u + (p - u) = p by omega]⟩
/-- how many of a height stand ahead of a place -/
def hct (n : Nat) (e : Int → Nat → Int) (a : Int) : Nat → Int
  | 0 => 0
  | p + 1 => hct n e a p + if sm n (e (p : Int)) = a then 1 else 0
theorem ENM.rootsC {M : Nat → Nat → Int} {n : Nat} {h : Int} {e : Int → Nat → Int} {m : Int} (H : ENM M n h e m) {a : Int} (a1 : a ≤ h) : RootsP M n a (hct n e a m.toNat) := by
  have hm : ∀ p q, 0 ≤ p → p < q → q < m → sm n (e p) ≤ sm n (e q) := fun p q p0 pq q1 => by
    rcases H.2.1 p q p0 pq q1 with z | z <;> omega
  have key : ∀ k : Nat, (k : Int) ≤ m → ∃ u : Int, (0 ≤ u ∧ u ≤ k) ∧ ((∀ p, 0 ≤ p → p < u → sm n (e p) ≠ a) ∧ ∃ v : Int, (u ≤ v ∧ v ≤ k) ∧ (∀ p, u ≤ p → p < v → sm n (e p) = a) ∧ (∀ p, v ≤ p → p < k → sm n (e p) ≠ a) ∧ hct n e a k = v - u) := by
    intro k
    induction k with
    | zero => exact fun _ => ⟨0, by omega, fun p p0 p1 => by omega, 0, by omega, fun p p0 p1 => by omega, fun p p0 p1 => by omega, rfl⟩
    | succ k ih =>
      intro hk
      obtain ⟨u, u0, h1, v, v0, h2, h3, h4⟩ := ih (by omega)
      by_cases c : sm n (e (k : Int)) = a
      · have c5 : hct n e a (k + 1) = v - u + 1 := by
          show hct n e a k + (if sm n (e (k : Int)) = a then 1 else 0) = _
          rw [if_pos c, h4]
        by_cases cu : u = v
        · refine ⟨(k : Int), by omega, fun p p0 p1 => ?_, (k : Int) + 1, by omega, fun p p0 p1 => by rw [show p = (k : Int) by omega]; exact c, fun p p0 p1 => by omega, by omega⟩
          by_cases c2 : p < u
          · exact h1 p p0 c2
          · exact h3 p (by omega) p1
        · have cv : v = k := Classical.byContradiction fun z => by
            have a1 := h2 u (by omega) (by omega)
            have a2 := hm u v (by omega) (by omega) (by omega)
            have a4 : sm n (e v) ≤ sm n (e (k : Int)) := hm v k (by omega) (by omega) (by omega)
            exact h3 v (by omega) (by omega) (by omega)
          refine ⟨u, by omega, h1, (k : Int) + 1, by omega, fun p p0 p1 => ?_, fun p p0 p1 => by omega, by omega⟩
          by_cases c2 : p < v
          · exact h2 p p0 c2
          · rw [show p = (k : Int) by omega]; exact c
      · refine ⟨u, by omega, h1, v, by omega, h2, fun p p0 p1 => ?_, ?_⟩
        · by_cases c2 : p < k
          · exact h3 p p0 c2
          · rw [show p = (k : Int) by omega]; exact c
        · show hct n e a k + (if sm n (e (k : Int)) = a then 1 else 0) = _
          rw [if_neg c, h4, Int.add_zero]
  obtain ⟨u, u0, h1, v, v0, h2, h3, h4⟩ := key m.toNat (by have := H.1; omega)
  have := H.1
  rw [h4]
  exact H.roots a1 u0.1 v0.1 (by omega) h1 h2 (fun p p0 p1 => h3 p p0 (by omega))
/-- what root answers -/
def RootP (M : Nat → Nat → Int) (n : Nat) (i : Int) (j : Nat) (r : Int) : Prop := (∃ (x : Nat → Int) (l : List (Nat → Int)), (RTp M n x ∧ sm n x ≤ 40) ∧ ¬ RMo M n (sm n x) ∧ l.Nodup ∧ (∀ y, y ∈ l ↔ RTp M n y ∧ RtB n y x) ∧ (l.length : Int) = i ∧ r = x j) ∨ (r = -1 ∧ ∃ (h : Int) (l : List (Nat → Int)), h ≤ 40 ∧ (∀ y, RTp M n y → sm n y ≤ h → y ∈ l) ∧ (l.length : Int) ≤ i ∧ (h = 40 ∨ RMo M n (h + 1)))
theorem RootP.uq1 {M : Nat → Nat → Int} {n : Nat} {i : Int} {x x' : Nat → Int} {l l' : List (Nat → Int)} (hx : RTp M n x) (h : RtB n x x') (h1 : l.Nodup) (h2 : ∀ y, y ∈ l ↔ RTp M n y ∧ RtB n y x) (h3 : (l.length : Int) = i) (g2 : ∀ y, y ∈ l' ↔ RTp M n y ∧ RtB n y x') (g3 : (l'.length : Int) = i) : False := by
  haveI : DecidableEq (Nat → Int) := fun a b => Classical.propDecidable (a = b)
  have h4 := php_list (l := x :: l) (m := l') (List.nodup_cons.mpr ⟨fun q => ((h2 x).mp q).2.irr, h1⟩) (fun y hy => by
    rcases List.mem_cons.mp hy with e | e
    · rw [e]; exact (g2 x).mpr ⟨hx, h⟩
    · have := (h2 y).mp e
      exact (g2 y).mpr ⟨this.1, this.2.trans h⟩)
  rw [List.length_cons] at h4
  omega
theorem RootP.uq2 {M : Nat → Nat → Int} {n : Nat} {i h : Int} {x : Nat → Int} {l l' : List (Nat → Int)} (hx : RTp M n x) (hx40 : sm n x ≤ 40) (hxM : ¬ RMo M n (sm n x)) (h1 : l.Nodup) (h2 : ∀ y, y ∈ l ↔ RTp M n y ∧ RtB n y x) (h3 : (l.length : Int) = i) (g1 : ∀ y, RTp M n y → sm n y ≤ h → y ∈ l') (g3 : (l'.length : Int) ≤ i) (g4 : h = 40 ∨ RMo M n (h + 1)) : False := by
  haveI : DecidableEq (Nat → Int) := fun a b => Classical.propDecidable (a = b)
  have hle : sm n x ≤ h := by
    rcases g4 with e | e
    · omega
    · exact Classical.byContradiction fun q => hxM (e.mono (by omega))
  have h4 := php_list (l := x :: l) (m := l') (List.nodup_cons.mpr ⟨fun q => ((h2 x).mp q).2.irr, h1⟩) (fun y hy => by
    rcases List.mem_cons.mp hy with e | e
    · rw [e]; exact g1 x hx hle
    · have := (h2 y).mp e
      exact g1 y this.1 (by rcases this.2 with q | q <;> omega))
  rw [List.length_cons] at h4
  omega
theorem RootP.uniq {M : Nat → Nat → Int} {n : Nat} (hn : n ≤ 6) {i : Int} {j : Nat} {r r' : Int} (h : RootP M n i j r) (h' : RootP M n i j r') : r = r' := by
  rcases h with ⟨x, l, ⟨h1, h0⟩, h2, h3, h4, h5, h6⟩ | ⟨h1, k, l, h2, h3, h4, h5⟩
  · rcases h' with ⟨x', l', ⟨g1, g0⟩, g2, g3, g4, g5, g6⟩ | ⟨g1, k', l', g2, g3, g4, g5⟩
    · rcases RtB.tri hn h1 g1 (by omega) with e | e | e
      · rw [h6, g6, e]
      · exact (RootP.uq1 h1 e h3 h4 h5 g4 g5).elim
      · exact (RootP.uq1 g1 e g3 g4 g5 h4 h5).elim
    · exact (RootP.uq2 h1 h0 h2 h3 h4 h5 g3 g4 g5).elim
  · rcases h' with ⟨x', l', ⟨g1, g0⟩, g2, g3, g4, g5, g6⟩ | ⟨g1, k', l', g2, g3, g4, g5⟩
    · exact (RootP.uq2 g1 g0 g2 g3 g4 g5 h3 h4 h5).elim
    · omega
theorem RootP.cg {M M' : Nat → Nat → Int} {n : Nat} (e : ∀ i j, i < n → j < n → M' i j = M i j) {i : Int} {j : Nat} {r : Int} (h : RootP M n i j r) : RootP M' n i j r := by
  have e2 : ∀ i j, i < n → j < n → M i j = M' i j := fun i j hi hj => (e i j hi hj).symm
  rcases h with ⟨x, l, ⟨h1, h0⟩, h2, h3, h4, h5, h6⟩ | ⟨h1, k, l, h2, h3, h4, h5⟩
  · exact Or.inl ⟨x, l, ⟨h1.cg e, h0⟩, fun q => h2 (q.cg e2), h3, fun y => (h4 y).trans ⟨fun q => ⟨q.1.cg e, q.2⟩, fun q => ⟨q.1.cg e2, q.2⟩⟩, h5, h6⟩
  · exact Or.inr ⟨h1, k, l, h2, fun y y1 y2 => h3 y (y1.cg e2) y2, h4, h5.imp id (fun q => q.cg e)⟩
theorem ENM.root {M : Nat → Nat → Int} {n : Nat} {h : Int} {e : Int → Nat → Int} {m : Int} (H : ENM M n h e m) (h40 : h ≤ 40) {i : Int} (i0 : 0 ≤ i) (i1 : i < m) (j : Nat) : RootP M n i j (e i j) := by
  have hi := H.2.2.1 i i0 i1
  refine Or.inl ⟨e i, enl e i, ⟨hi.1, by omega⟩, fun q => H.noM (q.mono hi.2), enl_nd (fun p q p0 pq q1 => H.ne p q p0 pq (by omega)), fun y => ?_, enl_len e i0, rfl⟩
  rw [enl_mem]
  constructor
  · rintro ⟨a, a0, rfl⟩
    exact ⟨(H.2.2.1 a (by omega) (by omega)).1, H.2.1 a i (by omega) (by omega) i1⟩
  · rintro ⟨y1, y2⟩
    obtain ⟨a, a0, rfl⟩ := H.2.2.2 y y1 (by rcases y2 with q | q <;> omega)
    refine ⟨a, ⟨a0.1, Classical.byContradiction fun q => ?_⟩, rfl⟩
    by_cases c : a = i
    · rw [c] at y2; exact y2.irr
    · exact (y2.trans (H.2.1 i a i0 (by omega) a0.2)).irr
theorem ENM.none {M : Nat → Nat → Int} {n : Nat} {h : Int} {e : Int → Nat → Int} {m : Int} (H : ENM M n h e m) (h40 : h ≤ 40) {i : Int} (i1 : m ≤ i) (hM : h = 40 ∨ RMo M n (h + 1)) (j : Nat) : RootP M n i j (-1) := Or.inr ⟨rfl, h, enl e m, h40, fun y y1 y2 => enl_mem.mpr (H.2.2.2 y y1 y2), by rw [enl_len e H.1.1]; exact i1, hM⟩
end
section
/-! the class: roots, root, ends from its table -/
theorem RLXp.enm {mt : Int → Int} {n : Int} {S : wSt} (hn : 0 ≤ n ∧ n ≤ 6) (H : RTI mt n (S 12 0 4) (S 15 0) (S 13 0) (S 14 0)) (hz : ∀ i, 0 ≤ i → i < n → mt (6 * i + i) = 0) (h0 : 0 ≤ S 12 0 4 ∧ S 12 0 4 ≤ 40) (h : RLXp (mxz mt) n.toNat S) : ENM (mxz mt) n.toNat (S 12 0 4) (fun a => dgv (S 13 0 a)) (S 15 0 (S 12 0 4 + 1)) := by
  have hf : ∀ a, 0 ≤ a → a < S 15 0 (S 12 0 4 + 1) → ∃ q, 1 ≤ q ∧ q ≤ S 12 0 4 ∧ S 15 0 q ≤ a ∧ a < S 15 0 (q + 1) ∧ KOK n q (S 13 0 a) := fun a a0 a1 => by
    obtain ⟨q, q1, q2, q3, q4⟩ := H.find (S 12 0 4).toNat a (by omega) a0 (by rw [Int.toNat_of_nonneg h0.1]; exact a1)
    exact ⟨q, q1, by omega, q3, q4, H.kok q1 (by omega) q3 q4⟩
  have hm := H.mono (q := 1) (r := S 12 0 4 + 1) (by omega) (by omega) (by omega)
  rw [H.1] at hm
  refine ⟨⟨hm, H.2.2.1⟩, fun a b a0 ab b1 => ?_, fun a a0 a1 => ?_, fun y y0 y1 => ?_⟩
  · obtain ⟨q, q1, q2, q3, q4, q5⟩ := hf a a0 (by omega)
    obtain ⟨p, p1, p2, p3, p4, p5⟩ := hf b (by omega) b1
    by_cases c : q < p
    · left
      show sm n.toNat (dgv (S 13 0 a)) < sm n.toNat (dgv (S 13 0 b))
      rw [dgv_sm hn q5, dgv_sm hn p5]
      exact c
    · have e : q = p := Classical.byContradiction fun z => by
        have := H.mono (q := p + 1) (r := q) (by omega) (by omega) (by omega)
        omega
      subst e
      right
      refine ⟨?_, ?_⟩
      · show sm n.toNat (dgv (S 13 0 a)) = sm n.toNat (dgv (S 13 0 b))
        rw [dgv_sm hn q5, dgv_sm hn p5]
      · show ordv (dgv (S 13 0 b)) < ordv (dgv (S 13 0 a))
        rw [ordv_dgv q5.1.1 q5.1.2, ordv_dgv p5.1.1 p5.1.2]
        exact h.1 q q1 q2 a b q3 ab p4
  · obtain ⟨q, q1, q2, q3, q4, q5⟩ := hf a a0 a1
    refine ⟨h.2.1 a a0 a1, ?_⟩
    show sm n.toNat (dgv (S 13 0 a)) ≤ S 12 0 4
    rw [dgv_sm hn q5]
    exact q2
  · obtain ⟨-, b1, b2⟩ := RTI_all hn H hz h0.2 y0
    obtain ⟨z, z0, z1⟩ := b2 y1
    have m1 := H.mono (q := 1) (r := sm n.toNat y) (by omega) (by omega) (by omega)
    have m2 := H.mono (q := sm n.toNat y + 1) (r := S 12 0 4 + 1) (by omega) (by omega) (by omega)
    rw [H.1] at m1
    exact ⟨z, by omega, z1⟩
theorem kM_cg {S : wSt} : ∀ i j, i < kn S → j < kn S → kM S i j = mxz (S 5 16) i j := fun _ _ hi hj => kM_in hi hj
theorem rM_cg {S : wSt} : ∀ i j, i < rn S → j < rn S → rM S i j = mxz (S 42 0) i j := fun _ _ hi hj => rM_in hi hj
theorem cls_enm {S W : wSt} (hC : CI S) (f : Fr fRt S W) (hF : RLI W) (hX : RLXp (mxz (S 5 16)) (S 3 16 2).toNat W) : ENM (mxz (S 5 16)) (S 3 16 2).toNat (W 12 0 4) (fun a => dgv (W 13 0 a)) (W 15 0 (W 12 0 4 + 1)) ∧ RTI (S 5 16) (S 3 16 2) (W 12 0 4) (W 15 0) (W 13 0) (W 14 0) := by
  have e5 : W 5 16 = S 5 16 := funext fun j => f 5 16 j (by unfold fRt; omega)
  have e3 : W 3 16 2 = S 3 16 2 := f 3 16 2 (by unfold fRt; omega)
  have hT := hF.2.2
  rw [e5, e3] at hT
  exact ⟨hX.enm hC.n hT hC.diag hF.1, hT⟩
def RootsQ (M : Nat → Nat → Int) (n : Nat) (a r : Int) : Prop := ((a < 1 ∨ 40 < a) → r = -1) ∧ (1 ≤ a → a ≤ 40 → RootsP M n a r)
theorem RootsQ.uniq {M : Nat → Nat → Int} {n : Nat} {a r r' : Int} (h : RootsQ M n a r) (h' : RootsQ M n a r') : r = r' := by
  by_cases c : a < 1 ∨ 40 < a
  · rw [h.1 c, h'.1 c]
  · exact (h.2 (by omega) (by omega)).uniq (h'.2 (by omega) (by omega))
theorem RootsQ.bad {M : Nat → Nat → Int} {n : Nat} {a : Int} (h : a < 1 ∨ 40 < a) : RootsQ M n a (-1) := ⟨fun _ => rfl, fun _ _ => by omega⟩
theorem RootsQ.ok {M : Nat → Nat → Int} {n : Nat} {a r : Int} (h1 : 1 ≤ a) (h2 : a ≤ 40) (h : RootsP M n a r) : RootsQ M n a r := ⟨fun _ => by omega, fun _ _ => h⟩
def RootQ (M : Nat → Nat → Int) (n : Nat) (i j r : Int) : Prop := ((i < 0 ∨ j < 0 ∨ n ≤ j) → r = -1) ∧ (0 ≤ i → 0 ≤ j → j < n → RootP M n i j.toNat r)
theorem RootQ.uniq {M : Nat → Nat → Int} {n : Nat} (hn : n ≤ 6) {i j r r' : Int} (h : RootQ M n i j r) (h' : RootQ M n i j r') : r = r' := by
  by_cases c : i < 0 ∨ j < 0 ∨ n ≤ j
  · rw [h.1 c, h'.1 c]
  · exact (h.2 (by omega) (by omega) (by omega)).uniq hn (h'.2 (by omega) (by omega) (by omega))
theorem RootQ.bad {M : Nat → Nat → Int} {n : Nat} {i j : Int} (h : i < 0 ∨ j < 0 ∨ n ≤ j) : RootQ M n i j (-1) := ⟨fun _ => rfl, fun _ _ _ => by omega⟩
theorem RootQ.ok {M : Nat → Nat → Int} {n : Nat} {i j r : Int} (h1 : 0 ≤ i) (h2 : 0 ≤ j) (h3 : j < n) (h : RootP M n i j.toNat r) : RootQ M n i j r := ⟨fun _ => by omega, fun _ _ _ => h⟩
theorem cls_roots {S W : wSt} (hC : CI S) (f : Fr fRt S W) (hF : RLI W) (hX : RLXp (mxz (S 5 16)) (S 3 16 2).toNat W) {a : Int} (a0 : 1 ≤ a) (a1 : a ≤ W 12 0 4) : RootsQ (kM S) (kn S) a (W 15 0 (a + 1) - W 15 0 a) := by
  obtain ⟨hE, hT⟩ := cls_enm hC f hF hX
  have h0 := hF.1
  have hn := hC.n
  have m1 := hT.mono (q := 1) (r := a) (by omega) (by omega) (by omega)
  have m2 := hT.mono (q := a) (r := a + 1) (by omega) (by omega) (by omega)
  have m3 := hT.mono (q := a + 1) (r := W 12 0 4 + 1) (by omega) (by omega) (by omega)
  rw [hT.1] at m1
  have hs : ∀ p, 0 ≤ p → p < W 15 0 (W 12 0 4 + 1) → ∃ q, (1 ≤ q ∧ q ≤ W 12 0 4) ∧ (W 15 0 q ≤ p ∧ p < W 15 0 (q + 1)) ∧ sm (S 3 16 2).toNat (dgv (W 13 0 p)) = q := fun p p0 p1 => by
    obtain ⟨q, q1, q2, q3, q4⟩ := hT.find (W 12 0 4).toNat p (by omega) p0 (by rw [Int.toNat_of_nonneg h0.1]; exact p1)
    exact ⟨q, by omega, by omega, dgv_sm hn (hT.kok q1 (by omega) q3 q4)⟩
  refine RootsQ.ok a0 (by omega) (RootsP.cg kM_cg ?_)
  refine hE.roots a1 m1 m2 m3 (fun p p0 p1 => ?_) (fun p p0 p1 => ?_) (fun p p0 p1 => ?_)
  · obtain ⟨q, q0, q1, q2⟩ := hs p p0 (by omega)
    show sm (S 3 16 2).toNat (dgv (W 13 0 p)) ≠ a
    rw [q2]
    rintro rfl
    omega
  · obtain ⟨q, q0, q1, q2⟩ := hs p (by omega) (by omega)
    show sm (S 3 16 2).toNat (dgv (W 13 0 p)) = a
    rw [q2]
    rcases Int.lt_trichotomy q a with c | c | c
    · have := hT.mono (q := q + 1) (r := a) (by omega) (by omega) (by omega)
      omega
    · exact c
    · have := hT.mono (q := a + 1) (r := q) (by omega) (by omega) (by omega)
      omega
  · obtain ⟨q, q0, q1, q2⟩ := hs p (by omega) (by omega)
    show sm (S 3 16 2).toNat (dgv (W 13 0 p)) ≠ a
    rw [q2]
    rintro rfl
    omega
theorem cls_rootsF {S W : wSt} (hX : RLXp (mxz (S 5 16)) (S 3 16 2).toNat W) {a : Int} (a0 : 1 ≤ a) (a1 : a ≤ 40) (hf : W 12 0 5 = 1 ∧ W 12 0 4 < a) : RootsQ (kM S) (kn S) a (-3) := RootsQ.ok a0 a1 (RootsP.cg kM_cg (Or.inl ⟨rfl, (hX.2.2 hf.1).mono (by omega)⟩))
theorem cls_root {S W : wSt} (hC : CI S) (f : Fr fRt S W) (hF : RLI W) (hX : RLXp (mxz (S 5 16)) (S 3 16 2).toNat W) {i j : Int} (i0 : 0 ≤ i) (i1 : i < W 15 0 (W 12 0 4 + 1)) (j0 : 0 ≤ j) (j1 : j < S 3 16 2) : RootQ (kM S) (kn S) i j (dg (W 13 0 i) j) := by
  obtain ⟨hE, hT⟩ := cls_enm hC f hF hX
  have hn := hC.n
  refine RootQ.ok i0 j0 (by unfold kn; omega) (RootP.cg kM_cg ?_)
  have h : RootP (mxz (S 5 16)) (S 3 16 2).toNat i j.toNat (dgv (W 13 0 i) j.toNat) := hE.root hF.1.2 i0 i1 j.toNat
  rw [show dgv (W 13 0 i) j.toNat = dg (W 13 0 i) j by unfold dgv; rw [if_pos (by omega), Int.toNat_of_nonneg j0]] at h
  exact h
theorem cls_rootN {S W : wSt} (hC : CI S) (f : Fr fRt S W) (hF : RLI W) (hX : RLXp (mxz (S 5 16)) (S 3 16 2).toNat W) {i j : Int} (i0 : 0 ≤ i) (i1 : W 15 0 (W 12 0 4 + 1) ≤ i) (hfu : W 12 0 4 < 40 → W 12 0 5 = 1) (j0 : 0 ≤ j) (j1 : j < S 3 16 2) : RootQ (kM S) (kn S) i j (-1) := by
  obtain ⟨hE, hT⟩ := cls_enm hC f hF hX
  have hn := hC.n
  refine RootQ.ok i0 j0 (by unfold kn; omega) (RootP.cg kM_cg (hE.none hF.1.2 i1 ?_ _))
  by_cases c : W 12 0 4 < 40
  · exact Or.inr (hX.2.2 (hfu c))
  · have := hF.1.2
    exact Or.inl (by omega)
/-- ends, from either list -/
theorem EndsP.enm {M : Nat → Nat → Int} {n : Nat} (hz : ∀ i, i < n → M i i = 0) {h : Int} {e : Int → Nat → Int} {m k : Int} (H : ENM M n h e m) (h11 : 11 ≤ h) (k0 : 0 ≤ k) (km : k ≤ m) (hk : ∀ a, 0 ≤ a → a < m → (a < k ↔ sm n (e a) ≤ 11)) {L : List (Nat → Int)} (hL : EndL M n L) : EndsP M n k := by
  refine Or.inr ⟨⟨L, hL⟩, enl e k, enl_nd (fun p q p0 pq q1 => H.ne p q p0 pq (by omega)), fun x => ?_, (enl_len e k0).symm⟩
  rw [enl_mem]
  constructor
  · rintro ⟨a, a0, rfl⟩
    exact (H.2.2.1 a (by omega) (by omega)).1
  · intro hx
    have h1 := (hL.2 x (hx.inL hz hL.1)).1
    obtain ⟨a, a0, rfl⟩ := H.2.2.2 x hx (by omega)
    exact ⟨a, ⟨a0.1, (hk a a0.1 a0.2).mpr h1⟩, rfl⟩
theorem cls_ends {S W : wSt} (hC : CI S) (f : Fr fRt S W) (hF : RLI W) (hX : RLXp (mxz (S 5 16)) (S 3 16 2).toNat W) {r : Int} (hor : (r = -2 ∧ ∀ L, ¬ EndL (mxz (S 5 16)) (S 3 16 2).toNat L) ∨ ((0 ≤ r ∧ r ≤ 400) ∧ 12 ≤ W 12 0 4 ∧ NoB (mxz (S 5 16)) (S 3 16 2).toNat ∧ r = W 15 0 12)) : EndsP (kM S) (kn S) r := by
  refine EndsP.cg kM_cg ?_
  rcases hor with h | ⟨h1, h2, h3, h4⟩
  · exact Or.inl h
  · obtain ⟨hE, hT⟩ := cls_enm hC f hF hX
    have hn := hC.n
    have h0 := hF.1
    obtain ⟨L, hL⟩ := roots_of2 hC.set.mok (by omega) h3
    have m2 := hT.mono (q := 12) (r := W 12 0 4 + 1) (by omega) (by omega) (by omega)
    refine EndsP.enm hC.set.mok.z hE (by omega) h1.1 (by omega) (fun a a0 a1 => ?_) hL
    obtain ⟨q, q1, q2, q3, q4⟩ := hT.find (W 12 0 4).toNat a (by omega) a0 (by rw [Int.toNat_of_nonneg h0.1]; exact a1)
    have e : sm (S 3 16 2).toNat (dgv (W 13 0 a)) = q := dgv_sm hn (hT.kok q1 (by omega) q3 q4)
    show a < r ↔ sm (S 3 16 2).toNat (dgv (W 13 0 a)) ≤ 11
    rw [e, h4]
    constructor
    · intro c
      exact Classical.byContradiction fun z => by
        have := hT.mono (q := 12) (r := q) (by omega) (by omega) (by omega)
        omega
    · intro c
      have := hT.mono (q := q + 1) (r := 12) (by omega) (by omega) (by omega)
      omega
theorem ENM.len {M : Nat → Nat → Int} {n : Nat} {h : Int} {e e' : Int → Nat → Int} {m m' : Int} (H : ENM M n h e m) (H' : ENM M n h e' m') : m ≤ m' := by
  haveI : DecidableEq (Nat → Int) := fun a b => Classical.propDecidable (a = b)
  have h4 := php_list (enl_nd H.ne) (m := enl e' m') (fun x hx => by
    obtain ⟨a, a0, rfl⟩ := enl_mem.mp hx
    have := H.2.2.1 a a0.1 a0.2
    exact enl_mem.mpr (H'.2.2.2 _ this.1 this.2))
  have h5 := enl_len e H.1.1
  have h6 := enl_len e' H'.1.1
  omega
theorem hold_n {S P W : wSt} {x a : Int} (hC : CI S) (f : Fr fRt S P) (hF : RLI P) (hX : RLXp (mxz (S 5 16)) (S 3 16 2).toNat P) (f' : Fr fRt S W) (hF' : RLI W) (hX' : RLXp (mxz (S 5 16)) (S 3 16 2).toNat W) (hx : x ≤ P 12 0 4) (hfu : W 12 0 5 = 1 ∧ W 12 0 4 < x + 1) (ha : P 15 0 (P 12 0 4 + 1) ≤ a) : W 15 0 (W 12 0 4 + 1) ≤ a := by
  have hE := (cls_enm hC f hF hX).1
  have hE' := (cls_enm hC f' hF' hX').1
  have e : P 12 0 4 = W 12 0 4 := by
    have : ¬ (W 12 0 4 + 1 ≤ P 12 0 4) := fun q => hE.noM ((hX'.2.2 hfu.1).mono q)
    omega
  rw [e] at hE ha
  have := hE'.len hE
  omega
end
section
set_option maxHeartbeats 4000000 in
set_option maxRecDepth 100000 in
theorem r_X4_holds {g : wG} (hD : wD g) {S : wSt} {a : Int} (hRS : CI S) (a0 : 0 ≤ a) (ha : -2147483648 ≤ a ∧ a ≤ 2147483647) (hRX : RLX S) (l : Launch) : Kt l yX4_holds wsX4_holds ({ frames := 5, cells := 0, slots := 0, locals := 122 } : Room) g S [vr g 12 0, vi a] (pI (fun r S' => Fr fRt S S' ∧ (RLI S' ∧ RLXp (mxz (S 5 16)) (S 3 16 2).toNat S' ∧ (r = 0 ∨ r = 1) ∧ (r = 1 → a < S' 15 0 (S' 12 0 4 + 1)) ∧ (r = 0 → S' 12 0 4 < 40 → S' 12 0 5 = 1) ∧ (r = 0 → S' 15 0 (S' 12 0 4 + 1) ≤ a)))) := by
  refine Kt.of (cc := cX4_holds) (nL := 3) (ret := (some .boolean)) (own := RX4) rfl hD (by decide) rfl (Nat.le_of_ble_eq_true rfl) ⟨rfl, rfl⟩ ?_
  intro E hC hR9
  have f18 : Cond.fieldLink RX4 18 "MirrorBench$RootList" "firsts" "[I" ∈ wsX4_holds := by decide +kernel
  have f26 : Cond.fieldLink RX4 26 "MirrorBench$RootList" "height" "I" ∈ wsX4_holds := by decide +kernel
  have w4 : ∀ w ∈ wsX40, w ∈ wsX4_holds := by decide +kernel
  show Wk E g 3 S 0 [(0, vr g 12 0), (1, vi a)] []
  have hfS : Fr fRt S S := Fr.rfl _ S
  unfold RLX at hRX
  have hn := hRS.n
  have hL := hRS.rl
  have hL1 := hL.1
  refine kw_aload_n hC dX4_holds_0 rfl 0 rfl ?_
  refine kg_12_4 hC w4 f26 dX4_holds_1 rfl (by decide) (by decide) ?_
  refine kw_istore_n (lv' := [(2, _), (0, _), (1, _)]) hC dX4_holds_4 rfl (by decide) rfl ?_
  have hL5 : ∀ (n5 : Nat) (x : Int) (W5 : wSt), Fr fRt S W5 → (0 ≤ x) → (x ≤ 40) → (RLI W5) → (RLXp (mxz (S 5 16)) (S 3 16 2).toNat W5) → (x ≤ W5 12 0 4) → 40 - x < (n5 : Int) → Wk E g 3 W5 5 [(0, vr g 12 0), (1, vi a), (2, vi x)] [] := by
    intro n5
    induction n5 with
    | zero => intro x W5 hfW5 x0 x1 hF hX hxh hm5; exact absurd hm5 (by omega)
    | succ n5 ih5 =>
      intro x W5 hfW5 x0 x1 hF hX hxh hm5
      have hFl := hF.1
      have hFt := hF.2.2.2.2.1
      have hFm := hF.2.2.mono (q := 1) (r := W5 12 0 4 + 1) (by omega) (by omega) (by omega)
      have hF1 := hF.2.2.1
      refine kw_iload_n hC dX4_holds_5 rfl 2 rfl ?_
      refine kw_bipush hC dX4_holds_6 rfl (by decide) ?_
      refine kw_icmp_ge (tgt := 44) hC dX4_holds_8 rfl (by decide) (by omega) (by omega) ⟨fun c8 => ?_, fun c8 => ?_⟩
      · refine kw_iload_n hC dX4_holds_44 rfl 1 rfl ?_
        refine kw_aload_n hC dX4_holds_45 rfl 0 rfl ?_
        refine kg_12_3 hC w4 f18 dX4_holds_46 rfl (by decide) (by decide) ?_
        refine kw_aload_n hC dX4_holds_49 rfl 0 rfl ?_
        refine kg_12_4 hC w4 f26 dX4_holds_50 rfl (by decide) (by decide) ?_
        refine kw_iconst hC dX4_holds_53 rfl ?_
        refine kw_iadd hC dX4_holds_54 rfl ?_
        refine ka_15 hC dX4_holds_55 rfl (by decide) (by decide) (by omega) (by omega) ?_
        refine kw_icmp_ge (tgt := 63) hC dX4_holds_56 rfl (by decide) (by omega) (by omega) ⟨fun c56 => ?_, fun c56 => ?_⟩
        · refine kw_iconst hC dX4_holds_63 rfl ?_
          exact hR9.2.1 rfl _ _ _ _ dX4_holds_64 (by omega) ⟨_, rfl, hfW5, hF, hX, by omega, fun q => by omega, fun q _ => by omega, fun q => by omega⟩
        · refine kw_iconst hC dX4_holds_59 rfl ?_
          refine kw_goto (tgt := 64) hC dX4_holds_60 rfl (by decide) ?_
          exact hR9.2.1 rfl _ _ _ _ dX4_holds_64 (by omega) ⟨_, rfl, hfW5, hF, hX, by omega, fun q => by omega, fun q _ => by omega, fun q => by omega⟩
      · refine kw_aload_n hC dX4_holds_11 rfl 0 rfl ?_
        refine kg_12_3 hC w4 f18 dX4_holds_12 rfl (by decide) (by decide) ?_
        refine kw_aload_n hC dX4_holds_15 rfl 0 rfl ?_
        refine kg_12_4 hC w4 f26 dX4_holds_16 rfl (by decide) (by decide) ?_
        refine kw_iconst hC dX4_holds_19 rfl ?_
        refine kw_iadd hC dX4_holds_20 rfl ?_
        refine ka_15 hC dX4_holds_21 rfl (by decide) (by decide) (by omega) (by omega) ?_
        refine kw_iload_n hC dX4_holds_22 rfl 1 rfl ?_
        refine kw_icmp_gt (tgt := 44) hC dX4_holds_23 rfl (by decide) (by omega) (by omega) ⟨fun c23 => ?_, fun c23 => ?_⟩
        · refine kw_iload_n hC dX4_holds_44 rfl 1 rfl ?_
          refine kw_aload_n hC dX4_holds_45 rfl 0 rfl ?_
          refine kg_12_3 hC w4 f18 dX4_holds_46 rfl (by decide) (by decide) ?_
          refine kw_aload_n hC dX4_holds_49 rfl 0 rfl ?_
          refine kg_12_4 hC w4 f26 dX4_holds_50 rfl (by decide) (by decide) ?_
          refine kw_iconst hC dX4_holds_53 rfl ?_
          refine kw_iadd hC dX4_holds_54 rfl ?_
          refine ka_15 hC dX4_holds_55 rfl (by decide) (by decide) (by omega) (by omega) ?_
          refine kw_icmp_ge (tgt := 63) hC dX4_holds_56 rfl (by decide) (by omega) (by omega) ⟨fun c56 => ?_, fun c56 => ?_⟩
          · refine kw_iconst hC dX4_holds_63 rfl ?_
            exact hR9.2.1 rfl _ _ _ _ dX4_holds_64 (by omega) ⟨_, rfl, hfW5, hF, hX, by omega, fun q => by omega, fun q _ => by omega, fun q => by omega⟩
          · refine kw_iconst hC dX4_holds_59 rfl ?_
            refine kw_goto (tgt := 64) hC dX4_holds_60 rfl (by decide) ?_
            exact hR9.2.1 rfl _ _ _ _ dX4_holds_64 (by omega) ⟨_, rfl, hfW5, hF, hX, by omega, fun q => by omega, fun q _ => by omega, fun q => by omega⟩
        · refine kw_aload_n hC dX4_holds_26 rfl 0 rfl ?_
          refine kw_iload_n hC dX4_holds_27 rfl 2 rfl ?_
          refine kw_iconst hC dX4_holds_28 rfl ?_
          refine kw_iadd hC dX4_holds_29 rfl ?_
          refine kw_callV hC (f_X4_reaches hD (hRS.rt hfW5 hF) (by omega) (by omega) (RLX.fr hfW5 hX)) gX4_holds_X4_reaches ⟨_, rfl⟩ rfl (by decide) (by decide) rfl ⟨rfl, rfl⟩ 1 (by decide +kernel) ⟨by decide, by decide⟩ rfl rfl (Nat.le_of_ble_eq_true rfl) dX4_holds_30 rfl (kd_i (fun r5 S5 hp5 => ?_))
          obtain ⟨hg5, hp5⟩ := hp5
          have hfS5 : Fr fRt S S5 := hfW5.trans hg5
          obtain ⟨hF9, hX9, hb5, hr15, hr05⟩ := hp5
          replace hX9 := RLX.bk hfW5 hX9
          have hno9 : r5 = 0 → S5 15 0 (S5 12 0 4 + 1) ≤ a := fun q => hold_n hRS hfW5 hF hX hfS5 hF9 hX9 hxh (hr05 q) (by omega)
          refine kw_if_ne (tgt := 38) hC dX4_holds_33 rfl (by decide) (by omega) ⟨fun c33 => ?_, fun c33 => ?_⟩
          · refine kw_iinc (lv' := [(2, _), (0, _), (1, _)]) hC dX4_holds_38 rfl 2 rfl (by decide) rfl ?_
            refine kw_goto (tgt := 5) hC dX4_holds_41 rfl (by decide) ?_
            refine kw_lv [1, 2, 0] rfl ?_
            exact ih5 (x + 1) S5 hfS5 (by omega) (by omega) hF9 hX9 (by omega) (by omega)
          · refine kw_iconst hC dX4_holds_36 rfl ?_
            exact hR9.2.1 rfl _ _ _ _ dX4_holds_37 (by omega) ⟨_, rfl, hfS5, hF9, hX9, by omega, fun q => by omega, fun q _ => (hr05 (by omega)).1, fun _ => hno9 (by omega)⟩
  refine kw_lv [1, 2, 0] rfl ?_
  exact hL5 41 _ S hfS (by omega) (by omega) hL hRX (by omega) (by omega)

set_option maxHeartbeats 4000000 in
set_option maxRecDepth 100000 in
theorem r_X7_roots {g : wG} (hD : wD g) {S : wSt} {a : Int} (ha : -2147483648 ≤ a ∧ a ≤ 2147483647) (hRS : CI S) (hRX : RLX S) (l : Launch) : Kt l yX7_roots wsX7_roots ({ frames := 5, cells := 0, slots := 0, locals := 122 } : Room) g S [vr g 0 0, vi a] (pI (fun r S' => CI S' ∧ Fr fRt S S' ∧ RLX S' ∧ RootsQ (kM S) (kn S) a r)) := by
  refine Kt.of (cc := cX7_roots) (nL := 2) (ret := (some .int)) (own := RX7) rfl hD (by decide) rfl (Nat.le_of_ble_eq_true rfl) ⟨rfl, rfl⟩ ?_
  intro E hC hR9
  have f47 : Cond.fieldLink RX7 47 "MirrorBench" "rootList" "LMirrorBench$RootList;" ∈ wsX7_roots := by decide +kernel
  have w7 : ∀ w ∈ wsX70, w ∈ wsX7_roots := by decide +kernel
  show Wk E g 2 S 0 [(0, vr g 0 0), (1, vi a)] []
  have hfS : Fr fRt S S := Fr.rfl _ S
  refine kw_iload_n hC dX7_roots_0 rfl 1 rfl ?_
  refine kw_iconst hC dX7_roots_1 rfl ?_
  refine kw_icmp_lt (tgt := 11) hC dX7_roots_2 rfl (by decide) (by omega) (by omega) ⟨fun c2 => ?_, fun c2 => ?_⟩
  · refine kw_iconst hC dX7_roots_11 rfl ?_
    exact hR9.1 rfl _ _ _ _ dX7_roots_12 (by first | (exfalso; omega) | exact ⟨_, rfl, hRS, Fr.rfl _ S, hRX, RootsQ.bad (by omega)⟩ | exact ⟨_, rfl, hRS.rt hfS hF9, hfS, RLX.fr hfS hX9, cls_roots hRS hfS hF9 hX9 (by omega) (hr1X (by omega))⟩ | exact ⟨_, rfl, hRS.rt hfS hF9, hfS, RLX.fr hfS hX9, cls_rootsF hX9 (by omega) (by omega) (hr0X (by omega))⟩)
  · refine kw_iload_n hC dX7_roots_5 rfl 1 rfl ?_
    refine kw_bipush hC dX7_roots_6 rfl (by decide) ?_
    refine kw_icmp_le (tgt := 13) hC dX7_roots_8 rfl (by decide) (by omega) (by omega) ⟨fun c8 => ?_, fun c8 => ?_⟩
    · refine kw_aload_n hC dX7_roots_13 rfl 0 rfl ?_
      refine kg_0_5 hC w7 f47 dX7_roots_14 rfl (by decide) (by decide) ?_
      refine kw_iload_n hC dX7_roots_17 rfl 1 rfl ?_
      refine kw_callV hC (f_X4_reaches hD hRS (by omega) (by omega) hRX) gX7_roots_X4_reaches ⟨_, rfl⟩ rfl (by decide) (by decide) rfl ⟨rfl, rfl⟩ 1 (by decide +kernel) ⟨by decide, by decide⟩ rfl rfl (Nat.le_of_ble_eq_true rfl) dX7_roots_18 rfl (kd_i (fun r3 S3 hp3 => ?_))
      obtain ⟨hg3, hp3⟩ := hp3
      have hfS3 : Fr fRt S S3 := hfS.trans hg3
      obtain ⟨hF9, hX9, hb3, hr1X, hr0X⟩ := hp3
      refine kw_if_eq (tgt := 35) hC dX7_roots_21 rfl (by decide) (by omega) ⟨fun c21 => ?_, fun c21 => ?_⟩
      · refine kw_bipush hC dX7_roots_35 rfl (by decide) ?_
        exact hR9.1 rfl _ _ _ _ dX7_roots_37 (by first | (exfalso; omega) | exact ⟨_, rfl, hRS, Fr.rfl _ S, hRX, RootsQ.bad (by omega)⟩ | exact ⟨_, rfl, hRS.rt hfS3 hF9, hfS3, RLX.fr hfS3 hX9, cls_roots hRS hfS3 hF9 hX9 (by omega) (hr1X (by omega))⟩ | exact ⟨_, rfl, hRS.rt hfS3 hF9, hfS3, RLX.fr hfS3 hX9, cls_rootsF hX9 (by omega) (by omega) (hr0X (by omega))⟩)
      · refine kw_aload_n hC dX7_roots_24 rfl 0 rfl ?_
        refine kg_0_5 hC w7 f47 dX7_roots_25 rfl (by decide) (by decide) ?_
        refine kw_iload_n hC dX7_roots_28 rfl 1 rfl ?_
        refine kw_callV hC (d_X4_ofHeight hD (by omega) (by omega)) gX7_roots_X4_ofHeight ⟨_, rfl⟩ rfl (by decide) (by decide) rfl ⟨rfl, rfl⟩ 1 (by decide +kernel) ⟨by decide, by decide⟩ rfl rfl (Nat.le_of_ble_eq_true rfl) dX7_roots_29 rfl (kd_ie ?_)
        refine kw_goto (tgt := 37) hC dX7_roots_32 rfl (by decide) ?_
        exact hR9.1 rfl _ _ _ _ dX7_roots_37 (by first | (exfalso; omega) | exact ⟨_, rfl, hRS, Fr.rfl _ S, hRX, RootsQ.bad (by omega)⟩ | exact ⟨_, rfl, hRS.rt hfS3 hF9, hfS3, RLX.fr hfS3 hX9, cls_roots hRS hfS3 hF9 hX9 (by omega) (hr1X (by omega))⟩ | exact ⟨_, rfl, hRS.rt hfS3 hF9, hfS3, RLX.fr hfS3 hX9, cls_rootsF hX9 (by omega) (by omega) (hr0X (by omega))⟩)
    · refine kw_iconst hC dX7_roots_11 rfl ?_
      exact hR9.1 rfl _ _ _ _ dX7_roots_12 (by first | (exfalso; omega) | exact ⟨_, rfl, hRS, Fr.rfl _ S, hRX, RootsQ.bad (by omega)⟩ | exact ⟨_, rfl, hRS.rt hfS hF9, hfS, RLX.fr hfS hX9, cls_roots hRS hfS hF9 hX9 (by omega) (hr1X (by omega))⟩ | exact ⟨_, rfl, hRS.rt hfS hF9, hfS, RLX.fr hfS hX9, cls_rootsF hX9 (by omega) (by omega) (hr0X (by omega))⟩)

set_option maxHeartbeats 4000000 in
set_option maxRecDepth 100000 in
theorem r_X7_root {g : wG} (hD : wD g) {S : wSt} {a b : Int} (ha : -2147483648 ≤ a ∧ a ≤ 2147483647) (hb : -2147483648 ≤ b ∧ b ≤ 2147483647) (hRS : CI S) (hRX : RLX S) (l : Launch) : Kt l yX7_root wsX7_root ({ frames := 6, cells := 0, slots := 0, locals := 144 } : Room) g S [vr g 0 0, vi a, vi b] (pI (fun r S' => CI S' ∧ Fr fRt S S' ∧ RLX S' ∧ RootQ (kM S) (kn S) a b r)) := by
  refine Kt.of (cc := cX7_root) (nL := 3) (ret := (some .int)) (own := RX7) rfl hD (by decide) rfl (Nat.le_of_ble_eq_true rfl) ⟨rfl, rfl⟩ ?_
  intro E hC hR9
  have f12 : Cond.fieldLink RX7 12 "MirrorBench" "set" "LMirrorBench$Mirrors;" ∈ wsX7_root := by decide +kernel
  have f47 : Cond.fieldLink RX7 47 "MirrorBench" "rootList" "LMirrorBench$RootList;" ∈ wsX7_root := by decide +kernel
  have w7 : ∀ w ∈ wsX70, w ∈ wsX7_root := by decide +kernel
  show Wk E g 3 S 0 [(0, vr g 0 0), (1, vi a), (2, vi b)] []
  have hfS : Fr fRt S S := Fr.rfl _ S
  have hn := hRS.n
  refine kw_iload_n hC dX7_root_0 rfl 1 rfl ?_
  refine kw_if_lt (tgt := 26) hC dX7_root_1 rfl (by decide) (by omega) ⟨fun c1 => ?_, fun c1 => ?_⟩
  · refine kw_iconst hC dX7_root_26 rfl ?_
    exact hR9.1 rfl _ _ _ _ dX7_root_27 (by first | (exfalso; omega) | exact ⟨_, rfl, hRS, Fr.rfl _ S, hRX, RootQ.bad (by unfold kn; omega)⟩ | exact ⟨_, rfl, hRS.rt hfS hF9, hfS, RLX.fr hfS hX9, cls_root hRS hfS hF9 hX9 (by omega) (hrX (by omega)) (by omega) (by omega)⟩ | exact ⟨_, rfl, hRS.rt hfS hF9, hfS, RLX.fr hfS hX9, cls_rootN hRS hfS hF9 hX9 (by omega) (hrN (by omega)) (hr0X (by omega)) (by omega) (by omega)⟩)
  · refine kw_aload_n hC dX7_root_4 rfl 0 rfl ?_
    refine kg_0_0 hC w7 f12 dX7_root_5 rfl (by decide) (by decide) ?_
    refine kw_iload_n hC dX7_root_8 rfl 2 rfl ?_
    refine kw_callV hC (d_X3_has hD (by omega) (by omega) (by omega) (by omega) (by omega)) gX7_root_X3_has ⟨_, rfl⟩ rfl (by omega) (show (16 : Int) < 17 by omega) rfl ⟨rfl, rfl⟩ 1 (by decide +kernel) ⟨by decide, by decide⟩ rfl rfl (Nat.le_of_ble_eq_true rfl) dX7_root_9 rfl (kd_ie ?_)
    refine kw_ifeq_b (tgt := 26) hC dX7_root_12 rfl (by decide) ⟨fun c12 => ?_, fun c12 => ?_⟩
    · refine kw_iconst hC dX7_root_26 rfl ?_
      exact hR9.1 rfl _ _ _ _ dX7_root_27 (by first | (exfalso; omega) | exact ⟨_, rfl, hRS, Fr.rfl _ S, hRX, RootQ.bad (by unfold kn; omega)⟩ | exact ⟨_, rfl, hRS.rt hfS hF9, hfS, RLX.fr hfS hX9, cls_root hRS hfS hF9 hX9 (by omega) (hrX (by omega)) (by omega) (by omega)⟩ | exact ⟨_, rfl, hRS.rt hfS hF9, hfS, RLX.fr hfS hX9, cls_rootN hRS hfS hF9 hX9 (by omega) (hrN (by omega)) (hr0X (by omega)) (by omega) (by omega)⟩)
    · refine kw_aload_n hC dX7_root_15 rfl 0 rfl ?_
      refine kg_0_5 hC w7 f47 dX7_root_16 rfl (by decide) (by decide) ?_
      refine kw_iload_n hC dX7_root_19 rfl 1 rfl ?_
      refine kw_callV hC (r_X4_holds hD hRS (by omega) (by omega) hRX) gX7_root_X4_holds ⟨_, rfl⟩ rfl (by decide) (by decide) rfl ⟨rfl, rfl⟩ 1 (by decide +kernel) ⟨by decide, by decide⟩ rfl rfl (Nat.le_of_ble_eq_true rfl) dX7_root_20 rfl (kd_i (fun r3 S3 hp3 => ?_))
      obtain ⟨hg3, hp3⟩ := hp3
      have hfS3 : Fr fRt S S3 := hfS.trans hg3
      obtain ⟨hF9, hX9, hb3, hr3, hr0X, hrN⟩ := hp3
      have hrX := hr3
      refine kw_if_ne (tgt := 28) hC dX7_root_23 rfl (by decide) (by omega) ⟨fun c23 => ?_, fun c23 => ?_⟩
      · refine kw_aload_n hC dX7_root_28 rfl 0 rfl ?_
        refine kg_0_5 hC w7 f47 dX7_root_29 rfl (by decide) (by decide) ?_
        refine kw_iload_n hC dX7_root_32 rfl 1 rfl ?_
        refine kw_iload_n hC dX7_root_33 rfl 2 rfl ?_
        refine kw_callV hC (d_X4_numberOf hD (hRS.rt hfS3 hF9) (by omega) (hrX (by omega)) (by omega) (by omega)) gX7_root_X4_numberOf ⟨_, rfl⟩ rfl (by decide) (by decide) rfl ⟨rfl, rfl⟩ 2 (by decide +kernel) ⟨by decide, by decide⟩ rfl rfl (Nat.le_of_ble_eq_true rfl) dX7_root_34 rfl (kd_ie ?_)
        exact hR9.1 rfl _ _ _ _ dX7_root_37 (by first | (exfalso; omega) | exact ⟨_, rfl, hRS, Fr.rfl _ S, hRX, RootQ.bad (by unfold kn; omega)⟩ | exact ⟨_, rfl, hRS.rt hfS3 hF9, hfS3, RLX.fr hfS3 hX9, cls_root hRS hfS3 hF9 hX9 (by omega) (hrX (by omega)) (by omega) (by omega)⟩ | exact ⟨_, rfl, hRS.rt hfS3 hF9, hfS3, RLX.fr hfS3 hX9, cls_rootN hRS hfS3 hF9 hX9 (by omega) (hrN (by omega)) (hr0X (by omega)) (by omega) (by omega)⟩)
      · refine kw_iconst hC dX7_root_26 rfl ?_
        exact hR9.1 rfl _ _ _ _ dX7_root_27 (by first | (exfalso; omega) | exact ⟨_, rfl, hRS, Fr.rfl _ S, hRX, RootQ.bad (by unfold kn; omega)⟩ | exact ⟨_, rfl, hRS.rt hfS3 hF9, hfS3, RLX.fr hfS3 hX9, cls_root hRS hfS3 hF9 hX9 (by omega) (hrX (by omega)) (by omega) (by omega)⟩ | exact ⟨_, rfl, hRS.rt hfS3 hF9, hfS3, RLX.fr hfS3 hX9, cls_rootN hRS hfS3 hF9 hX9 (by omega) (hrN (by omega)) (hr0X (by omega)) (by omega) (by omega)⟩)

set_option maxHeartbeats 4000000 in
set_option maxRecDepth 100000 in
theorem r_X7_ends {g : wG} (hD : wD g) {S : wSt} (hRS : CI S) (hRX : RLX S) (l : Launch) : Kt l yX7_ends wsX7_ends ({ frames := 6, cells := 0, slots := 0, locals := 145 } : Room) g S [vr g 0 0] (pI (fun r S' => CI S' ∧ Fr fRt S S' ∧ RLX S' ∧ EndsP (kM S) (kn S) r)) := by
  refine Kt.of (cc := cX7_ends) (nL := 1) (ret := (some .int)) (own := RX7) rfl hD (by decide) rfl (Nat.le_of_ble_eq_true rfl) ⟨rfl, rfl⟩ ?_
  intro E hC hR9
  have f47 : Cond.fieldLink RX7 47 "MirrorBench" "rootList" "LMirrorBench$RootList;" ∈ wsX7_ends := by decide +kernel
  have w7 : ∀ w ∈ wsX70, w ∈ wsX7_ends := by decide +kernel
  show Wk E g 1 S 0 [(0, vr g 0 0)] []
  have hfS : Fr fRt S S := Fr.rfl _ S
  refine kw_aload_n hC dX7_ends_0 rfl 0 rfl ?_
  refine kg_0_5 hC w7 f47 dX7_ends_1 rfl (by decide) (by decide) ?_
  refine kw_callV hC (f_X4_countAll hD hRS hRX) gX7_ends_X4_countAll ⟨_, rfl⟩ rfl (by decide) (by decide) rfl ⟨rfl, rfl⟩ 0 (by decide +kernel) ⟨by decide, by decide⟩ rfl rfl (Nat.le_of_ble_eq_true rfl) dX7_ends_4 rfl (kd_i (fun r1 S1 hp1 => ?_))
  obtain ⟨hg1, hp1⟩ := hp1
  have hfS1 : Fr fRt S S1 := hfS.trans hg1
  obtain ⟨hF9, hX9, hor⟩ := hp1
  exact hR9.1 rfl _ _ _ _ dX7_ends_7 (by first | (exfalso; omega) | exact ⟨_, rfl, hRS.rt hfS1 hF9, hfS1, RLX.fr hfS1 hX9, cls_ends hRS hfS1 hF9 hX9 hor⟩)
end
