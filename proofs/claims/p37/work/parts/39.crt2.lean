theorem RTI.ext {mt F K U K' U' : Int → Int} {n h : Int} (H : RTI mt n h F K U) (hn : 0 ≤ h) (hk : ∀ x, 0 ≤ x → x < F (h + 1) → K' x = K x) (hu : ∀ x, 0 ≤ x → x < F (h + 1) → U' x = U x) : RTI mt n h F K' U' := by
  obtain ⟨h1, h2, h3, h4, h5, h6⟩ := H
  have hmono : ∀ (m : Nat) (q : Int), 1 ≤ q → q + m ≤ h + 1 → F q ≤ F (q + m) := by
    intro m
    induction m with
    | zero => intro q _ _; simp
    | succ m ih =>
      intro q q1 q2
      have a := ih q q1 (by omega)
      have b := h2 (q + m) (by omega) (by omega)
      rw [show q + ((m + 1 : Nat) : Int) = q + m + 1 by omega]
      omega
  have hpos : ∀ q, 1 ≤ q → q ≤ h + 1 → 0 ≤ F q := fun q q1 q2 => by
    have := hmono (q - 1).toNat 1 (by omega) (by omega)
    rw [show (1 : Int) + ((q - 1).toNat : Int) = q by omega, h1] at this
    exact this
  have htop : ∀ q, 1 ≤ q → q ≤ h → F (q + 1) ≤ F (h + 1) := fun q q1 q2 => by
    have := hmono (h - q).toNat (q + 1) (by omega) (by omega)
    rw [show q + 1 + ((h - q).toNat : Int) = h + 1 by omega] at this
    exact this
  have ek : ∀ q x, 1 ≤ q → q ≤ h → F q ≤ x → x < F (q + 1) → K' x = K x ∧ U' x = U x := fun q x q1 q2 x1 x2 => by
    have a := hpos q q1 (by omega)
    have b := htop q q1 q2
    exact ⟨hk x (by omega) (by omega), hu x (by omega) (by omega)⟩
  refine ⟨h1, h2, h3, fun q x q1 q2 x1 x2 => ?_, fun hh i i0 i1 => ?_, fun low q x i l1 l2 q2 x1 x2 i0 i1 e => ?_⟩
  · obtain ⟨a, b⟩ := ek q x q1 q2 x1 x2
    rw [a, b]; exact h4 q x q1 q2 x1 x2
  · obtain ⟨x, a, b, c⟩ := h5 hh i i0 i1
    exact ⟨x, a, b, fun d d0 d1 => by rw [(ek 1 x (by omega) hh (by rw [h1]; exact a) b).1]; exact c d d0 d1⟩
  · obtain ⟨a, b⟩ := ek low x l1 (by omega) x1 x2
    rw [b] at e
    obtain ⟨y, y1, y2, y3⟩ := h6 low q x i l1 l2 q2 x1 x2 i0 i1 e
    exact ⟨y, y1, y2, fun d d0 d1 => by rw [(ek q y (by omega) q2 y1 y2).1, a]; exact y3 d d0 d1⟩
theorem RTI.mono {mt F K U : Int → Int} {n h : Int} (H : RTI mt n h F K U) {q r : Int} (q1 : 1 ≤ q) (qr : q ≤ r) (r1 : r ≤ h + 1) : F q ≤ F r := by
  have hmono : ∀ (m : Nat) (q : Int), 1 ≤ q → q + m ≤ h + 1 → F q ≤ F (q + m) := by
    intro m
    induction m with
    | zero => intro q _ _; simp
    | succ m ih =>
      intro q q1 q2
      have a := ih q q1 (by omega)
      have b := H.2.1 (q + m) (by omega) (by omega)
      rw [show q + ((m + 1 : Nat) : Int) = q + m + 1 by omega]
      omega
  have := hmono (r - q).toNat q q1 (by omega)
  rw [show q + ((r - q).toNat : Int) = r by omega] at this
  exact this
theorem RTI.kok {mt F K U : Int → Int} {n h : Int} (H : RTI mt n h F K U) {q x : Int} (q1 : 1 ≤ q) (q2 : q ≤ h) (x1 : F q ≤ x) (x2 : x < F (q + 1)) : KOK n q (K x) := by
  obtain ⟨a, b, c, -⟩ := H.2.2.2.1 q x q1 q2 x1 x2
  exact ⟨a, b, c⟩
theorem CI.k13 {S S' : wSt} (h : CI S) (f : Fr fRt S S') (e12 : ∀ j, S' 12 0 j = S 12 0 j) (e15 : ∀ j, S' 15 0 j = S 15 0 j) (e13 : ∀ x, 0 ≤ x → x < S 15 0 (S 12 0 4 + 1) → S' 13 0 x = S 13 0 x) (e14 : ∀ x, 0 ≤ x → x < S 15 0 (S 12 0 4 + 1) → S' 14 0 x = S 14 0 x) : CI S' := by
  obtain ⟨r1, r2, r3⟩ := h.rl
  refine h.rt f ⟨by rw [e12]; exact r1, by rw [e12]; exact r2, ?_⟩
  rw [e12, show S' 15 0 = S 15 0 from funext e15, show S' 5 16 = S 5 16 from funext fun j => f 5 16 j (by unfold fRt; omega), f 3 16 2 (by unfold fRt; omega)]
  exact r3.ext r1.1 e13 e14
/-- the roots of height b, made so far from those of height a before the x-th, mirror i -/
def TB (S W : wSt) (a b c g x i : Int) : Prop := (∀ j, j < S 15 0 b → W 13 0 j = S 13 0 j) ∧ (g = -3 ∨ (c ≤ g ∧ g ≤ 400 ∧ (∀ y, S 15 0 b ≤ y → y < g → KOK (S 3 16 2) b (W 13 0 y)) ∧ (∀ y, S 15 0 b ≤ y → y < c → ∃ z, S 15 0 b ≤ z ∧ z < g ∧ W 13 0 z = S 13 0 y) ∧ ∀ x' i', S 15 0 a ≤ x' → x' < S 15 0 (a + 1) → 0 ≤ i' → i' < S 3 16 2 → (x' < x ∨ (x' = x ∧ i' < i)) → dg (S 14 0 x') i' = b → ∃ z, S 15 0 b ≤ z ∧ z < g ∧ W 13 0 z = S 13 0 x' + (b - a) * 64 ^ (5 - i').toNat))
theorem TB.full {S W : wSt} {a b c g x i x' i' : Int} (h : TB S W a b c g x i) (hg : g = -3) : TB S W a b c g x' i' := ⟨h.1, Or.inl hg⟩
theorem TB.skip {S W : wSt} {a b c g x i : Int} (h : TB S W a b c g x i) (hne : dg (S 14 0 x) i ≠ b) : TB S W a b c g x (i + 1) := by
  obtain ⟨h1, h2⟩ := h
  refine ⟨h1, h2.imp id (fun q => ⟨q.1, q.2.1, q.2.2.1, q.2.2.2.1, fun x' i' a1 a2 a3 a4 a5 a6 => ?_⟩)⟩
  by_cases e : x' = x ∧ i' = i
  · rw [e.1, e.2] at a6; exact absurd a6 hne
  · exact q.2.2.2.2 x' i' a1 a2 a3 a4 (by omega) a6
theorem TB.row {S W : wSt} {a b c g x i : Int} (h : TB S W a b c g x i) (hi : S 3 16 2 ≤ i) : TB S W a b c g (x + 1) 0 := by
  obtain ⟨h1, h2⟩ := h
  exact ⟨h1, h2.imp id (fun q => ⟨q.1, q.2.1, q.2.2.1, q.2.2.2.1, fun x' i' a1 a2 a3 a4 a5 a6 => q.2.2.2.2 x' i' a1 a2 a3 a4 (by omega) a6⟩)⟩
theorem TB.ins {S W W' : wSt} {a b c g r x i k : Int} (h : TB S W a b c g x i) (hg : g ≠ -3) (hI : INS (W 13 0) (W' 13 0) (S 15 0 b) g r k) (hk : k = S 13 0 x + (b - a) * 64 ^ (5 - i).toNat) (hK : KOK (S 3 16 2) b k) : TB S W' a b c r x (i + 1) := by
  obtain ⟨h1, h2⟩ := h
  obtain ⟨q1, q2, q3, q4, q5⟩ := h2.resolve_left hg
  obtain ⟨i1, i2⟩ := hI
  refine ⟨fun j hj => (i1 j hj).trans (h1 j hj), i2.imp (fun q => q.1) (fun q => ?_)⟩
  obtain ⟨p1, p2, ⟨y, y0, y1, y2⟩, p4, p5⟩ := q
  refine ⟨by omega, p2, fun z z0 z1 => ?_, fun z z0 z1 => ?_, fun x' i' a1 a2 a3 a4 a5 a6 => ?_⟩
  · rcases p5 z z0 z1 with e | ⟨w, w0, w1, w2⟩
    · rw [e]; exact hK
    · rw [w2]; exact q3 w w0 w1
  · obtain ⟨w, w0, w1, w2⟩ := q4 z z0 z1
    obtain ⟨v, v0, v1, v2⟩ := p4 w w0 w1
    exact ⟨v, v0, v1, v2.trans w2⟩
  · by_cases e : x' = x ∧ i' = i
    · rw [e.1, e.2]
      exact ⟨y, y0, y1, y2.trans hk⟩
    · obtain ⟨w, w0, w1, w2⟩ := q5 x' i' a1 a2 a3 a4 (by omega) a6
      obtain ⟨v, v0, v1, v2⟩ := p4 w w0 w1
      exact ⟨v, v0, v1, v2.trans w2⟩
theorem RTI.grow {mt F K U F' K' U' : Int → Int} {n a e : Int} (H : RTI mt n (a - 1) F K U) (a1 : 1 ≤ a) (a2 : a ≤ 40) (hn : n ≤ 6) (hF : ∀ j, j ≤ a → F' j = F j) (hFe : F' (a + 1) = e) (hK : ∀ x, x < F a → K' x = K x) (hU : ∀ x, 0 ≤ x → x < F a → U' x = U x) (e0 : F a ≤ e) (e1 : e ≤ 400) (hkok : ∀ y, F a ≤ y → y < e → KOK n a (K' y)) (hup : ∀ y, F a ≤ y → y < e → (0 ≤ U' y ∧ U' y < 68719476736) ∧ ∀ i, 0 ≤ i → i < n → dg (U' y) i = upv mt n (K' y) a i) (hown : a = 1 → ∀ i, 0 ≤ i → i < n → ∃ y, F a ≤ y ∧ y < e ∧ K' y = 1 * 64 ^ (5 - i).toNat) (hcl : ∀ low x i, 1 ≤ low → low < a → F low ≤ x → x < F (low + 1) → 0 ≤ i → i < n → dg (U x) i = a → ∃ z, F a ≤ z ∧ z < e ∧ K' z = K x + (a - low) * 64 ^ (5 - i).toNat) : RTI mt n a F' K' U' := by
  have H2 : RTI mt n (a - 1) F K' U' := H.ext (by omega) (fun x x0 x1 => hK x (by rw [show a - 1 + 1 = a by omega] at x1; exact x1)) (fun x x0 x1 => hU x x0 (by rw [show a - 1 + 1 = a by omega] at x1; exact x1))
  obtain ⟨h1, h2, h3, h4, h5, h6⟩ := H2
  refine ⟨by rw [hF 1 a1]; exact h1, fun q q1 q2 => ?_, by rw [hFe]; exact e1, fun q x q1 q2 x1 x2 => ?_, fun _ i i0 i1 => ?_, fun low q x i l1 l2 q2 x1 x2 i0 i1 he => ?_⟩
  · by_cases e9 : q = a
    · rw [e9, hFe, hF a (by omega)]; exact e0
    · rw [hF q q2, hF (q + 1) (by omega)]; exact h2 q q1 (by omega)
  · by_cases e9 : q = a
    · rw [e9] at x1 x2 ⊢
      rw [hF a (by omega)] at x1
      rw [hFe] at x2
      obtain ⟨k1, k2, k3⟩ := hkok x x1 x2
      obtain ⟨u1, u2⟩ := hup x x1 x2
      exact ⟨k1, k2, k3, u1, u2⟩
    · rw [hF q q2] at x1
      rw [hF (q + 1) (by omega)] at x2
      exact h4 q x q1 (by omega) x1 x2
  · by_cases e9 : a = 1
    · obtain ⟨y, y0, y1, y2⟩ := hown e9 i i0 i1
      refine ⟨y, by rw [e9] at y0; omega, by rw [show (2 : Int) = a + 1 by omega, hFe]; exact y1, fun b b0 b1 => ?_⟩
      have h9 := dg_add (k := 0) (m := 1) (c := i) (b := b) (by omega) (by omega) i0 (by omega) b0 b1 (by rw [dg_0]; omega)
      rw [Int.zero_add, dg_0, Int.zero_add] at h9
      rw [y2, h9]
    · obtain ⟨x, x0, x1, x2⟩ := h5 (by omega) i i0 i1
      exact ⟨x, x0, by rw [hF 2 (by omega)]; exact x1, x2⟩
  · rw [hF low (by omega)] at x1
    rw [hF (low + 1) (by omega)] at x2
    by_cases e9 : q = a
    · subst e9
      have hx : x < F q := by
        have := H.mono (q := low + 1) (r := q) (by omega) (by omega) (by omega)
        omega
      have hx0 : 0 ≤ x := by
        have := H.mono (q := 1) (r := low) (by omega) (by omega) (by omega)
        rw [H.1] at this
        omega
      rw [hU x hx0 hx] at he
      obtain ⟨z, z0, z1, z2⟩ := hcl low x i l1 l2 x1 x2 i0 i1 he
      refine ⟨z, by rw [hF q (by omega)]; exact z0, by rw [hFe]; exact z1, fun b b0 b1 => ?_⟩
      have hk := H.kok (q := low) (x := x) l1 (by omega) x1 x2
      have hd := dg_le hk i0 (by omega)
      rw [z2, hK x hx, dg_add hk.1.1 (by omega) i0 (by omega) b0 b1 (by omega)]
    · obtain ⟨y, y0, y1, y2⟩ := h6 low q x i l1 l2 (by omega) x1 x2 i0 i1 he
      exact ⟨y, by rw [hF q (by omega)]; exact y0, by rw [hF (q + 1) (by omega)]; exact y1, y2⟩
