/-! the class's state -/
def cOK (n : Int) (kd mt : Int → Int) : Prop := sOK n kd mt ∧ ∀ i j, 0 ≤ i → i < 6 → 0 ≤ j → j < 6 → (n ≤ i ∨ n ≤ j) → mt (6 * i + j) = 0
/-- number b of a root that is packed -/
def dg (k b : Int) : Int := k / 64 ^ (5 - b).toNat % 64
def upv (mt : Int → Int) (n key q i : Int) : Int := if 0 < -2 * dg key i + sm n.toNat (fun j => mt (6 * i + (j : Int)) * dg key (j : Int)) then min (q + (-2 * dg key i + sm n.toNat (fun j => mt (6 * i + (j : Int)) * dg key (j : Int)))) 63 else 0
/-- the roots that stand, of heights up to h, are what turns up -/
def RTI (mt : Int → Int) (n h : Int) (F K U : Int → Int) : Prop := F 1 = 0 ∧ (∀ q, 1 ≤ q → q ≤ h → F q ≤ F (q + 1)) ∧ F (h + 1) ≤ 400 ∧ (∀ q x, 1 ≤ q → q ≤ h → F q ≤ x → x < F (q + 1) → (0 ≤ K x ∧ K x < 68719476736) ∧ sm 6 (fun b => dg (K x) (b : Int)) = q ∧ (∀ b, n ≤ b → b < 6 → dg (K x) b = 0) ∧ (0 ≤ U x ∧ U x < 68719476736) ∧ ∀ i, 0 ≤ i → i < n → dg (U x) i = upv mt n (K x) q i) ∧ (1 ≤ h → ∀ i, 0 ≤ i → i < n → ∃ x, 0 ≤ x ∧ x < F 2 ∧ ∀ b, 0 ≤ b → b < 6 → dg (K x) b = if b = i then 1 else 0) ∧ ∀ low q x i, 1 ≤ low → low < q → q ≤ h → F low ≤ x → x < F (low + 1) → 0 ≤ i → i < n → dg (U x) i = q → ∃ y, F q ≤ y ∧ y < F (q + 1) ∧ ∀ b, 0 ≤ b → b < 6 → dg (K y) b = dg (K x) b + if b = i then q - low else 0
def RLI (S : wSt) : Prop := (0 ≤ S 12 0 4 ∧ S 12 0 4 ≤ 40) ∧ (S 12 0 5 = 0 ∨ S 12 0 5 = 1) ∧ RTI (S 5 16) (S 3 16 2) (S 12 0 4) (S 15 0) (S 13 0) (S 14 0)
def FLI (S : wSt) : Prop := (0 ≤ S 16 0 4 ∧ S 16 0 4 ≤ 12) ∧ (S 16 0 5 = 0 ∨ S 16 0 5 = 1) ∧ S 18 0 0 = 1 ∧ (∀ j, 0 ≤ j → j ≤ S 16 0 4 → 0 ≤ S 18 0 j ∧ S 18 0 j ≤ 300) ∧ ∀ k i, 1 ≤ k → k ≤ S 16 0 4 → 0 ≤ i → i < S 18 0 k → ∃ f s, S 17 0 (300 * (k - 1) + i) = 8 * f + s ∧ (0 ≤ f ∧ f < S 18 0 (k - 1)) ∧ 0 ≤ s ∧ s < S 3 16 2
/-- what of the class lasts is as it must be -/
def CI (S : wSt) : Prop := cOK (S 3 16 2) (S 4 16) (S 5 16) ∧ ((0 ≤ S 8 0 1 ∧ S 8 0 1 < 16) ∧ 0 ≤ S 8 0 2 ∧ S 8 0 2 ≤ 16) ∧ (∀ c, 0 ≤ c → c < 16 → cOK (S 3 c 2) (S 4 c) (S 5 c)) ∧ (∀ s, 0 ≤ s → s < 8 → (0 ≤ S 1 s 1 ∧ S 1 s 1 ≤ 100) ∧ WV (S 2 s) (S 1 s 1) (S 3 16 2)) ∧ (∀ l, 0 ≤ l → l < 4 → (S 6 l 1 = 0 ∨ S 6 l 1 = 1) ∧ (0 ≤ S 6 l 2 ∧ S 6 l 2 ≤ 2) ∧ 0 ≤ S 6 l 3 ∧ S 6 l 3 ≤ 40) ∧ (∀ l j, 0 ≤ l → l < 4 → 0 ≤ j → j < 40 → -9223372036854775808 ≤ S 7 l j ∧ S 7 l j ≤ 9223372036854775807) ∧ RLI S ∧ FLI S
section CC
variable {S : wSt}
theorem CI.set (h : CI S) : sOK (S 3 16 2) (S 4 16) (S 5 16) := h.1.1
theorem CI.zb (h : CI S) : ∀ i j, 0 ≤ i → i < 6 → 0 ≤ j → j < 6 → (S 3 16 2 ≤ i ∨ S 3 16 2 ≤ j) → S 5 16 (6 * i + j) = 0 := h.1.2
theorem CI.n (h : CI S) : 0 ≤ S 3 16 2 ∧ S 3 16 2 ≤ 6 := h.1.1.1
theorem CI.hs (h : CI S) : (0 ≤ S 8 0 1 ∧ S 8 0 1 < 16) ∧ 0 ≤ S 8 0 2 ∧ S 8 0 2 ≤ 16 := h.2.1
theorem CI.kp (h : CI S) : ∀ c, 0 ≤ c → c < 16 → cOK (S 3 c 2) (S 4 c) (S 5 c) := h.2.2.1
theorem CI.kd (h : CI S) : ∀ i, 0 ≤ i → i < 6 → 0 ≤ S 4 16 i ∧ S 4 16 i ≤ 2 := h.1.1.2.1
theorem CI.mt (h : CI S) : ∀ i j, 0 ≤ i → i < 6 → 0 ≤ j → j < 6 → 0 ≤ S 5 16 (6 * i + j) ∧ S 5 16 (6 * i + j) ≤ 4 := h.1.1.2.2.1
theorem CI.ln (h : CI S) : ∀ s, 0 ≤ s → s < 8 → 0 ≤ S 1 s 1 ∧ S 1 s 1 ≤ 100 := fun s a b => (h.2.2.2.1 s a b).1
theorem CI.wv (h : CI S) : ∀ s, 0 ≤ s → s < 8 → WV (S 2 s) (S 1 s 1) (S 3 16 2) := fun s a b => (h.2.2.2.1 s a b).2
theorem CI.lf (h : CI S) : ∀ l, 0 ≤ l → l < 4 → (S 6 l 1 = 0 ∨ S 6 l 1 = 1) ∧ (0 ≤ S 6 l 2 ∧ S 6 l 2 ≤ 2) ∧ 0 ≤ S 6 l 3 ∧ S 6 l 3 ≤ 40 := h.2.2.2.2.1
theorem CI.it (h : CI S) : ∀ l j, 0 ≤ l → l < 4 → 0 ≤ j → j < 40 → -9223372036854775808 ≤ S 7 l j ∧ S 7 l j ≤ 9223372036854775807 := h.2.2.2.2.2.1
theorem CI.rl (h : CI S) : RLI S := h.2.2.2.2.2.2.1
theorem CI.fl (h : CI S) : FLI S := h.2.2.2.2.2.2.2
end CC
/-- what of the class does not last -/
def tC (k : Nat) (i _j : Int) : Prop := (k = 1 ∧ 8 ≤ i) ∨ (k = 2 ∧ 8 ≤ i) ∨ k = 11 ∨ k = 19 ∨ k = 22 ∨ k = 24
/-- the words, the roots and the forms too -/
def tX (k : Nat) (_i _j : Int) : Prop := k = 1 ∨ k = 2 ∨ (11 ≤ k ∧ k ≤ 19) ∨ k = 22 ∨ k = 24
theorem tC_tX {S S' : wSt} (h : Fr tC S S') : Fr tX S S' := h.mono (fun k i j q => by unfold tC at q; unfold tX; omega)
theorem CI.fr {S S' : wSt} (h : CI S) (f : Fr tC S S') : CI S' := by
  have e (k : Nat) (i : Int) (hk : ∀ j, ¬ tC k i j) : S' k i = S k i := funext fun j => f k i j (hk j)
  have a3 (c : Int) : S' 3 c = S 3 c := e 3 c (fun j => by unfold tC; omega)
  have a4 (c : Int) : S' 4 c = S 4 c := e 4 c (fun j => by unfold tC; omega)
  have a5 (c : Int) : S' 5 c = S 5 c := e 5 c (fun j => by unfold tC; omega)
  have a6 (c : Int) : S' 6 c = S 6 c := e 6 c (fun j => by unfold tC; omega)
  have a7 (c : Int) : S' 7 c = S 7 c := e 7 c (fun j => by unfold tC; omega)
  have a8 : S' 8 0 = S 8 0 := e 8 0 (fun j => by unfold tC; omega)
  have a12 : S' 12 0 = S 12 0 := e 12 0 (fun j => by unfold tC; omega)
  have a13 : S' 13 0 = S 13 0 := e 13 0 (fun j => by unfold tC; omega)
  have a14 : S' 14 0 = S 14 0 := e 14 0 (fun j => by unfold tC; omega)
  have a15 : S' 15 0 = S 15 0 := e 15 0 (fun j => by unfold tC; omega)
  have a16 : S' 16 0 = S 16 0 := e 16 0 (fun j => by unfold tC; omega)
  have a17 : S' 17 0 = S 17 0 := e 17 0 (fun j => by unfold tC; omega)
  have a18 : S' 18 0 = S 18 0 := e 18 0 (fun j => by unfold tC; omega)
  obtain ⟨h1, h2, h3, h4, h5, h6, h7, h8⟩ := h
  refine ⟨by rw [a3, a4, a5]; exact h1, by rw [a8]; exact h2, fun c c0 c1 => by rw [a3, a4, a5]; exact h3 c c0 c1, fun s s0 s1 => ?_, fun l l0 l1 => by rw [a6]; exact h5 l l0 l1, fun l j l0 l1 j0 j1 => by rw [a7]; exact h6 l j l0 l1 j0 j1, by unfold RLI; rw [a12, a13, a14, a15, a5, a3]; exact h7, by unfold FLI; rw [a16, a17, a18, a3]; exact h8⟩
  have b1 : S' 1 s = S 1 s := e 1 s (fun j => by unfold tC; omega)
  have b2 : S' 2 s = S 2 s := e 2 s (fun j => by unfold tC; omega)
  rw [b1, b2, a3]
  exact h4 s s0 s1
/-- only slots' words have changed -/
def fZ (k : Nat) (_i _j : Int) : Prop := k = 1 ∨ k = 2
theorem CI.wd {S S' : wSt} (h : CI S) (f : Fr fZ S S') (hw : ∀ s, 0 ≤ s → s < 8 → (0 ≤ S' 1 s 1 ∧ S' 1 s 1 ≤ 100) ∧ WV (S' 2 s) (S' 1 s 1) (S 3 16 2)) : CI S' := by
  have e (k : Nat) (i : Int) (hk : k ≠ 1 ∧ k ≠ 2) : S' k i = S k i := funext fun j => f k i j (by unfold fZ; omega)
  obtain ⟨h1, h2, h3, -, h5, h6, h7, h8⟩ := h
  refine ⟨by rw [e 3, e 4, e 5] <;> first | exact h1 | decide, by rw [e 8] <;> first | exact h2 | decide, fun c c0 c1 => by rw [e 3, e 4, e 5] <;> first | exact h3 c c0 c1 | decide, fun s s0 s1 => by rw [e 3 16 (by decide)]; exact hw s s0 s1, fun l l0 l1 => by rw [e 6 l (by decide)]; exact h5 l l0 l1, fun l j l0 l1 j0 j1 => by rw [e 7 l (by decide)]; exact h6 l j l0 l1 j0 j1, by unfold RLI; rw [e 12 0 (by decide), e 13 0 (by decide), e 14 0 (by decide), e 15 0 (by decide), e 5 16 (by decide), e 3 16 (by decide)]; exact h7, by unfold FLI; rw [e 16 0 (by decide), e 17 0 (by decide), e 18 0 (by decide), e 3 16 (by decide)]; exact h8⟩
def tvc (mt v : Int → Int) (a x : Int) : Int := -(v a) + sm x.toNat (fun k => mt (6 * a + (k : Int)) * v (k : Int))
theorem tvc_0 (mt v : Int → Int) (a : Int) : tvc mt v a 0 = -(v a) := by unfold tvc; simp [sm]
theorem tvc_s (mt v : Int → Int) (a : Int) {x : Int} (hx : 0 ≤ x) : tvc mt v a (x + 1) = tvc mt v a x + mt (6 * a + x) * v x := by
  unfold tvc
  rw [show (x + 1).toNat = x.toNat + 1 by omega, sm, Int.toNat_of_nonneg hx]
  omega
/-- the root of the class's shortener as a word, at its x-th letter, has made it, in an ending set -/
def T3 (mt f root : Int → Int) (n m a x : Int) : Prop := ∀ L, RLi (mxz mt) n.toNat L → 0 ≤ a → a < n → NB (mxz mt) n.toNat ((wl f m.toNat).drop (x + 1).toNat) a.toNat ∧ ∀ j : Nat, j < n.toNat → root (j : Int) = act (mxz mt) n.toNat ((wl f m.toNat).drop (x + 1).toNat) (ownV a.toNat) j
theorem T3_start {mt f root : Int → Int} {n m a : Int} (hm : 0 ≤ m) (ho : ∀ j, 0 ≤ j → j < 6 → root j = if j = a then 1 else 0) (hn : 0 ≤ n ∧ n ≤ 6) : T3 mt f root n m a (m - 1) := by
  intro L hL a0 a1
  rw [show (m - 1 + 1).toNat = m.toNat by omega, List.drop_eq_nil_of_le (by rw [wl_len]; omega)]
  refine ⟨trivial, fun j hj => ?_⟩
  rw [ho j (by omega) (by omega)]
  unfold act ownV
  by_cases e : j = a.toNat
  · rw [if_pos e, if_pos (by omega)]
  · rw [if_neg e, if_neg (by omega)]
theorem T3_step {kd mt f root root' : Int → Int} {n m a x : Int} (h : T3 mt f root n m a x) (hs : sOK n kd mt) (hw : WV f m n) (x0 : 0 ≤ x) (x1 : x < m) (hno : ¬ ∀ j, 0 ≤ j → j < 6 → nl (root j) = if j = f x then 1 else 0) (hz6 : ∀ j, n ≤ j → j < 6 → root j = 0) (hv : root' (f x) = tvc mt root (f x) n) (ho : ∀ j, j ≠ f x → root' j = root j) : T3 mt f root' n m a (x - 1) ∧ ∀ L, RLi (mxz mt) n.toNat L → 0 ≤ a → a < n → 0 ≤ tvc mt root (f x) n ∧ tvc mt root (f x) n ≤ 6 := by
  have key : ∀ L, RLi (mxz mt) n.toNat L → 0 ≤ a → a < n → (NB (mxz mt) n.toNat ((wl f m.toNat).drop (x - 1 + 1).toNat) a.toNat ∧ ∀ j : Nat, j < n.toNat → root' (j : Int) = act (mxz mt) n.toNat ((wl f m.toNat).drop (x - 1 + 1).toNat) (ownV a.toNat) j) ∧ 0 ≤ tvc mt root (f x) n ∧ tvc mt root (f x) n ≤ 6 := by
    intro L hL a0 a1
    obtain ⟨g2, g3⟩ := h L hL a0 a1
    have hn := hs.1
    have hr := hw x x0 x1
    have ed : (wl f m.toNat).drop x.toNat = (f x).toNat :: (wl f m.toNat).drop (x + 1).toNat := by
      have := wl_drop f (m := m.toNat) (k := x.toNat) (by omega)
      rw [Int.toNat_of_nonneg x0] at this
      rw [this, show x.toNat + 1 = (x + 1).toNat by omega]
    have hlet : ∀ i, i ∈ (wl f m.toNat).drop (x + 1).toNat → i < n.toNat := fun i hi => wl_mem (fun k hk => by
      have := hw k (by omega) (by omega)
      omega) i (List.mem_of_mem_drop hi)
    have hy := NB.mem hL (by omega) hlet g2
    rw [show (x - 1 + 1).toNat = x.toNat by omega, ed]
    have hne : act (mxz mt) n.toNat ((wl f m.toNat).drop (x + 1).toNat) (ownV a.toNat) ≠ ownV (f x).toNat := fun e => hno (fun j j0 j1 => by
      by_cases ej : j < n
      · have h5 := g3 j.toNat (by omega)
        rw [e, Int.toNat_of_nonneg j0] at h5
        rw [h5]
        unfold ownV
        by_cases e : j = f x
        · rw [if_pos e, if_pos (by omega)]; exact nl_e (by omega)
        · rw [if_neg e, if_neg (by omega)]; exact nl_e (by omega)
      · rw [hz6 j (by omega) j1, if_neg (by omega)]; exact nl_e (by omega))
    have et : tvc mt root (f x) n = rfx (mxz mt) n.toNat (act (mxz mt) n.toNat ((wl f m.toNat).drop (x + 1).toNat) (ownV a.toNat)) (f x).toNat (f x).toNat := by
      generalize act (mxz mt) n.toNat ((wl f m.toNat).drop (x + 1).toNat) (ownV a.toNat) = y at *
      unfold tvc rfx prg
      rw [if_pos rfl]
      have h5 := g3 (f x).toNat (by omega)
      rw [Int.toNat_of_nonneg hr.1] at h5
      rw [h5]
      have h6 : sm n.toNat (fun k => mt (6 * f x + (k : Int)) * root (k : Int)) = sm n.toNat (fun j => mxz mt (f x).toNat j * y j) := sm_congr (fun j hj => by
        rw [g3 j hj]
        unfold mxz
        rw [Int.toNat_of_nonneg hr.1])
      rw [h6]
      omega
    have hin := (hL.cl _ hy (f x).toNat (by omega)).resolve_left hne
    have hnn := hL.nn _ hin (f x).toNat
    rw [← et] at hnn
    refine ⟨⟨⟨hne, g2⟩, fun j hj => ?_⟩, hnn⟩
    by_cases e : (j : Int) = f x
    · have e2 : j = (f x).toNat := by omega
      rw [e, hv, et]
      show _ = rfx _ _ (act _ _ _ _) _ j
      rw [e2]
    · rw [ho j e, g3 j hj]
      show _ = rfx _ _ (act _ _ _ _) _ j
      unfold rfx
      rw [if_neg (fun e2 => e (by omega))]
  exact ⟨fun L hL a0 a1 => (key L hL a0 a1).1, fun L hL a0 a1 => (key L hL a0 a1).2⟩
/-- the class keeps x -/
def AC (S : wSt) (x : aS) : Prop := setR (S 3 16 2) (S 4 16) (S 5 16) x.1 ∧ S 8 0 2 = x.2.1 ∧ ∀ t, 0 ≤ t → t < x.2.1 → setR (S 3 ((S 8 0 1 - 1 - t) % 16) 2) (S 4 ((S 8 0 1 - 1 - t) % 16)) (S 5 ((S 8 0 1 - 1 - t) % 16)) (x.2.2 t)
/-- the class's leaves are y -/
def LC (S : wSt) (y : aL) : Prop := ∀ l, 0 ≤ l → l < 4 → (y.1 l = if S 6 l 1 = 0 then -1 else S 6 l 2) ∧ S 6 l 3 = y.2.1 l ∧ ∀ j, 0 ≤ j → j < 40 → S 7 l j = y.2.2 l j
