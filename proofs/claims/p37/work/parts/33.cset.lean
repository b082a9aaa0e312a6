def tY (k : Nat) (_i _j : Int) : Prop := k = 1 ∨ k = 3 ∨ k = 4 ∨ k = 5 ∨ k = 8 ∨ k = 12 ∨ k = 16
/-- the class has kept its set -/
def KpC (S S' : wSt) : Prop := S' 8 0 1 = (S 8 0 1 + 1) % 16 ∧ (S' 8 0 2 = if S 8 0 2 = 16 then 16 else S 8 0 2 + 1) ∧ (S' 3 (S 8 0 1) 2 = S 3 16 2 ∧ (∀ j, 0 ≤ j → j < 6 → S' 4 (S 8 0 1) j = S 4 16 j) ∧ ∀ j, 0 ≤ j → j < 36 → S' 5 (S 8 0 1) j = S 5 16 j) ∧ ∀ c, 0 ≤ c → c < 16 → c ≠ S 8 0 1 → S' 3 c 2 = S 3 c 2 ∧ (∀ j, S' 4 c j = S 4 c j) ∧ ∀ j, S' 5 c j = S 5 c j
theorem KpC.tr {S S1 S' : wSt} (h : KpC S S1) (ha : 0 ≤ S 8 0 1 ∧ S 8 0 1 < 16) (e3 : ∀ c, c < 16 → S' 3 c 2 = S1 3 c 2) (e4 : ∀ c j, c < 16 → S' 4 c j = S1 4 c j) (e5 : ∀ c j, c < 16 → S' 5 c j = S1 5 c j) (e8 : ∀ j, S' 8 0 j = S1 8 0 j) : KpC S S' := by
  obtain ⟨h1, h2, ⟨h3, h4, h5⟩, h6⟩ := h
  refine ⟨by rw [e8]; exact h1, by rw [e8]; exact h2, ⟨by rw [e3 _ ha.2]; exact h3, fun j a b => by rw [e4 _ _ ha.2]; exact h4 j a b, fun j a b => by rw [e5 _ _ ha.2]; exact h5 j a b⟩, fun c c0 c1 hc => ?_⟩
  obtain ⟨g1, g2, g3⟩ := h6 c c0 c1 hc
  exact ⟨by rw [e3 _ c1]; exact g1, fun j => by rw [e4 _ _ c1]; exact g2 j, fun j => by rw [e5 _ _ c1]; exact g3 j⟩
theorem cOK.congr {n n' : Int} {kd kd' mt mt' : Int → Int} (h : cOK n kd mt) (hn : n' = n) (hk : ∀ i, 0 ≤ i → i < 6 → kd' i = kd i) (hm : ∀ j, 0 ≤ j → j < 36 → mt' j = mt j) : cOK n' kd' mt' := ⟨h.1.congr hn hk hm, fun i j a b c d e => by rw [hm _ (by omega) (by omega)]; exact h.2 i j a b c d (by omega)⟩
/-- with no word, no root and no form kept all is as it must be -/
theorem CI.anew {S S' : wSt} (hR : CI S) (hs : cOK (S' 3 16 2) (S' 4 16) (S' 5 16)) (h8 : (0 ≤ S' 8 0 1 ∧ S' 8 0 1 < 16) ∧ 0 ≤ S' 8 0 2 ∧ S' 8 0 2 ≤ 16) (hk : ∀ c, 0 ≤ c → c < 16 → cOK (S' 3 c 2) (S' 4 c) (S' 5 c)) (hf : Fr tY S S') (hw : ∀ s, 0 ≤ s → s < 8 → S' 1 s 1 = 0) (h12 : S' 12 0 4 = 0 ∧ S' 12 0 5 = 0) (h16 : S' 16 0 4 = 0 ∧ S' 16 0 5 = 0) : CI S' := by
  have e (k : Nat) (i : Int) (hk : ∀ j, ¬ tY k i j) : S' k i = S k i := funext fun j => hf k i j (hk j)
  have e6 (l : Int) : S' 6 l = S 6 l := e 6 l (fun j => by unfold tY; omega)
  have e7 (l : Int) : S' 7 l = S 7 l := e 7 l (fun j => by unfold tY; omega)
  have e15 : S' 15 0 = S 15 0 := e 15 0 (fun j => by unfold tY; omega)
  have e18 : S' 18 0 = S 18 0 := e 18 0 (fun j => by unfold tY; omega)
  refine ⟨hs, h8, hk, fun s s0 s1 => by rw [hw s s0 s1]; exact ⟨by omega, fun j _ _ => by omega⟩, fun l l0 l1 => by rw [e6]; exact hR.lf l l0 l1, fun l j l0 l1 j0 j1 => by rw [e7]; exact hR.it l j l0 l1 j0 j1, ⟨by omega, by omega, ?_⟩, ⟨by omega, by omega, by rw [e18]; exact hR.fl.2.2.1, fun j j0 j1 => ?_, fun k i k0 k1 => by omega⟩⟩
  · rw [h12.1, e15]
    have f1 := hR.rl.2.2.1
    exact ⟨f1, fun q _ _ => by omega, by show S 15 0 (0 + 1) ≤ 400; rw [show (0 : Int) + 1 = 1 from rfl, f1]; omega, fun q x _ _ => by omega, fun q => by omega, fun low q x i _ _ _ => by omega⟩
  · rw [h16.1] at j1
    rw [show j = 0 by omega, e18, hR.fl.2.2.1]
    omega
theorem KpC.ci {S S' : wSt} (h : KpC S S') (hR : CI S) (hs : cOK (S' 3 16 2) (S' 4 16) (S' 5 16)) (hf : Fr tY S S') (hw : ∀ s, 0 ≤ s → s < 8 → S' 1 s 1 = 0) (h12 : S' 12 0 4 = 0 ∧ S' 12 0 5 = 0) (h16 : S' 16 0 4 = 0 ∧ S' 16 0 5 = 0) : CI S' := by
  obtain ⟨h1, h2, ⟨h3, h4, h5⟩, h6⟩ := h
  have hh := hR.hs
  refine hR.anew hs ⟨by rw [h1]; omega, by rw [h2]; split <;> omega⟩ (fun c c0 c1 => ?_) hf hw h12 h16
  by_cases e : c = S 8 0 1
  · rw [e]; exact cOK.congr (n := S 3 16 2) ⟨hR.set, hR.zb⟩ h3 h4 h5
  · obtain ⟨g1, g2, g3⟩ := h6 c c0 c1 e
    exact (hR.kp c c0 c1).congr g1 (fun i _ _ => g2 i) (fun i _ _ => g3 i)
theorem KpC.ac {S S' : wSt} (h : KpC S S') (hR : CI S) {x : aS} (hx : AC S x) {y : aT} (hy : setR (S' 3 16 2) (S' 4 16) (S' 5 16) y) : AC S' (y, aKeep x) := by
  obtain ⟨h1, h2, ⟨h3, h4, h5⟩, h6⟩ := h
  obtain ⟨hx1, hx2, hx3⟩ := hx
  have hh := hR.hs
  have hn := hR.n
  have hC2 : (aKeep x).1 = if x.2.1 = 16 then 16 else x.2.1 + 1 := rfl
  refine ⟨hy, by rw [h2, hx2]; rfl, fun t t0 t1 => ?_⟩
  have t1 : t < (aKeep x).1 := t1
  have hk : (aKeep x).2 t = if t = 0 then x.1 else x.2.2 (t - 1) := rfl
  show setR (S' 3 ((S' 8 0 1 - 1 - t) % 16) 2) (S' 4 ((S' 8 0 1 - 1 - t) % 16)) (S' 5 ((S' 8 0 1 - 1 - t) % 16)) ((aKeep x).2 t)
  rw [hk, h1]
  by_cases e : t = 0
  · subst e
    rw [if_pos rfl, show ((S 8 0 1 + 1) % 16 - 1 - 0) % 16 = S 8 0 1 by omega]
    exact hx1.congr hn.2 h3 h4 h5
  · rw [if_neg e]
    have t2 : t ≤ 15 := by split at hC2 <;> omega
    have hq := hx3 (t - 1) (by omega) (by split at hC2 <;> omega)
    have ei : ((S 8 0 1 + 1) % 16 - 1 - t) % 16 = (S 8 0 1 - 1 - (t - 1)) % 16 := by omega
    rw [ei]
    have hne : (S 8 0 1 - 1 - (t - 1)) % 16 ≠ S 8 0 1 := by omega
    obtain ⟨g1, g2, g3⟩ := h6 _ (by omega) (by omega) hne
    have hkk := hR.kp ((S 8 0 1 - 1 - (t - 1)) % 16) (by omega) (by omega)
    exact hq.congr hkk.1.1.2 g1 (fun i _ _ => g2 i) (fun i _ _ => g3 i)
theorem sOK.zrow {n m n' : Int} {kd mt mt' : Int → Int} (h : sOK n kd mt) (m0 : 0 ≤ m) (m1 : m < 6) (hn : 0 ≤ n' ∧ n' ≤ 6) (hz : ∀ j, 0 ≤ j → j < 6 → mt' (6 * m + j) = 0 ∧ mt' (6 * j + m) = 0) (ho : ∀ i j, 0 ≤ i → i < 6 → 0 ≤ j → j < 6 → i ≠ m → j ≠ m → mt' (6 * i + j) = mt (6 * i + j)) : sOK n' kd mt' :=
  (sOK.mirror (n := m) (k := kd m) (kd := kd) (kd' := kd) (h.less ⟨m0, by omega⟩) m1 (h.2.1 m m0 m1) rfl (fun _ _ => rfl) hz ho).less hn
theorem AC.fr {S S' : wSt} {x : aS} (h : AC S x) (hf : ∀ k i j, k = 3 ∨ k = 4 ∨ k = 5 ∨ k = 8 → S' k i j = S k i j) : AC S' x := by
  unfold AC
  have e (k : Nat) (i : Int) (hk : k = 3 ∨ k = 4 ∨ k = 5 ∨ k = 8) : S' k i = S k i := funext fun j => hf k i j hk
  rw [e 3 16 (by omega), e 4 16 (by omega), e 5 16 (by omega), e 8 0 (by omega)]
  refine ⟨h.1, h.2.1, fun t a b => ?_⟩
  rw [e 3 _ (by omega), e 4 _ (by omega), e 5 _ (by omega)]
  exact h.2.2 t a b
theorem LC.fr {S S' : wSt} {y : aL} (h : LC S y) (hf : ∀ k i j, k = 6 ∨ k = 7 → S' k i j = S k i j) : LC S' y := by
  unfold LC
  have e (k : Nat) (i : Int) (hk : k = 6 ∨ k = 7) : S' k i = S k i := funext fun j => hf k i j hk
  intro l l0 l1
  rw [e 6 l (by omega), e 7 l (by omega)]
  exact h l l0 l1
