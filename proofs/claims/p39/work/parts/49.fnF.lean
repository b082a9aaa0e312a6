section
section IF'
variable {M : Nat → Nat → Int} {n : Nat} {w R : List Nat}
theorem isFb_t (h : shoP M n [] w = some R) (h2 : R.length = w.length) (h3 : foP M n R = some w) : isFb M n w = true := by
  unfold isFb
  rw [h]
  show (decide (R.length = w.length) && decide (foP M n R = some w)) = true
  rw [Bool.and_eq_true_iff]
  exact ⟨decide_eq_true h2, decide_eq_true h3⟩
theorem isFb_f1 (h : shoP M n [] w = none) : isFb M n w = false := by unfold isFb; rw [h]
theorem isFb_f2 (h : shoP M n [] w = some R) (h2 : R.length ≠ w.length) : isFb M n w = false := by
  unfold isFb
  rw [h]
  show (decide (R.length = w.length) && decide (foP M n R = some w)) = false
  rw [decide_eq_false h2]
  rfl
theorem isFb_f3 (h : shoP M n [] w = some R) (h2 : foP M n R ≠ some w) : isFb M n w = false := by
  unfold isFb
  rw [h]
  show (decide (R.length = w.length) && decide (foP M n R = some w)) = false
  rw [decide_eq_false h2, Bool.and_false]
end IF'
def nxs (M : Nat → Nat → Int) (n : Nat) (l : List Nat) (s : Nat) : List (List Nat) := ((List.range s).filter (fun s => isFb M n (l ++ [s]))).map (fun s => l ++ [s])
def nxL (M : Nat → Nat → Int) (n : Nat) (L : List (List Nat)) : List (List Nat) := L.flatMap (fun l => nxs M n l n)
def flv (M : Nat → Nat → Int) (n : Nat) : Nat → Option (List (List Nat))
  | 0 => some [[]]
  | k + 1 => (flv M n k).bind (fun L => if (nxL M n L).length ≤ 300 then some (nxL M n L) else none)
theorem nxs_0 (M : Nat → Nat → Int) (n : Nat) (l : List Nat) : nxs M n l 0 = [] := rfl
theorem nxs_y {M : Nat → Nat → Int} {n : Nat} {l : List Nat} {s : Nat} (h : isFb M n (l ++ [s]) = true) : nxs M n l (s + 1) = nxs M n l s ++ [l ++ [s]] := by
  unfold nxs
  rw [List.range_succ, List.filter_append, List.filter_cons_of_pos (p := fun s => isFb M n (l ++ [s])) h, List.map_append]
  rfl
theorem nxs_n {M : Nat → Nat → Int} {n : Nat} {l : List Nat} {s : Nat} (h : isFb M n (l ++ [s]) = false) : nxs M n l (s + 1) = nxs M n l s := by
  unfold nxs
  rw [List.range_succ, List.filter_append, List.filter_cons_of_neg (p := fun s => isFb M n (l ++ [s])) (by rw [h]; decide), List.map_append]
  simp
theorem takeL_s {α : Type} {l : List α} {x : Nat} {d : α} (h : x < l.length) : l.take (x + 1) = l.take x ++ [l.getD x d] := by
  rw [List.take_add_one, List.getD_eq_getElem?_getD, List.getElem?_eq_getElem h]
  rfl
theorem nxL_s {M : Nat → Nat → Int} {n : Nat} {L : List (List Nat)} {i : Nat} (h : i < L.length) : nxL M n (L.take (i + 1)) = nxL M n (L.take i) ++ nxs M n (L.getD i []) n := by
  rw [takeL_s (d := []) h]
  unfold nxL
  rw [List.flatMap_append]
  simp
theorem nxs_pre (M : Nat → Nat → Int) (n : Nat) (l : List Nat) : ∀ {s t : Nat}, s ≤ t → ∃ H, nxs M n l t = nxs M n l s ++ H
  | s, 0, h => ⟨[], by rw [show s = 0 by omega]; simp⟩
  | s, t + 1, h => by
    by_cases e : s = t + 1
    · exact ⟨[], by rw [e]; simp⟩
    · obtain ⟨H, hH⟩ := nxs_pre M n l (s := s) (t := t) (by omega)
      by_cases hb : isFb M n (l ++ [t]) = true
      · exact ⟨H ++ [l ++ [t]], by rw [nxs_y hb, hH]; simp⟩
      · exact ⟨H, by rw [nxs_n (by simpa using hb), hH]⟩
theorem nxL_more {M : Nat → Nat → Int} {n : Nat} {L : List (List Nat)} {i s : Nat} (h : i < L.length) (hs : s < n) (hb : isFb M n (L.getD i [] ++ [s]) = true) : (nxL M n (L.take i) ++ nxs M n (L.getD i []) s).length < (nxL M n L).length := by
  obtain ⟨H, hH⟩ := nxs_pre M n (L.getD i []) (s := s + 1) (t := n) (by omega)
  have h1 := nxL_s (M := M) (n := n) h
  rw [hH, nxs_y hb] at h1
  have h2 : nxL M n L = nxL M n (L.take (i + 1)) ++ nxL M n (L.drop (i + 1)) := by
    conv => lhs; rw [← List.take_append_drop (i + 1) L]
    unfold nxL
    rw [List.flatMap_append]
  rw [h2, h1]
  simp only [List.length_append, List.length_cons, List.length_nil]
  omega
theorem flv_s {M : Nat → Nat → Int} {n k : Nat} {L : List (List Nat)} (h : flv M n k = some L) : ((nxL M n L).length ≤ 300 → flv M n (k + 1) = some (nxL M n L)) ∧ (300 < (nxL M n L).length → flv M n (k + 1) = none) := by
  rw [flv, h]
  exact ⟨fun q => if_pos q, fun q => if_neg (by omega)⟩
theorem flv_n {M : Nat → Nat → Int} {n k : Nat} (h : flv M n k = none) : ∀ {m}, k ≤ m → flv M n m = none
  | 0, hm => by rw [show k = 0 by omega] at h; exact h
  | m + 1, hm => by
    by_cases e : k = m + 1
    · rw [← e]; exact h
    · rw [flv, flv_n h (m := m) (by omega)]
      rfl
/-- each is a form of so many letters -/
theorem flv_p {M : Nat → Nat → Int} {n : Nat} : ∀ {k : Nat} {L : List (List Nat)}, flv M n k = some L → ∀ w, w ∈ L → w.length = k ∧ (∀ i, i ∈ w → i < n) ∧ isFb M n w = true
  | 0, L, h, w, hw => by
    rw [flv] at h
    cases h
    rw [List.mem_singleton.mp hw]
    exact ⟨rfl, fun i hi => (by cases hi), rfl⟩
  | k + 1, L, h, w, hw => by
    rw [flv] at h
    obtain ⟨L0, h1, h2⟩ := Option.bind_eq_some_iff.mp h
    split at h2
    · cases h2
      obtain ⟨l, hl, hw2⟩ := List.mem_flatMap.mp hw
      unfold nxs at hw2
      obtain ⟨s, hs, rfl⟩ := List.mem_map.mp hw2
      obtain ⟨hs1, hs2⟩ := List.mem_filter.mp hs
      have h3 := flv_p h1 l hl
      refine ⟨by simp [h3.1], fun i hi => ?_, hs2⟩
      rcases List.mem_append.mp hi with q | q
      · exact h3.2.1 i q
      · rw [List.mem_singleton.mp q]; exact List.mem_range.mp hs1
    · cases h2
theorem flv_le {M : Nat → Nat → Int} {n : Nat} {k : Nat} {L : List (List Nat)} (h : flv M n k = some L) : L.length ≤ 300 := by
  cases k with
  | zero => rw [flv] at h; cases h; decide
  | succ k =>
    rw [flv] at h
    obtain ⟨L0, h1, h2⟩ := Option.bind_eq_some_iff.mp h
    split at h2
    · cases h2; assumption
    · cases h2
/-- the rows of twelve are the words of L, of n letters each -/
def FR (f : Int → Int) (n : Int) (L : List (List Nat)) : Prop := ∀ i : Nat, i < L.length → wl (fun j => f (12 * (i : Int) + j)) n.toNat = L.getD i []
theorem FR.eq {f f' : Int → Int} {n : Int} {L : List (List Nat)} (h : FR f n L) (hf : ∀ j, f' j = f j) : FR f' n L := fun i hi => by rw [← h i hi]; exact wl_congr (fun k _ => hf _)
theorem getL_1 {L H : List (List Nat)} {i : Nat} (h : i < L.length) : (L ++ H).getD i [] = L.getD i [] := by
  rw [List.getD_eq_getElem?_getD, List.getD_eq_getElem?_getD, List.getElem?_append_left h]
theorem getL_2 {L : List (List Nat)} {w : List Nat} : (L ++ [w]).getD L.length [] = w := by
  rw [List.getD_eq_getElem?_getD, List.getElem?_append_right (Nat.le_refl _), Nat.sub_self]
  rfl
theorem FR.add {f : Int → Int} {n : Int} {L : List (List Nat)} {w : List Nat} {m : Int} (h : FR f n L) (hm : (L.length : Int) = m) (hw : wl (fun j => f (12 * m + j)) n.toNat = w) : FR f n (L ++ [w]) := fun i hi => by
  simp only [List.length_append, List.length_cons, List.length_nil] at hi
  by_cases e : i < L.length
  · rw [getL_1 e]; exact h i e
  · have e2 : i = L.length := by omega
    subst e2
    rw [getL_2, hm, hw]
def fForms (M : Nat → Nat → Int) (n : Nat) (a : Int) : Int := if 0 ≤ a ∧ a ≤ 12 then (match flv M n a.toNat with
  | none => -3
  | some L => (L.length : Int)) else -1
def fNext (M : Nat → Nat → Int) (n : Nat) (a b c : Int) (w : wS) : Int × wS := if (0 ≤ c ∧ c < 8) ∧ (0 ≤ a ∧ a ≤ 12) then (match flv M n a.toNat with
  | none => (-1, w)
  | some L => if 0 ≤ b ∧ b < L.length then fStore c w (some (L.getD b.toNat [])) else (-1, w)) else (-1, w)
section FX'
variable {M : Nat → Nat → Int} {n : Nat} {a b c : Int} {w : wS} {L : List (List Nat)}
theorem fForms_n (h : 0 ≤ a ∧ a ≤ 12) (h2 : flv M n a.toNat = none) : fForms M n a = -3 := by unfold fForms; rw [if_pos h, h2]
theorem fForms_s (h : 0 ≤ a ∧ a ≤ 12) (h2 : flv M n a.toNat = some L) : fForms M n a = L.length := by unfold fForms; rw [if_pos h, h2]
theorem fForms_b (h : ¬ (0 ≤ a ∧ a ≤ 12)) : fForms M n a = -1 := by unfold fForms; rw [if_neg h]
theorem fNext_b (h : ¬ ((0 ≤ c ∧ c < 8) ∧ (0 ≤ a ∧ a ≤ 12))) : fNext M n a b c w = (-1, w) := by unfold fNext; rw [if_neg h]
theorem fNext_n (h : (0 ≤ c ∧ c < 8) ∧ (0 ≤ a ∧ a ≤ 12)) (h2 : flv M n a.toNat = none) : fNext M n a b c w = (-1, w) := by unfold fNext; rw [if_pos h, h2]
theorem fNext_s (h : (0 ≤ c ∧ c < 8) ∧ (0 ≤ a ∧ a ≤ 12)) (h2 : flv M n a.toNat = some L) (h3 : 0 ≤ b ∧ b < L.length) : fNext M n a b c w = fStore c w (some (L.getD b.toNat [])) := by unfold fNext; rw [if_pos h, h2]; exact if_pos h3
theorem fNext_o (h : (0 ≤ c ∧ c < 8) ∧ (0 ≤ a ∧ a ≤ 12)) (h2 : flv M n a.toNat = some L) (h3 : ¬ (0 ≤ b ∧ b < L.length)) : fNext M n a b c w = (-1, w) := by unfold fNext; rw [if_pos h, h2]; exact if_neg h3
end FX'
def okW (M : Nat → Nat → Int) (n : Nat) (W F : List Nat) : Prop := ∃ R, shoP M n [] W = some R ∧ R.length = W.length ∧ foP M n R = some F
def flE (M : Nat → Nat → Int) (n : Nat) (a : Int) (f : Int → Int) (m : Int) : Prop := ∃ L, flv M n a.toNat = some L ∧ (L.length : Int) = m ∧ FR f a L
theorem tn_lt {i x : Int} {m : Nat} (h0 : 0 ≤ i) (h1 : i < x) (h : (m : Int) = x) : i.toNat < m := by omega
theorem tn_s {s : Int} (h0 : 0 ≤ s) : (s + 1).toNat = s.toNat + 1 := by omega
theorem rn_c {S W : wSt} (h : W 30 0 0 = S 30 0 0) (h2 : 0 ≤ S 30 0 0) : (rn S : Int) = W 30 0 0 := by unfold rn; omega
theorem mo_l {A AC : List (List Nat)} {m : Int} {X : Nat} (h : A.length < X) (hA : AC = A) (hl : (AC.length : Int) = m) (hm : m = 300) : 300 < X := by
  subst hA
  omega
theorem s_up {x y s : Int} (e : x = y) (h : ¬ x ≤ s) : s + 1 ≤ y := by omega
theorem s_lt {x y s : Int} (e : x = y) (h : ¬ x ≤ s) : s < y := by omega
theorem m_up {a s : Int} {n : Nat} (h : a - s < ((n + 1 : Nat) : Int)) : a - (s + 1) < (n : Int) := by omega
theorem flE_0 {M : Nat → Nat → Int} {n : Nat} {f : Int → Int} {m : Int} (h : m = 1) : flE M n 0 f m := ⟨[[]], rfl, by rw [h]; rfl, fun i hi => by
  have hi0 : i = 0 := by
    simp only [List.length_cons, List.length_nil] at hi
    omega
  rw [hi0]
  rfl⟩
def FNX (L : List (List Nat)) (f : Int → Int) (a b : Int) (M : Nat → Nat → Int) (n : Nat) : Prop := flv M n a.toNat = some L ∧ (0 ≤ b ∧ b < L.length) ∧ FR f a L
theorem FNX.eq {L : List (List Nat)} {f f' : Int → Int} {a b : Int} {M : Nat → Nat → Int} {n : Nat} (h : FNX L f a b M n) (hf : ∀ j, f' j = f j) : FNX L f' a b M n := ⟨h.1, h.2.1, h.2.2.eq hf⟩
end
section
end
