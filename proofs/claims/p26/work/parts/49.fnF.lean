section
section IF'
variable {M : Nat → Nat → Int} {n : Nat} {w R : List Nat}
theorem isFb_t (h : shoP M n [] w = some R) (h2 : R.length = w.length) (h3 : foP M n R = some w) : isFb M n w = true := by
  unfold isFb
  rw [h]
  show (decide (R.length = w.length) && decide (foP M n R = some w)) = true
  rw [Bool.and_eq_true_iff]
  exact ⟨decide_eq_true h2, decide_eq_true h3⟩
theorem isFb_f1 (h : shoP M n [] w = none) : isFb M n w = false := by unfold isFb; rw [h]
theorem isFb_f2 (h : shoP M n [] w = some R) (h2 : R.length ≠ w.length) : isFb M n w = false := by
  unfold isFb
  rw [h]
  show (decide (R.length = w.length) && decide (foP M n R = some w)) = false
  rw [decide_eq_false h2]
  rfl
theorem isFb_f3 (h : shoP M n [] w = some R) (h2 : foP M n R ≠ some w) : isFb M n w = false := by
  unfold isFb
  rw [h]
  show (decide (R.length = w.length) && decide (foP M n R = some w)) = false
  rw [decide_eq_false h2, Bool.and_false]
end IF'
def nxs (M : Nat → Nat → Int) (n : Nat) (l : List Nat) (s : Nat) : List (List Nat) := ((List.range s).filter (fun s => isFb M n (l ++ [s]))).map (fun s => l ++ [s])
def nxL (M : Nat → Nat → Int) (n : Nat) (L : List (List Nat)) : List (List Nat) := L.flatMap (fun l => nxs M n l n)
def flv (M : Nat → Nat → Int) (n : Nat) : Nat → Option (List (List Nat))
  | 0 => some [[]]
  | k + 1 => (flv M n k).bind (fun L => if (nxL M n L).length ≤ 300 then some (nxL M n L) else none)
theorem nxs_0 (M : Nat → Nat → Int) (n : Nat) (l : List Nat) : nxs M n l 0 = [] := rfl
theorem nxs_y {M : Nat → Nat → Int} {n : Nat} {l : List Nat} {s : Nat} (h : isFb M n (l ++ [s]) = true) : nxs M n l (s + 1) = nxs M n l s ++ [l ++ [s]] := by
  unfold nxs
  rw [List.range_succ, List.filter_append, List.filter_cons_of_pos (p := fun s => isFb M n (l ++ [s])) h, List.map_append]
  rfl
theorem nxs_n {M : Nat → Nat → Int} {n : Nat} {l : List Nat} {s : Nat} (h : isFb M n (l ++ [s]) = false) : nxs M n l (s + 1) = nxs M n l s := by
  unfold nxs
  rw [List.range_succ, List.filter_append, List.filter_cons_of_neg (p := fun s => isFb M n (l ++ [s])) (by rw [h]; decide), List.map_append]
  simp
theorem takeL_s {α : Type} {l : List α} {x : Nat} {d : α} (h : x < l.length) : l.take (x + 1) = l.take x ++ [l.getD x d] := by
  rw [List.take_add_one, List.getD_eq_getElem?_getD, List.getElem?_eq_getElem h]
  rfl
theorem nxL_s {M : Nat → Nat → Int} {n : Nat} {L : List (List Nat)} {i : Nat} (h : i < L.length) : nxL M n (L.take (i + 1)) = nxL M n (L.take i) ++ nxs M n (L.getD i []) n := by
  rw [takeL_s (d := []) h]
  unfold nxL
  rw [List.flatMap_append]
  simp
theorem nxs_pre (M : Nat → Nat → Int) (n : Nat) (l : List Nat) : ∀ {s t : Nat}, s ≤ t → ∃ H, nxs M n l t = nxs M n l s ++ H
  | s, 0, h => ⟨[], by rw [show s = 0 by omega]; simp⟩
  | s, t + 1, h => by
    by_cases e : s = t + 1
    · exact ⟨[], by rw [e]; simp⟩
    · obtain ⟨H, hH⟩ := nxs_pre M n l (s := s) (t := t) (by omega)
      by_cases hb : isFb M n (l ++ [t]) = true
      · exact ⟨H ++ [l ++ [t]], by rw [nxs_y hb, hH]; simp⟩
      · exact ⟨H, by rw [nxs_n (by simpa using hb), hH]⟩
theorem nxL_more {M : Nat → Nat → Int} {n : Nat} {L : List (List Nat)} {i s : Nat} (h : i < L.length) (hs : s < n) (hb : isFb M n (L.getD i [] ++ [s]) = true) : (nxL M n (L.take i) ++ nxs M n (L.getD i []) s).length < (nxL M n L).length := by
  obtain ⟨H, hH⟩ := nxs_pre M n (L.getD i []) (s := s + 1) (t := n) (by omega)
  have h1 := nxL_s (M := M) (n := n) h
  rw [hH, nxs_y hb] at h1
  have h2 : nxL M n L = nxL M n (L.take (i + 1)) ++ nxL M n (L.drop (i + 1)) := by
    conv => lhs; rw [← List.take_append_drop (i + 1) L]
    unfold nxL
    rw [List.flatMap_append]
  rw [h2, h1]
  simp only [List.length_append, List.length_cons, List.length_nil]
  omega
theorem flv_s {M : Nat → Nat → Int} {n k : Nat} {L : List (List Nat)} (h : flv M n k = some L) : ((nxL M n L).length ≤ 300 → flv M n (k + 1) = some (nxL M n L)) ∧ (300 < (nxL M n L).length → flv M n (k + 1) = none) := by
  rw [flv, h]
  exact ⟨fun q => if_pos q, fun q => if_neg (by omega)⟩
theorem flv_n {M : Nat → Nat → Int} {n k : Nat} (h : flv M n k = none) : ∀ {m}, k ≤ m → flv M n m = none
  | 0, hm => by rw [show k = 0 by omega] at h; exact h
  | m + 1, hm => by
    by_cases e : k = m + 1
    · rw [← e]; exact h
    · rw [flv, flv_n h (m := m) (by omega)]
      rfl
/-- each is a form of so many letters -/
theorem flv_p {M : Nat → Nat → Int} {n : Nat} : ∀ {k : Nat} {L : List (List Nat)}, flv M n k = some L → ∀ w, w ∈ L → w.length = k ∧ (∀ i, i ∈ w → i < n) ∧ isFb M n w = true
  | 0, L, h, w, hw => by
    rw [flv] at h
    cases h
    rw [List.mem_singleton.mp hw]
    exact ⟨rfl, fun i hi => (by cases hi), rfl⟩
  | k + 1, L, h, w, hw => by
    rw [flv] at h
    obtain ⟨L0, h1, h2⟩ := Option.bind_eq_some_iff.mp h
    split at h2
    · cases h2
      obtain ⟨l, hl, hw2⟩ := List.mem_flatMap.mp hw
      unfold nxs at hw2
      obtain ⟨s, hs, rfl⟩ := List.mem_map.mp hw2
      obtain ⟨hs1, hs2⟩ := List.mem_filter.mp hs
      have h3 := flv_p h1 l hl
      refine ⟨by simp [h3.1], fun i hi => ?_, hs2⟩
      rcases List.mem_append.mp hi with q | q
      · exact h3.2.1 i q
      · rw [List.mem_singleton.mp q]; exact List.mem_range.mp hs1
    · cases h2
theorem flv_le {M : Nat → Nat → Int} {n : Nat} {k : Nat} {L : List (List Nat)} (h : flv M n k = some L) : L.length ≤ 300 := by
  cases k with
  | zero => rw [flv] at h; cases h; decide
  | succ k =>
    rw [flv] at h
    obtain ⟨L0, h1, h2⟩ := Option.bind_eq_some_iff.mp h
    split at h2
    · cases h2; assumption
    · cases h2
/-- the rows of twelve are the words of L, of n letters each -/
def FR (f : Int → Int) (n : Int) (L : List (List Nat)) : Prop := ∀ i : Nat, i < L.length → wl (fun j => f (12 * (i : Int) + j)) n.toNat = L.getD i []
theorem FR.eq {f f' : Int → Int} {n : Int} {L : List (List Nat)} (h : FR f n L) (hf : ∀ j, f' j = f j) : FR f' n L := fun i hi => by rw [← h i hi]; exact wl_congr (fun k _ => hf _)
theorem getL_1 {L H : List (List Nat)} {i : Nat} (h : i < L.length) : (L ++ H).getD i [] = L.getD i [] := by
  rw [List.getD_eq_getElem?_getD, List.getD_eq_getElem?_getD, List.getElem?_append_left h]
theorem getL_2 {L : List (List Nat)} {w : List Nat} : (L ++ [w]).getD L.length [] = w := by
  rw [List.getD_eq_getElem?_getD, List.getElem?_append_right (Nat.le_refl _), Nat.sub_self]
  rfl
theorem FR.add {f : Int → Int} {n : Int} {L : List (List Nat)} {w : List Nat} {m : Int} (h : FR f n L) (hm : (L.length : Int) = m) (hw : wl (fun j => f (12 * m + j)) n.toNat = w) : FR f n (L ++ [w]) := fun i hi => by
  simp only [List.length_append, List.length_cons, List.length_nil] at hi
  by_cases e : i < L.length
  · rw [getL_1 e]; exact h i e
  · have e2 : i = L.length := by omega
    subst e2
    rw [getL_2, hm, hw]
def fForms (M : Nat → Nat → Int) (n : Nat) (a : Int) : Int := if 0 ≤ a ∧ a ≤ 12 then (match flv M n a.toNat with
  | none => -3
  | some L => (L.length : Int)) else -1
def fNext (M : Nat → Nat → Int) (n : Nat) (a b c : Int) (w : wS) : Int × wS := if (0 ≤ c ∧ c < 8) ∧ (0 ≤ a ∧ a ≤ 12) then (match flv M n a.toNat with
  | none => (-1, w)
  | some L => if 0 ≤ b ∧ b < L.length then fStore c w (some (L.getD b.toNat [])) else (-1, w)) else (-1, w)
section FX'
variable {M : Nat → Nat → Int} {n : Nat} {a b c : Int} {w : wS} {L : List (List Nat)}
theorem fForms_n (h : 0 ≤ a ∧ a ≤ 12) (h2 : flv M n a.toNat = none) : fForms M n a = -3 := by unfold fForms; rw [if_pos h, h2]
theorem fForms_s (h : 0 ≤ a ∧ a ≤ 12) (h2 : flv M n a.toNat = some L) : fForms M n a = L.length := by unfold fForms; rw [if_pos h, h2]
theorem fForms_b (h : ¬ (0 ≤ a ∧ a ≤ 12)) : fForms M n a = -1 := by unfold fForms; rw [if_neg h]
theorem fNext_b (h : ¬ ((0 ≤ c ∧ c < 8) ∧ (0 ≤ a ∧ a ≤ 12))) : fNext M n a b c w = (-1, w) := by unfold fNext; rw [if_neg h]
theorem fNext_n (h : (0 ≤ c ∧ c < 8) ∧ (0 ≤ a ∧ a ≤ 12)) (h2 : flv M n a.toNat = none) : fNext M n a b c w = (-1, w) := by unfold fNext; rw [if_pos h, h2]
theorem fNext_s (h : (0 ≤ c ∧ c < 8) ∧ (0 ≤ a ∧ a ≤ 12)) (h2 : flv M n a.toNat = some L) (h3 : 0 ≤ b ∧ b < L.length) : fNext M n a b c w = fStore c w (some (L.getD b.toNat [])) := by unfold fNext; rw [if_pos h, h2]; exact if_pos h3
theorem fNext_o (h : (0 ≤ c ∧ c < 8) ∧ (0 ≤ a ∧ a ≤ 12)) (h2 : flv M n a.toNat = some L) (h3 : ¬ (0 ≤ b ∧ b < L.length)) : fNext M n a b c w = (-1, w) := by unfold fNext; rw [if_pos h, h2]; exact if_neg h3
end FX'
def okW (M : Nat → Nat → Int) (n : Nat) (W F : List Nat) : Prop := ∃ R, shoP M n [] W = some R ∧ R.length = W.length ∧ foP M n R = some F
def flE (M : Nat → Nat → Int) (n : Nat) (a : Int) (f : Int → Int) (m : Int) : Prop := ∃ L, flv M n a.toNat = some L ∧ (L.length : Int) = m ∧ FR f a L
theorem tn_lt {i x : Int} {m : Nat} (h0 : 0 ≤ i) (h1 : i < x) (h : (m : Int) = x) : i.toNat < m := by omega
theorem tn_s {s : Int} (h0 : 0 ≤ s) : (s + 1).toNat = s.toNat + 1 := by omega
theorem rn_c {S W : wSt} (h : W 30 0 0 = S 30 0 0) (h2 : 0 ≤ S 30 0 0) : (rn S : Int) = W 30 0 0 := by unfold rn; omega
theorem mo_l {A AC : List (List Nat)} {m : Int} {X : Nat} (h : A.length < X) (hA : AC = A) (hl : (AC.length : Int) = m) (hm : m = 300) : 300 < X := by
  subst hA
  omega
theorem s_up {x y s : Int} (e : x = y) (h : ¬ x ≤ s) : s + 1 ≤ y := by omega
theorem s_lt {x y s : Int} (e : x = y) (h : ¬ x ≤ s) : s < y := by omega
theorem m_up {a s : Int} {n : Nat} (h : a - s < ((n + 1 : Nat) : Int)) : a - (s + 1) < (n : Int) := by omega
theorem flE_0 {M : Nat → Nat → Int} {n : Nat} {f : Int → Int} {m : Int} (h : m = 1) : flE M n 0 f m := ⟨[[]], rfl, by rw [h]; rfl, fun i hi => by
  have hi0 : i = 0 := by
    simp only [List.length_cons, List.length_nil] at hi
    omega
  rw [hi0]
  rfl⟩
def FNX (L : List (List Nat)) (f : Int → Int) (a b : Int) (M : Nat → Nat → Int) (n : Nat) : Prop := flv M n a.toNat = some L ∧ (0 ≤ b ∧ b < L.length) ∧ FR f a L
theorem FNX.eq {L : List (List Nat)} {f f' : Int → Int} {a b : Int} {M : Nat → Nat → Int} {n : Nat} (h : FNX L f a b M n) (hf : ∀ j, f' j = f j) : FNX L f' a b M n := ⟨h.1, h.2.1, h.2.2.eq hf⟩
end
section
set_option maxHeartbeats 4000000 in
set_option maxRecDepth 100000 in
theorem f_X8_isForm {g : wG} (hD : wD g) {S : wSt} (hRS : RI S) (hw : WV (S 53 0) (S 30 0 14) (S 30 0 0)) (m0 : 0 ≤ S 30 0 14) (m1 : S 30 0 14 ≤ 200) (l : Launch) : Kt l yX8_isForm wsX8_isForm ({ frames := 4, cells := 0, slots := 0, locals := 93 } : Room) g S [vr g 30 0] (pI (fun r S' => Fr fI S S' ∧ ((r = 0 ∧ isFb (rM S) (rn S) (rW S) = false) ∨ (r = 1 ∧ isFb (rM S) (rn S) (rW S) = true)))) := by
  refine Kt.of (cc := cX8_isForm) (nL := 3) (ret := (some .boolean)) (own := RX8) rfl hD (by decide) rfl (Nat.le_of_ble_eq_true rfl) ⟨rfl, rfl⟩ ?_
  intro E hC hR9
  have f57 : Cond.fieldLink RX8 57 "MirrorBenchModel" "wMany" "I" ∈ wsX8_isForm := by decide +kernel
  have f60 : Cond.fieldLink RX8 60 "MirrorBenchModel" "w" "[I" ∈ wsX8_isForm := by decide +kernel
  have f92 : Cond.fieldLink RX8 92 "MirrorBenchModel" "rMany" "I" ∈ wsX8_isForm := by decide +kernel
  have f110 : Cond.fieldLink RX8 110 "MirrorBenchModel" "fMany" "I" ∈ wsX8_isForm := by decide +kernel
  have f116 : Cond.fieldLink RX8 116 "MirrorBenchModel" "f" "[I" ∈ wsX8_isForm := by decide +kernel
  have w8 : ∀ w ∈ wsX80, w ∈ wsX8_isForm := by decide +kernel
  show Wk E g 3 S 0 [(0, vr g 30 0)] []
  have hfS : Fr fI S S := Fr.rfl _ S
  have hRS := hRS.fr (hfS.mono (fun k i j h => by unfold fI at h; unfold tR; omega))
  have hnS := hRS.n
  have enS : S 30 0 0 = S 30 0 0 := hfS 30 0 0 (by unfold fI; omega)
  have eNS : rn S = rn S := rn_eq enS
  have eMS : rM S = rM S := rM_eq enS (fun j => hfS 42 0 j (by unfold fI; omega))
  refine kw_aload_n hC dX8_isForm_0 rfl 0 rfl ?_
  refine kw_callV hC (f_X8_shortOf hD hRS hw m0 m1) gX8_isForm_X8_shortOf ⟨_, rfl⟩ rfl (by decide) (by decide) rfl ⟨rfl, rfl⟩ 0 (by decide +kernel) ⟨by decide, by decide⟩ rfl rfl (Nat.le_of_ble_eq_true rfl) dX8_isForm_1 rfl (kd_i (fun r1 S1 hp1 => ?_))
  obtain ⟨hg1, hp1⟩ := hp1
  have hfS1 : Fr fI S S1 := hfS.trans (hg1.mono (fun k i j h => by unfold fS at h; unfold fI; omega))
  have hRS1 := hRS.fr (hfS1.mono (fun k i j h => by unfold fI at h; unfold tR; omega))
  have hnS1 := hRS1.n
  have enS1 : S1 30 0 0 = S 30 0 0 := hfS1 30 0 0 (by unfold fI; omega)
  have eNS1 : rn S1 = rn S := rn_eq enS1
  have eMS1 : rM S1 = rM S := rM_eq enS1 (fun j => hfS1 42 0 j (by unfold fI; omega))
  obtain ⟨⟨r0, r1⟩, hrv, hA⟩ := hp1
  replace hrv : WV (S1 47 0) (S1 30 0 8) (S1 30 0 0) := hrv.eq (fun _ _ _ => rfl) rfl (by omega)
  have e14_1 : S1 30 0 14 = S 30 0 14 := hg1 30 0 14 (by unfold fS; omega)
  have eW1 : rW S1 = rW S := wl_eq e14_1 (fun j _ _ => hg1 53 0 j (by unfold fS; omega))
  have hlR : ((rR S1).length : Int) = S1 30 0 8 := by unfold rR; rw [wl_len]; omega
  have hlW : ((rW S).length : Int) = S 30 0 14 := by unfold rW; rw [wl_len]; omega
  refine kw_if_eq (tgt := 40) hC dX8_isForm_4 rfl (by decide) (by omega) ⟨fun c4 => ?_, fun c4 => ?_⟩
  · have hF0 : isFb (rM S) (rn S) (rW S) = false := isFb_f1 (hA.resolve_right (fun z => by omega)).2.2
    refine kw_iconst hC dX8_isForm_40 rfl ?_
    refine kw_istore_n (lv' := [(1, _), (0, _)]) hC dX8_isForm_41 rfl (by decide) rfl ?_
    refine kw_iconst hC dX8_isForm_42 rfl ?_
    refine kw_istore_n (lv' := [(2, _), (1, _), (0, _)]) hC dX8_isForm_43 rfl (by decide) rfl ?_
    have hL44 : ∀ (n44 : Nat) (k : Int) (z : Int), (0 ≤ k) → (z = 0 ∨ z = 1) → (k ≤ S1 30 0 14) → (rW S1 = rW S) → (z = 0 → isFb (rM S) (rn S) (rW S) = false) → (z = 1 → WV (S1 49 0) (S1 30 0 14) (S 30 0 0) ∧ S1 30 0 10 = S1 30 0 14 ∧ okW (rM S) (rn S) (rW S) (rF S1) ∧ ∀ j, 0 ≤ j → j < k → S1 49 0 j = S1 53 0 j) → S1 30 0 14 - k < (n44 : Int) → Wk E g 3 S1 44 [(0, vr g 30 0), (1, vi z), (2, vi k)] [] := by
      intro n44
      induction n44 with
      | zero => intro k z k0 hz k1 hWc hz0 hz1 hm44; exact absurd hm44 (by omega)
      | succ n44 ih44 =>
        intro k z k0 hz k1 hWc hz0 hz1 hm44
        refine kw_iload_n hC dX8_isForm_44 rfl 2 rfl ?_
        refine kw_aload_n hC dX8_isForm_45 rfl 0 rfl ?_
        refine kg_30_14 hC w8 f57 dX8_isForm_46 rfl (by decide) (by decide) ?_
        refine kw_icmp_ge (tgt := 83) hC dX8_isForm_49 rfl (by decide) (by omega) (by omega) ⟨fun c49 => ?_, fun c49 => ?_⟩
        · refine kw_iload_n hC dX8_isForm_83 rfl 1 rfl ?_
          exact hR9.2.1 rfl _ _ _ _ dX8_isForm_84 (by omega) ⟨_, rfl, hfS1, by rcases hz with h9 | h9; exact Or.inl ⟨h9, hz0 h9⟩; exact Or.inr ⟨h9, by first | (exfalso; omega) | (obtain ⟨u1, u2, ⟨R, u3, u4, u5⟩, u6⟩ := hz1 h9; exact isFb_t u3 u4 (by rw [u5, ← hWc]; congr 1; exact wl_eq (by omega) (fun j j0 j1 => u6 j j0 (by omega))))⟩⟩
        · refine kw_iload_n hC dX8_isForm_52 rfl 1 rfl ?_
          refine kw_if_eq (tgt := 83) hC dX8_isForm_53 rfl (by decide) (by omega) ⟨fun c53 => ?_, fun c53 => ?_⟩
          · refine kw_iload_n hC dX8_isForm_83 rfl 1 rfl ?_
            exact hR9.2.1 rfl _ _ _ _ dX8_isForm_84 (by omega) ⟨_, rfl, hfS1, by rcases hz with h9 | h9; exact Or.inl ⟨h9, hz0 h9⟩; exact Or.inr ⟨h9, by first | (exfalso; omega) | (obtain ⟨u1, u2, ⟨R, u3, u4, u5⟩, u6⟩ := hz1 h9; exact isFb_t u3 u4 (by rw [u5, ← hWc]; congr 1; exact wl_eq (by omega) (fun j j0 j1 => u6 j j0 (by omega))))⟩⟩
          · obtain ⟨u1, u2, u3, u6⟩ := hz1 (by omega)
            refine kw_aload_n hC dX8_isForm_56 rfl 0 rfl ?_
            refine kg_30_9 hC w8 f116 dX8_isForm_57 rfl (by decide) (by decide) ?_
            refine kw_iload_n hC dX8_isForm_60 rfl 2 rfl ?_
            refine ka_49 hC dX8_isForm_61 rfl (by decide) (by decide) (by omega) (by omega) ?_
            have hfx := u1 k (by omega) (by omega)
            refine kw_aload_n hC dX8_isForm_62 rfl 0 rfl ?_
            refine kg_30_13 hC w8 f60 dX8_isForm_63 rfl (by decide) (by decide) ?_
            refine kw_iload_n hC dX8_isForm_66 rfl 2 rfl ?_
            refine ka_53 hC dX8_isForm_67 rfl (by decide) (by decide) (by omega) (by omega) ?_
            have hwx : 0 ≤ S1 53 0 k ∧ S1 53 0 k < S 30 0 0 := by rw [hfS1 53 0 k (by unfold fI; omega)]; exact hw k (by omega) (by omega)
            refine kw_icmp_ne (tgt := 75) hC dX8_isForm_68 rfl (by decide) (by omega) (by omega) ⟨fun c68 => ?_, fun c68 => ?_⟩
            · have hFF : isFb (rM S) (rn S) (rW S) = false := by obtain ⟨R, v3, v4, v5⟩ := u3; exact isFb_f3 v3 (by rw [v5]; exact fun q9 => (by have h9 := congrArg (fun l => List.getD l k.toNat 0) ((Option.some.inj q9).trans hWc.symm); simp only [rF, rW] at h9; rw [wl_get _ (by omega), wl_get _ (by omega), Int.toNat_of_nonneg k0] at h9; omega))
              refine kw_iconst hC dX8_isForm_75 rfl ?_
              refine kw_istore_n (lv' := [(1, _), (0, _), (2, _)]) hC dX8_isForm_76 rfl (by decide) rfl ?_
              refine kw_iinc (lv' := [(2, _), (1, _), (0, _)]) hC dX8_isForm_77 rfl 2 rfl (by decide) rfl ?_
              refine kw_goto (tgt := 44) hC dX8_isForm_80 rfl (by decide) ?_
              refine kw_lv [2, 1, 0] rfl ?_
              exact ih44 (k + 1) _ (by omega) (by omega) (by omega) hWc (fun q => by first | (exfalso; omega) | exact hFF) (fun q => by first | (exfalso; omega) | exact ⟨u1, u2, u3, fun j j0 j1 => by rcases Decidable.em (j = k) with e | e; exact (by rw [e]; omega); exact u6 j j0 (by omega)⟩) (by omega)
            · refine kw_iconst hC dX8_isForm_71 rfl ?_
              refine kw_goto (tgt := 76) hC dX8_isForm_72 rfl (by decide) ?_
              refine kw_istore_n (lv' := [(1, _), (0, _), (2, _)]) hC dX8_isForm_76 rfl (by decide) rfl ?_
              refine kw_iinc (lv' := [(2, _), (1, _), (0, _)]) hC dX8_isForm_77 rfl 2 rfl (by decide) rfl ?_
              refine kw_goto (tgt := 44) hC dX8_isForm_80 rfl (by decide) ?_
              refine kw_lv [2, 1, 0] rfl ?_
              exact ih44 (k + 1) _ (by omega) (by omega) (by omega) hWc (fun q => by first | (exfalso; omega) | exact hFF) (fun q => by first | (exfalso; omega) | exact ⟨u1, u2, u3, fun j j0 j1 => by rcases Decidable.em (j = k) with e | e; exact (by rw [e]; omega); exact u6 j j0 (by omega)⟩) (by omega)
    refine kw_lv [2, 1, 0] rfl ?_
    exact hL44 201 0 _ (by omega) (by omega) (by omega) eW1 (fun q => by first | (exfalso; omega) | exact hF0) (fun q => by first | (exfalso; omega) | exact ⟨hfv.eq (fun _ _ _ => rfl) (by omega) (by omega), by omega, ⟨_, hA9.2.2, by omega, hB9.2.2⟩, fun j _ _ => by omega⟩) (by omega)
  · have hA9 := hA.resolve_left (fun z => by omega)
    refine kw_aload_n hC dX8_isForm_7 rfl 0 rfl ?_
    refine kg_30_8 hC w8 f92 dX8_isForm_8 rfl (by decide) (by decide) ?_
    refine kw_aload_n hC dX8_isForm_11 rfl 0 rfl ?_
    refine kg_30_14 hC w8 f57 dX8_isForm_12 rfl (by decide) (by decide) ?_
    refine kw_icmp_ne (tgt := 40) hC dX8_isForm_15 rfl (by decide) (by omega) (by omega) ⟨fun c15 => ?_, fun c15 => ?_⟩
    · have hF0 : isFb (rM S) (rn S) (rW S) = false := isFb_f2 hA9.2.2 (fun q9 => by omega)
      refine kw_iconst hC dX8_isForm_40 rfl ?_
      refine kw_istore_n (lv' := [(1, _), (0, _)]) hC dX8_isForm_41 rfl (by decide) rfl ?_
      refine kw_iconst hC dX8_isForm_42 rfl ?_
      refine kw_istore_n (lv' := [(2, _), (1, _), (0, _)]) hC dX8_isForm_43 rfl (by decide) rfl ?_
      have hL44 : ∀ (n44 : Nat) (k : Int) (z : Int), (0 ≤ k) → (z = 0 ∨ z = 1) → (k ≤ S1 30 0 14) → (rW S1 = rW S) → (z = 0 → isFb (rM S) (rn S) (rW S) = false) → (z = 1 → WV (S1 49 0) (S1 30 0 14) (S 30 0 0) ∧ S1 30 0 10 = S1 30 0 14 ∧ okW (rM S) (rn S) (rW S) (rF S1) ∧ ∀ j, 0 ≤ j → j < k → S1 49 0 j = S1 53 0 j) → S1 30 0 14 - k < (n44 : Int) → Wk E g 3 S1 44 [(0, vr g 30 0), (1, vi z), (2, vi k)] [] := by
        intro n44
        induction n44 with
        | zero => intro k z k0 hz k1 hWc hz0 hz1 hm44; exact absurd hm44 (by omega)
        | succ n44 ih44 =>
          intro k z k0 hz k1 hWc hz0 hz1 hm44
          refine kw_iload_n hC dX8_isForm_44 rfl 2 rfl ?_
          refine kw_aload_n hC dX8_isForm_45 rfl 0 rfl ?_
          refine kg_30_14 hC w8 f57 dX8_isForm_46 rfl (by decide) (by decide) ?_
          refine kw_icmp_ge (tgt := 83) hC dX8_isForm_49 rfl (by decide) (by omega) (by omega) ⟨fun c49 => ?_, fun c49 => ?_⟩
          · refine kw_iload_n hC dX8_isForm_83 rfl 1 rfl ?_
            exact hR9.2.1 rfl _ _ _ _ dX8_isForm_84 (by omega) ⟨_, rfl, hfS1, by rcases hz with h9 | h9; exact Or.inl ⟨h9, hz0 h9⟩; exact Or.inr ⟨h9, by first | (exfalso; omega) | (obtain ⟨u1, u2, ⟨R, u3, u4, u5⟩, u6⟩ := hz1 h9; exact isFb_t u3 u4 (by rw [u5, ← hWc]; congr 1; exact wl_eq (by omega) (fun j j0 j1 => u6 j j0 (by omega))))⟩⟩
          · refine kw_iload_n hC dX8_isForm_52 rfl 1 rfl ?_
            refine kw_if_eq (tgt := 83) hC dX8_isForm_53 rfl (by decide) (by omega) ⟨fun c53 => ?_, fun c53 => ?_⟩
            · refine kw_iload_n hC dX8_isForm_83 rfl 1 rfl ?_
              exact hR9.2.1 rfl _ _ _ _ dX8_isForm_84 (by omega) ⟨_, rfl, hfS1, by rcases hz with h9 | h9; exact Or.inl ⟨h9, hz0 h9⟩; exact Or.inr ⟨h9, by first | (exfalso; omega) | (obtain ⟨u1, u2, ⟨R, u3, u4, u5⟩, u6⟩ := hz1 h9; exact isFb_t u3 u4 (by rw [u5, ← hWc]; congr 1; exact wl_eq (by omega) (fun j j0 j1 => u6 j j0 (by omega))))⟩⟩
            · obtain ⟨u1, u2, u3, u6⟩ := hz1 (by omega)
              refine kw_aload_n hC dX8_isForm_56 rfl 0 rfl ?_
              refine kg_30_9 hC w8 f116 dX8_isForm_57 rfl (by decide) (by decide) ?_
              refine kw_iload_n hC dX8_isForm_60 rfl 2 rfl ?_
              refine ka_49 hC dX8_isForm_61 rfl (by decide) (by decide) (by omega) (by omega) ?_
              have hfx := u1 k (by omega) (by omega)
              refine kw_aload_n hC dX8_isForm_62 rfl 0 rfl ?_
              refine kg_30_13 hC w8 f60 dX8_isForm_63 rfl (by decide) (by decide) ?_
              refine kw_iload_n hC dX8_isForm_66 rfl 2 rfl ?_
              refine ka_53 hC dX8_isForm_67 rfl (by decide) (by decide) (by omega) (by omega) ?_
              have hwx : 0 ≤ S1 53 0 k ∧ S1 53 0 k < S 30 0 0 := by rw [hfS1 53 0 k (by unfold fI; omega)]; exact hw k (by omega) (by omega)
              refine kw_icmp_ne (tgt := 75) hC dX8_isForm_68 rfl (by decide) (by omega) (by omega) ⟨fun c68 => ?_, fun c68 => ?_⟩
              · have hFF : isFb (rM S) (rn S) (rW S) = false := by obtain ⟨R, v3, v4, v5⟩ := u3; exact isFb_f3 v3 (by rw [v5]; exact fun q9 => (by have h9 := congrArg (fun l => List.getD l k.toNat 0) ((Option.some.inj q9).trans hWc.symm); simp only [rF, rW] at h9; rw [wl_get _ (by omega), wl_get _ (by omega), Int.toNat_of_nonneg k0] at h9; omega))
                refine kw_iconst hC dX8_isForm_75 rfl ?_
                refine kw_istore_n (lv' := [(1, _), (0, _), (2, _)]) hC dX8_isForm_76 rfl (by decide) rfl ?_
                refine kw_iinc (lv' := [(2, _), (1, _), (0, _)]) hC dX8_isForm_77 rfl 2 rfl (by decide) rfl ?_
                refine kw_goto (tgt := 44) hC dX8_isForm_80 rfl (by decide) ?_
                refine kw_lv [2, 1, 0] rfl ?_
                exact ih44 (k + 1) _ (by omega) (by omega) (by omega) hWc (fun q => by first | (exfalso; omega) | exact hFF) (fun q => by first | (exfalso; omega) | exact ⟨u1, u2, u3, fun j j0 j1 => by rcases Decidable.em (j = k) with e | e; exact (by rw [e]; omega); exact u6 j j0 (by omega)⟩) (by omega)
              · refine kw_iconst hC dX8_isForm_71 rfl ?_
                refine kw_goto (tgt := 76) hC dX8_isForm_72 rfl (by decide) ?_
                refine kw_istore_n (lv' := [(1, _), (0, _), (2, _)]) hC dX8_isForm_76 rfl (by decide) rfl ?_
                refine kw_iinc (lv' := [(2, _), (1, _), (0, _)]) hC dX8_isForm_77 rfl 2 rfl (by decide) rfl ?_
                refine kw_goto (tgt := 44) hC dX8_isForm_80 rfl (by decide) ?_
                refine kw_lv [2, 1, 0] rfl ?_
                exact ih44 (k + 1) _ (by omega) (by omega) (by omega) hWc (fun q => by first | (exfalso; omega) | exact hFF) (fun q => by first | (exfalso; omega) | exact ⟨u1, u2, u3, fun j j0 j1 => by rcases Decidable.em (j = k) with e | e; exact (by rw [e]; omega); exact u6 j j0 (by omega)⟩) (by omega)
      refine kw_lv [2, 1, 0] rfl ?_
      exact hL44 201 0 _ (by omega) (by omega) (by omega) eW1 (fun q => by first | (exfalso; omega) | exact hF0) (fun q => by first | (exfalso; omega) | exact ⟨hfv.eq (fun _ _ _ => rfl) (by omega) (by omega), by omega, ⟨_, hA9.2.2, by omega, hB9.2.2⟩, fun j _ _ => by omega⟩) (by omega)
    · refine kw_aload_n hC dX8_isForm_18 rfl 0 rfl ?_
      refine kw_callV hC (f_X8_formOfR hD hRS1 hrv (by omega) (by omega)) gX8_isForm_X8_formOfR ⟨_, rfl⟩ rfl (by decide) (by decide) rfl ⟨rfl, rfl⟩ 0 (by decide +kernel) ⟨by decide, by decide⟩ rfl rfl (Nat.le_of_ble_eq_true rfl) dX8_isForm_19 rfl (kd_i (fun r10 S10 hp10 => ?_))
      obtain ⟨hg10, hp10⟩ := hp10
      have hfS10 : Fr fI S S10 := hfS1.trans (hg10.mono (fun k i j h => by unfold fF at h; unfold fI; omega))
      have hRS10 := hRS.fr (hfS10.mono (fun k i j h => by unfold fI at h; unfold tR; omega))
      have hnS10 := hRS10.n
      have enS10 : S10 30 0 0 = S 30 0 0 := hfS10 30 0 0 (by unfold fI; omega)
      have eNS10 : rn S10 = rn S := rn_eq enS10
      have eMS10 : rM S10 = rM S := rM_eq enS10 (fun j => hfS10 42 0 j (by unfold fI; omega))
      obtain ⟨⟨f0, f1⟩, hfv, hB⟩ := hp10
      rw [eMS1, eNS1] at hB
      have e14_10 : S10 30 0 14 = S1 30 0 14 := hg10 30 0 14 (by unfold fF; omega)
      have eW1 : rW S10 = rW S := (wl_eq e14_10 (fun j _ _ => hg10 53 0 j (by unfold fF; omega))).trans eW1
      have hlF : ((rF S10).length : Int) = S10 30 0 10 := by unfold rF; rw [wl_len]; omega
      refine kw_if_eq (tgt := 40) hC dX8_isForm_22 rfl (by decide) (by omega) ⟨fun c22 => ?_, fun c22 => ?_⟩
      · have hF0 : isFb (rM S) (rn S) (rW S) = false := isFb_f3 hA9.2.2 (by rw [(hB.resolve_right (fun z => by omega)).2.2]; exact fun q9 => (by cases q9))
        refine kw_iconst hC dX8_isForm_40 rfl ?_
        refine kw_istore_n (lv' := [(1, _), (0, _)]) hC dX8_isForm_41 rfl (by decide) rfl ?_
        refine kw_iconst hC dX8_isForm_42 rfl ?_
        refine kw_istore_n (lv' := [(2, _), (1, _), (0, _)]) hC dX8_isForm_43 rfl (by decide) rfl ?_
        have hL44 : ∀ (n44 : Nat) (k : Int) (z : Int), (0 ≤ k) → (z = 0 ∨ z = 1) → (k ≤ S10 30 0 14) → (rW S10 = rW S) → (z = 0 → isFb (rM S) (rn S) (rW S) = false) → (z = 1 → WV (S10 49 0) (S10 30 0 14) (S 30 0 0) ∧ S10 30 0 10 = S10 30 0 14 ∧ okW (rM S) (rn S) (rW S) (rF S10) ∧ ∀ j, 0 ≤ j → j < k → S10 49 0 j = S10 53 0 j) → S10 30 0 14 - k < (n44 : Int) → Wk E g 3 S10 44 [(0, vr g 30 0), (1, vi z), (2, vi k)] [] := by
          intro n44
          induction n44 with
          | zero => intro k z k0 hz k1 hWc hz0 hz1 hm44; exact absurd hm44 (by omega)
          | succ n44 ih44 =>
            intro k z k0 hz k1 hWc hz0 hz1 hm44
            refine kw_iload_n hC dX8_isForm_44 rfl 2 rfl ?_
            refine kw_aload_n hC dX8_isForm_45 rfl 0 rfl ?_
            refine kg_30_14 hC w8 f57 dX8_isForm_46 rfl (by decide) (by decide) ?_
            refine kw_icmp_ge (tgt := 83) hC dX8_isForm_49 rfl (by decide) (by omega) (by omega) ⟨fun c49 => ?_, fun c49 => ?_⟩
            · refine kw_iload_n hC dX8_isForm_83 rfl 1 rfl ?_
              exact hR9.2.1 rfl _ _ _ _ dX8_isForm_84 (by omega) ⟨_, rfl, hfS10, by rcases hz with h9 | h9; exact Or.inl ⟨h9, hz0 h9⟩; exact Or.inr ⟨h9, by first | (exfalso; omega) | (obtain ⟨u1, u2, ⟨R, u3, u4, u5⟩, u6⟩ := hz1 h9; exact isFb_t u3 u4 (by rw [u5, ← hWc]; congr 1; exact wl_eq (by omega) (fun j j0 j1 => u6 j j0 (by omega))))⟩⟩
            · refine kw_iload_n hC dX8_isForm_52 rfl 1 rfl ?_
              refine kw_if_eq (tgt := 83) hC dX8_isForm_53 rfl (by decide) (by omega) ⟨fun c53 => ?_, fun c53 => ?_⟩
              · refine kw_iload_n hC dX8_isForm_83 rfl 1 rfl ?_
                exact hR9.2.1 rfl _ _ _ _ dX8_isForm_84 (by omega) ⟨_, rfl, hfS10, by rcases hz with h9 | h9; exact Or.inl ⟨h9, hz0 h9⟩; exact Or.inr ⟨h9, by first | (exfalso; omega) | (obtain ⟨u1, u2, ⟨R, u3, u4, u5⟩, u6⟩ := hz1 h9; exact isFb_t u3 u4 (by rw [u5, ← hWc]; congr 1; exact wl_eq (by omega) (fun j j0 j1 => u6 j j0 (by omega))))⟩⟩
              · obtain ⟨u1, u2, u3, u6⟩ := hz1 (by omega)
                refine kw_aload_n hC dX8_isForm_56 rfl 0 rfl ?_
                refine kg_30_9 hC w8 f116 dX8_isForm_57 rfl (by decide) (by decide) ?_
                refine kw_iload_n hC dX8_isForm_60 rfl 2 rfl ?_
                refine ka_49 hC dX8_isForm_61 rfl (by decide) (by decide) (by omega) (by omega) ?_
                have hfx := u1 k (by omega) (by omega)
                refine kw_aload_n hC dX8_isForm_62 rfl 0 rfl ?_
                refine kg_30_13 hC w8 f60 dX8_isForm_63 rfl (by decide) (by decide) ?_
                refine kw_iload_n hC dX8_isForm_66 rfl 2 rfl ?_
                refine ka_53 hC dX8_isForm_67 rfl (by decide) (by decide) (by omega) (by omega) ?_
                have hwx : 0 ≤ S10 53 0 k ∧ S10 53 0 k < S 30 0 0 := by rw [hfS10 53 0 k (by unfold fI; omega)]; exact hw k (by omega) (by omega)
                refine kw_icmp_ne (tgt := 75) hC dX8_isForm_68 rfl (by decide) (by omega) (by omega) ⟨fun c68 => ?_, fun c68 => ?_⟩
                · have hFF : isFb (rM S) (rn S) (rW S) = false := by obtain ⟨R, v3, v4, v5⟩ := u3; exact isFb_f3 v3 (by rw [v5]; exact fun q9 => (by have h9 := congrArg (fun l => List.getD l k.toNat 0) ((Option.some.inj q9).trans hWc.symm); simp only [rF, rW] at h9; rw [wl_get _ (by omega), wl_get _ (by omega), Int.toNat_of_nonneg k0] at h9; omega))
                  refine kw_iconst hC dX8_isForm_75 rfl ?_
                  refine kw_istore_n (lv' := [(1, _), (0, _), (2, _)]) hC dX8_isForm_76 rfl (by decide) rfl ?_
                  refine kw_iinc (lv' := [(2, _), (1, _), (0, _)]) hC dX8_isForm_77 rfl 2 rfl (by decide) rfl ?_
                  refine kw_goto (tgt := 44) hC dX8_isForm_80 rfl (by decide) ?_
                  refine kw_lv [2, 1, 0] rfl ?_
                  exact ih44 (k + 1) _ (by omega) (by omega) (by omega) hWc (fun q => by first | (exfalso; omega) | exact hFF) (fun q => by first | (exfalso; omega) | exact ⟨u1, u2, u3, fun j j0 j1 => by rcases Decidable.em (j = k) with e | e; exact (by rw [e]; omega); exact u6 j j0 (by omega)⟩) (by omega)
                · refine kw_iconst hC dX8_isForm_71 rfl ?_
                  refine kw_goto (tgt := 76) hC dX8_isForm_72 rfl (by decide) ?_
                  refine kw_istore_n (lv' := [(1, _), (0, _), (2, _)]) hC dX8_isForm_76 rfl (by decide) rfl ?_
                  refine kw_iinc (lv' := [(2, _), (1, _), (0, _)]) hC dX8_isForm_77 rfl 2 rfl (by decide) rfl ?_
                  refine kw_goto (tgt := 44) hC dX8_isForm_80 rfl (by decide) ?_
                  refine kw_lv [2, 1, 0] rfl ?_
                  exact ih44 (k + 1) _ (by omega) (by omega) (by omega) hWc (fun q => by first | (exfalso; omega) | exact hFF) (fun q => by first | (exfalso; omega) | exact ⟨u1, u2, u3, fun j j0 j1 => by rcases Decidable.em (j = k) with e | e; exact (by rw [e]; omega); exact u6 j j0 (by omega)⟩) (by omega)
        refine kw_lv [2, 1, 0] rfl ?_
        exact hL44 201 0 _ (by omega) (by omega) (by omega) eW1 (fun q => by first | (exfalso; omega) | exact hF0) (fun q => by first | (exfalso; omega) | exact ⟨hfv.eq (fun _ _ _ => rfl) (by omega) (by omega), by omega, ⟨_, hA9.2.2, by omega, hB9.2.2⟩, fun j _ _ => by omega⟩) (by omega)
      · have hB9 := hB.resolve_left (fun z => by omega)
        refine kw_aload_n hC dX8_isForm_25 rfl 0 rfl ?_
        refine kg_30_10 hC w8 f110 dX8_isForm_26 rfl (by decide) (by decide) ?_
        refine kw_aload_n hC dX8_isForm_29 rfl 0 rfl ?_
        refine kg_30_14 hC w8 f57 dX8_isForm_30 rfl (by decide) (by decide) ?_
        refine kw_icmp_ne (tgt := 40) hC dX8_isForm_33 rfl (by decide) (by omega) (by omega) ⟨fun c33 => ?_, fun c33 => ?_⟩
        · have hF0 : isFb (rM S) (rn S) (rW S) = false := isFb_f3 hA9.2.2 (by rw [hB9.2.2]; exact fun q9 => (by have h9 := congrArg List.length (Option.some.inj q9); omega))
          refine kw_iconst hC dX8_isForm_40 rfl ?_
          refine kw_istore_n (lv' := [(1, _), (0, _)]) hC dX8_isForm_41 rfl (by decide) rfl ?_
          refine kw_iconst hC dX8_isForm_42 rfl ?_
          refine kw_istore_n (lv' := [(2, _), (1, _), (0, _)]) hC dX8_isForm_43 rfl (by decide) rfl ?_
          have hL44 : ∀ (n44 : Nat) (k : Int) (z : Int), (0 ≤ k) → (z = 0 ∨ z = 1) → (k ≤ S10 30 0 14) → (rW S10 = rW S) → (z = 0 → isFb (rM S) (rn S) (rW S) = false) → (z = 1 → WV (S10 49 0) (S10 30 0 14) (S 30 0 0) ∧ S10 30 0 10 = S10 30 0 14 ∧ okW (rM S) (rn S) (rW S) (rF S10) ∧ ∀ j, 0 ≤ j → j < k → S10 49 0 j = S10 53 0 j) → S10 30 0 14 - k < (n44 : Int) → Wk E g 3 S10 44 [(0, vr g 30 0), (1, vi z), (2, vi k)] [] := by
            intro n44
            induction n44 with
            | zero => intro k z k0 hz k1 hWc hz0 hz1 hm44; exact absurd hm44 (by omega)
            | succ n44 ih44 =>
              intro k z k0 hz k1 hWc hz0 hz1 hm44
              refine kw_iload_n hC dX8_isForm_44 rfl 2 rfl ?_
              refine kw_aload_n hC dX8_isForm_45 rfl 0 rfl ?_
              refine kg_30_14 hC w8 f57 dX8_isForm_46 rfl (by decide) (by decide) ?_
              refine kw_icmp_ge (tgt := 83) hC dX8_isForm_49 rfl (by decide) (by omega) (by omega) ⟨fun c49 => ?_, fun c49 => ?_⟩
              · refine kw_iload_n hC dX8_isForm_83 rfl 1 rfl ?_
                exact hR9.2.1 rfl _ _ _ _ dX8_isForm_84 (by omega) ⟨_, rfl, hfS10, by rcases hz with h9 | h9; exact Or.inl ⟨h9, hz0 h9⟩; exact Or.inr ⟨h9, by first | (exfalso; omega) | (obtain ⟨u1, u2, ⟨R, u3, u4, u5⟩, u6⟩ := hz1 h9; exact isFb_t u3 u4 (by rw [u5, ← hWc]; congr 1; exact wl_eq (by omega) (fun j j0 j1 => u6 j j0 (by omega))))⟩⟩
              · refine kw_iload_n hC dX8_isForm_52 rfl 1 rfl ?_
                refine kw_if_eq (tgt := 83) hC dX8_isForm_53 rfl (by decide) (by omega) ⟨fun c53 => ?_, fun c53 => ?_⟩
                · refine kw_iload_n hC dX8_isForm_83 rfl 1 rfl ?_
                  exact hR9.2.1 rfl _ _ _ _ dX8_isForm_84 (by omega) ⟨_, rfl, hfS10, by rcases hz with h9 | h9; exact Or.inl ⟨h9, hz0 h9⟩; exact Or.inr ⟨h9, by first | (exfalso; omega) | (obtain ⟨u1, u2, ⟨R, u3, u4, u5⟩, u6⟩ := hz1 h9; exact isFb_t u3 u4 (by rw [u5, ← hWc]; congr 1; exact wl_eq (by omega) (fun j j0 j1 => u6 j j0 (by omega))))⟩⟩
                · obtain ⟨u1, u2, u3, u6⟩ := hz1 (by omega)
                  refine kw_aload_n hC dX8_isForm_56 rfl 0 rfl ?_
                  refine kg_30_9 hC w8 f116 dX8_isForm_57 rfl (by decide) (by decide) ?_
                  refine kw_iload_n hC dX8_isForm_60 rfl 2 rfl ?_
                  refine ka_49 hC dX8_isForm_61 rfl (by decide) (by decide) (by omega) (by omega) ?_
                  have hfx := u1 k (by omega) (by omega)
                  refine kw_aload_n hC dX8_isForm_62 rfl 0 rfl ?_
                  refine kg_30_13 hC w8 f60 dX8_isForm_63 rfl (by decide) (by decide) ?_
                  refine kw_iload_n hC dX8_isForm_66 rfl 2 rfl ?_
                  refine ka_53 hC dX8_isForm_67 rfl (by decide) (by decide) (by omega) (by omega) ?_
                  have hwx : 0 ≤ S10 53 0 k ∧ S10 53 0 k < S 30 0 0 := by rw [hfS10 53 0 k (by unfold fI; omega)]; exact hw k (by omega) (by omega)
                  refine kw_icmp_ne (tgt := 75) hC dX8_isForm_68 rfl (by decide) (by omega) (by omega) ⟨fun c68 => ?_, fun c68 => ?_⟩
                  · have hFF : isFb (rM S) (rn S) (rW S) = false := by obtain ⟨R, v3, v4, v5⟩ := u3; exact isFb_f3 v3 (by rw [v5]; exact fun q9 => (by have h9 := congrArg (fun l => List.getD l k.toNat 0) ((Option.some.inj q9).trans hWc.symm); simp only [rF, rW] at h9; rw [wl_get _ (by omega), wl_get _ (by omega), Int.toNat_of_nonneg k0] at h9; omega))
                    refine kw_iconst hC dX8_isForm_75 rfl ?_
                    refine kw_istore_n (lv' := [(1, _), (0, _), (2, _)]) hC dX8_isForm_76 rfl (by decide) rfl ?_
                    refine kw_iinc (lv' := [(2, _), (1, _), (0, _)]) hC dX8_isForm_77 rfl 2 rfl (by decide) rfl ?_
                    refine kw_goto (tgt := 44) hC dX8_isForm_80 rfl (by decide) ?_
                    refine kw_lv [2, 1, 0] rfl ?_
                    exact ih44 (k + 1) _ (by omega) (by omega) (by omega) hWc (fun q => by first | (exfalso; omega) | exact hFF) (fun q => by first | (exfalso; omega) | exact ⟨u1, u2, u3, fun j j0 j1 => by rcases Decidable.em (j = k) with e | e; exact (by rw [e]; omega); exact u6 j j0 (by omega)⟩) (by omega)
                  · refine kw_iconst hC dX8_isForm_71 rfl ?_
                    refine kw_goto (tgt := 76) hC dX8_isForm_72 rfl (by decide) ?_
                    refine kw_istore_n (lv' := [(1, _), (0, _), (2, _)]) hC dX8_isForm_76 rfl (by decide) rfl ?_
                    refine kw_iinc (lv' := [(2, _), (1, _), (0, _)]) hC dX8_isForm_77 rfl 2 rfl (by decide) rfl ?_
                    refine kw_goto (tgt := 44) hC dX8_isForm_80 rfl (by decide) ?_
                    refine kw_lv [2, 1, 0] rfl ?_
                    exact ih44 (k + 1) _ (by omega) (by omega) (by omega) hWc (fun q => by first | (exfalso; omega) | exact hFF) (fun q => by first | (exfalso; omega) | exact ⟨u1, u2, u3, fun j j0 j1 => by rcases Decidable.em (j = k) with e | e; exact (by rw [e]; omega); exact u6 j j0 (by omega)⟩) (by omega)
          refine kw_lv [2, 1, 0] rfl ?_
          exact hL44 201 0 _ (by omega) (by omega) (by omega) eW1 (fun q => by first | (exfalso; omega) | exact hF0) (fun q => by first | (exfalso; omega) | exact ⟨hfv.eq (fun _ _ _ => rfl) (by omega) (by omega), by omega, ⟨_, hA9.2.2, by omega, hB9.2.2⟩, fun j _ _ => by omega⟩) (by omega)
        · refine kw_iconst hC dX8_isForm_36 rfl ?_
          refine kw_goto (tgt := 41) hC dX8_isForm_37 rfl (by decide) ?_
          refine kw_istore_n (lv' := [(1, _), (0, _)]) hC dX8_isForm_41 rfl (by decide) rfl ?_
          refine kw_iconst hC dX8_isForm_42 rfl ?_
          refine kw_istore_n (lv' := [(2, _), (1, _), (0, _)]) hC dX8_isForm_43 rfl (by decide) rfl ?_
          have hL44 : ∀ (n44 : Nat) (k : Int) (z : Int), (0 ≤ k) → (z = 0 ∨ z = 1) → (k ≤ S10 30 0 14) → (rW S10 = rW S) → (z = 0 → isFb (rM S) (rn S) (rW S) = false) → (z = 1 → WV (S10 49 0) (S10 30 0 14) (S 30 0 0) ∧ S10 30 0 10 = S10 30 0 14 ∧ okW (rM S) (rn S) (rW S) (rF S10) ∧ ∀ j, 0 ≤ j → j < k → S10 49 0 j = S10 53 0 j) → S10 30 0 14 - k < (n44 : Int) → Wk E g 3 S10 44 [(0, vr g 30 0), (1, vi z), (2, vi k)] [] := by
            intro n44
            induction n44 with
            | zero => intro k z k0 hz k1 hWc hz0 hz1 hm44; exact absurd hm44 (by omega)
            | succ n44 ih44 =>
              intro k z k0 hz k1 hWc hz0 hz1 hm44
              refine kw_iload_n hC dX8_isForm_44 rfl 2 rfl ?_
              refine kw_aload_n hC dX8_isForm_45 rfl 0 rfl ?_
              refine kg_30_14 hC w8 f57 dX8_isForm_46 rfl (by decide) (by decide) ?_
              refine kw_icmp_ge (tgt := 83) hC dX8_isForm_49 rfl (by decide) (by omega) (by omega) ⟨fun c49 => ?_, fun c49 => ?_⟩
              · refine kw_iload_n hC dX8_isForm_83 rfl 1 rfl ?_
                exact hR9.2.1 rfl _ _ _ _ dX8_isForm_84 (by omega) ⟨_, rfl, hfS10, by rcases hz with h9 | h9; exact Or.inl ⟨h9, hz0 h9⟩; exact Or.inr ⟨h9, by first | (exfalso; omega) | (obtain ⟨u1, u2, ⟨R, u3, u4, u5⟩, u6⟩ := hz1 h9; exact isFb_t u3 u4 (by rw [u5, ← hWc]; congr 1; exact wl_eq (by omega) (fun j j0 j1 => u6 j j0 (by omega))))⟩⟩
              · refine kw_iload_n hC dX8_isForm_52 rfl 1 rfl ?_
                refine kw_if_eq (tgt := 83) hC dX8_isForm_53 rfl (by decide) (by omega) ⟨fun c53 => ?_, fun c53 => ?_⟩
                · refine kw_iload_n hC dX8_isForm_83 rfl 1 rfl ?_
                  exact hR9.2.1 rfl _ _ _ _ dX8_isForm_84 (by omega) ⟨_, rfl, hfS10, by rcases hz with h9 | h9; exact Or.inl ⟨h9, hz0 h9⟩; exact Or.inr ⟨h9, by first | (exfalso; omega) | (obtain ⟨u1, u2, ⟨R, u3, u4, u5⟩, u6⟩ := hz1 h9; exact isFb_t u3 u4 (by rw [u5, ← hWc]; congr 1; exact wl_eq (by omega) (fun j j0 j1 => u6 j j0 (by omega))))⟩⟩
                · obtain ⟨u1, u2, u3, u6⟩ := hz1 (by omega)
                  refine kw_aload_n hC dX8_isForm_56 rfl 0 rfl ?_
                  refine kg_30_9 hC w8 f116 dX8_isForm_57 rfl (by decide) (by decide) ?_
                  refine kw_iload_n hC dX8_isForm_60 rfl 2 rfl ?_
                  refine ka_49 hC dX8_isForm_61 rfl (by decide) (by decide) (by omega) (by omega) ?_
                  have hfx := u1 k (by omega) (by omega)
                  refine kw_aload_n hC dX8_isForm_62 rfl 0 rfl ?_
                  refine kg_30_13 hC w8 f60 dX8_isForm_63 rfl (by decide) (by decide) ?_
                  refine kw_iload_n hC dX8_isForm_66 rfl 2 rfl ?_
                  refine ka_53 hC dX8_isForm_67 rfl (by decide) (by decide) (by omega) (by omega) ?_
                  have hwx : 0 ≤ S10 53 0 k ∧ S10 53 0 k < S 30 0 0 := by rw [hfS10 53 0 k (by unfold fI; omega)]; exact hw k (by omega) (by omega)
                  refine kw_icmp_ne (tgt := 75) hC dX8_isForm_68 rfl (by decide) (by omega) (by omega) ⟨fun c68 => ?_, fun c68 => ?_⟩
                  · have hFF : isFb (rM S) (rn S) (rW S) = false := by obtain ⟨R, v3, v4, v5⟩ := u3; exact isFb_f3 v3 (by rw [v5]; exact fun q9 => (by have h9 := congrArg (fun l => List.getD l k.toNat 0) ((Option.some.inj q9).trans hWc.symm); simp only [rF, rW] at h9; rw [wl_get _ (by omega), wl_get _ (by omega), Int.toNat_of_nonneg k0] at h9; omega))
                    refine kw_iconst hC dX8_isForm_75 rfl ?_
                    refine kw_istore_n (lv' := [(1, _), (0, _), (2, _)]) hC dX8_isForm_76 rfl (by decide) rfl ?_
                    refine kw_iinc (lv' := [(2, _), (1, _), (0, _)]) hC dX8_isForm_77 rfl 2 rfl (by decide) rfl ?_
                    refine kw_goto (tgt := 44) hC dX8_isForm_80 rfl (by decide) ?_
                    refine kw_lv [2, 1, 0] rfl ?_
                    exact ih44 (k + 1) _ (by omega) (by omega) (by omega) hWc (fun q => by first | (exfalso; omega) | exact hFF) (fun q => by first | (exfalso; omega) | exact ⟨u1, u2, u3, fun j j0 j1 => by rcases Decidable.em (j = k) with e | e; exact (by rw [e]; omega); exact u6 j j0 (by omega)⟩) (by omega)
                  · refine kw_iconst hC dX8_isForm_71 rfl ?_
                    refine kw_goto (tgt := 76) hC dX8_isForm_72 rfl (by decide) ?_
                    refine kw_istore_n (lv' := [(1, _), (0, _), (2, _)]) hC dX8_isForm_76 rfl (by decide) rfl ?_
                    refine kw_iinc (lv' := [(2, _), (1, _), (0, _)]) hC dX8_isForm_77 rfl 2 rfl (by decide) rfl ?_
                    refine kw_goto (tgt := 44) hC dX8_isForm_80 rfl (by decide) ?_
                    refine kw_lv [2, 1, 0] rfl ?_
                    exact ih44 (k + 1) _ (by omega) (by omega) (by omega) hWc (fun q => by first | (exfalso; omega) | exact hFF) (fun q => by first | (exfalso; omega) | exact ⟨u1, u2, u3, fun j j0 j1 => by rcases Decidable.em (j = k) with e | e; exact (by rw [e]; omega); exact u6 j j0 (by omega)⟩) (by omega)
          refine kw_lv [2, 1, 0] rfl ?_
          exact hL44 201 0 _ (by omega) (by omega) (by omega) eW1 (fun q => by first | (exfalso; omega) | exact hF0) (fun q => by first | (exfalso; omega) | exact ⟨hfv.eq (fun _ _ _ => rfl) (by omega) (by omega), by omega, ⟨_, hA9.2.2, by omega, hB9.2.2⟩, fun j _ _ => by omega⟩) (by omega)

set_option maxHeartbeats 4000000 in
set_option maxRecDepth 100000 in
theorem f_X8_findForms {g : wG} (hD : wD g) {S : wSt} {a : Int} (a0 : 0 ≤ a) (a1 : a ≤ 12) (hRS : RI S) (l : Launch) : Kt l yX8_findForms wsX8_findForms ({ frames := 5, cells := 0, slots := 0, locals := 115 } : Room) g S [vr g 30 0, vi a] (pI (fun r S' => Fr fQ S S' ∧ ((0 ≤ S' 30 0 26 ∧ S' 30 0 26 ≤ 300) ∧ ((r = 0 ∧ flv (rM S) (rn S) a.toNat = none) ∨ (r = 1 ∧ FV (S' 65 0) (S' 30 0 26) a (S 30 0 0) ∧ flE (rM S) (rn S) a (S' 65 0) (S' 30 0 26)))))) := by
  refine Kt.of (cc := cX8_findForms) (nL := 7) (ret := (some .boolean)) (own := RX8) rfl hD (by decide) rfl (Nat.le_of_ble_eq_true rfl) ⟨rfl, rfl⟩ ?_
  intro E hC hR9
  have f11 : Cond.fieldLink RX8 11 "MirrorBenchModel" "mirrors" "I" ∈ wsX8_findForms := by decide +kernel
  have f57 : Cond.fieldLink RX8 57 "MirrorBenchModel" "wMany" "I" ∈ wsX8_findForms := by decide +kernel
  have f60 : Cond.fieldLink RX8 60 "MirrorBenchModel" "w" "[I" ∈ wsX8_findForms := by decide +kernel
  have f206 : Cond.fieldLink RX8 206 "MirrorBenchModel" "formMany" "I" ∈ wsX8_findForms := by decide +kernel
  have f209 : Cond.fieldLink RX8 209 "MirrorBenchModel" "forms" "[I" ∈ wsX8_findForms := by decide +kernel
  have f215 : Cond.fieldLink RX8 215 "MirrorBenchModel" "longer" "[I" ∈ wsX8_findForms := by decide +kernel
  have w8 : ∀ w ∈ wsX80, w ∈ wsX8_findForms := by decide +kernel
  show Wk E g 7 S 0 [(0, vr g 30 0), (1, vi a)] []
  have hfS : Fr fQ S S := Fr.rfl _ S
  have hRS := hRS.fr (hfS.mono (fun k i j h => by unfold fQ at h; unfold tR; omega))
  have hnS := hRS.n
  have enS : S 30 0 0 = S 30 0 0 := hfS 30 0 0 (by unfold fQ; omega)
  have eNS : rn S = rn S := rn_eq enS
  have eMS : rM S = rM S := rM_eq enS (fun j => hfS 42 0 j (by unfold fQ; omega))
  have hnS := hRS.n
  have hnn : (rn S : Int) = S 30 0 0 := by unfold rn; omega
  refine kw_aload_n hC dX8_findForms_0 rfl 0 rfl ?_
  refine kw_iconst hC dX8_findForms_1 rfl ?_
  refine kp_30_26 hC w8 f206 dX8_findForms_2 rfl (by decide) (by decide) ?_
  refine kw_hv hfS (by unfold fQ; omega) (fun S1 hfS1 hv1 ho1 => ?_)
  have hRS1 := hRS.fr (hfS1.mono (fun k i j h => by unfold fQ at h; unfold tR; omega))
  have hnS1 := hRS1.n
  have enS1 : S1 30 0 0 = S 30 0 0 := hfS1 30 0 0 (by unfold fQ; omega)
  have eNS1 : rn S1 = rn S := rn_eq enS1
  have eMS1 : rM S1 = rM S := rM_eq enS1 (fun j => hfS1 42 0 j (by unfold fQ; omega))
  refine kw_iconst hC dX8_findForms_5 rfl ?_
  refine kw_istore_n (lv' := [(2, _), (0, _), (1, _)]) hC dX8_findForms_6 rfl (by decide) rfl ?_
  have hL7 : ∀ (n7 : Nat) (n : Int) (W7 : wSt), Fr fQ S W7 → (0 ≤ n) → (n ≤ a) → (0 ≤ W7 30 0 26) → (W7 30 0 26 ≤ 300) → (FV (W7 65 0) (W7 30 0 26) n (S 30 0 0)) → (flE (rM S) (rn S) n (W7 65 0) (W7 30 0 26)) → a - n < (n7 : Int) → Wk E g 7 W7 7 [(0, vr g 30 0), (1, vi a), (2, vi n)] [] := by
    intro n7
    induction n7 with
    | zero => intro n W7 hfW7 n0 n1 m0 m1 hfm hE hm7; exact absurd hm7 (by omega)
    | succ n7 ih7 =>
      intro n W7 hfW7 n0 n1 m0 m1 hfm hE hm7
      have hRW7 := hRS.fr (hfW7.mono (fun k i j h => by unfold fQ at h; unfold tR; omega))
      have hnW7 := hRW7.n
      have enW7 : W7 30 0 0 = S 30 0 0 := hfW7 30 0 0 (by unfold fQ; omega)
      have eNW7 : rn W7 = rn S := rn_eq enW7
      have eMW7 : rM W7 = rM S := rM_eq enW7 (fun j => hfW7 42 0 j (by unfold fQ; omega))
      obtain ⟨LL, hLL, hLm, hRf⟩ := hE
      refine kw_iload_n hC dX8_findForms_7 rfl 2 rfl ?_
      refine kw_iload_n hC dX8_findForms_8 rfl 1 rfl ?_
      refine kw_icmp_ge (tgt := 196) hC dX8_findForms_9 rfl (by decide) (by omega) (by omega) ⟨fun c9 => ?_, fun c9 => ?_⟩
      · refine kw_iconst hC dX8_findForms_196 rfl ?_
        exact hR9.2.1 rfl _ _ _ _ dX8_findForms_197 (by omega) ⟨_, rfl, hfW7, ⟨by omega, by omega⟩, Or.inr ⟨rfl, by rw [show a = n by omega]; exact hfm, LL, by rw [show a = n by omega]; exact hLL, hLm, by rw [show a = n by omega]; exact hRf⟩⟩
      · refine kw_iconst hC dX8_findForms_12 rfl ?_
        refine kw_istore_n (lv' := [(3, _), (0, _), (1, _), (2, _)]) hC dX8_findForms_13 rfl (by decide) rfl ?_
        refine kw_iconst hC dX8_findForms_14 rfl ?_
        refine kw_istore (lv' := [(4, _), (3, _), (0, _), (1, _), (2, _)]) hC dX8_findForms_15 rfl (by decide) rfl ?_
        have hL17 : ∀ (n17 : Nat) (i : Int) (m : Int) (AC : List (List Nat)) (W17 : wSt), Fr fQ S W17 → (0 ≤ i) → (i ≤ 300) → (i ≤ W17 30 0 26) → (0 ≤ m) → (m ≤ 300) → (0 ≤ W17 30 0 26) → (W17 30 0 26 ≤ 300) → (FV (W17 65 0) (W17 30 0 26) n (S 30 0 0)) → (FR (W17 65 0) n LL) → ((LL.length : Int) = W17 30 0 26) → (FV (W17 67 0) m (n + 1) (S 30 0 0)) → (AC = nxL (rM S) (rn S) (LL.take i.toNat)) → ((AC.length : Int) = m) → (FR (W17 67 0) (n + 1) AC) → 300 - i < (n17 : Int) → Wk E g 7 W17 17 [(0, vr g 30 0), (1, vi a), (2, vi n), (3, vi m), (4, vi i)] [] := by
          intro n17
          induction n17 with
          | zero => intro i m AC W17 hfW17 i0 i1 i2 q0 q1 m0 m1 hfm hRf hLm hlg hAC hAl hRl hm17; exact absurd hm17 (by omega)
          | succ n17 ih17 =>
            intro i m AC W17 hfW17 i0 i1 i2 q0 q1 m0 m1 hfm hRf hLm hlg hAC hAl hRl hm17
            have hRW17 := hRS.fr (hfW17.mono (fun k i j h => by unfold fQ at h; unfold tR; omega))
            have hnW17 := hRW17.n
            have enW17 : W17 30 0 0 = S 30 0 0 := hfW17 30 0 0 (by unfold fQ; omega)
            have eNW17 : rn W17 = rn S := rn_eq enW17
            have eMW17 : rM W17 = rM S := rM_eq enW17 (fun j => hfW17 42 0 j (by unfold fQ; omega))
            refine kw_iload hC dX8_findForms_17 rfl 4 rfl ?_
            refine kw_aload_n hC dX8_findForms_19 rfl 0 rfl ?_
            refine kg_30_26 hC w8 f206 dX8_findForms_20 rfl (by decide) (by decide) ?_
            refine kw_icmp_ge (tgt := 153) hC dX8_findForms_23 rfl (by decide) (by omega) (by omega) ⟨fun c23 => ?_, fun c23 => ?_⟩
            · refine kw_iconst hC dX8_findForms_153 rfl ?_
              refine kw_istore (lv' := [(4, _), (0, _), (1, _), (2, _), (3, _)]) hC dX8_findForms_154 rfl (by decide) rfl ?_
              have hL156 : ∀ (n156 : Nat) (k : Int) (W156 : wSt), Fr fQ S W156 → (0 ≤ k) → (k ≤ 12 * m) → (∀ j, 0 ≤ j → j < k → W156 65 0 j = W156 67 0 j) → (0 ≤ W156 30 0 26) → (W156 30 0 26 ≤ 300) → (FV (W156 67 0) m (n + 1) (S 30 0 0)) → (FR (W156 67 0) (n + 1) AC) → 12 * m - k < (n156 : Int) → Wk E g 7 W156 156 [(0, vr g 30 0), (1, vi a), (2, vi n), (3, vi m), (4, vi k)] [] := by
                intro n156
                induction n156 with
                | zero => intro k W156 hfW156 k0 k1 hcp m0 m1 hlg hRl hm156; exact absurd hm156 (by omega)
                | succ n156 ih156 =>
                  intro k W156 hfW156 k0 k1 hcp m0 m1 hlg hRl hm156
                  have hRW156 := hRS.fr (hfW156.mono (fun k i j h => by unfold fQ at h; unfold tR; omega))
                  have hnW156 := hRW156.n
                  have enW156 : W156 30 0 0 = S 30 0 0 := hfW156 30 0 0 (by unfold fQ; omega)
                  have eNW156 : rn W156 = rn S := rn_eq enW156
                  have eMW156 : rM W156 = rM S := rM_eq enW156 (fun j => hfW156 42 0 j (by unfold fQ; omega))
                  refine kw_iload hC dX8_findForms_156 rfl 4 rfl ?_
                  refine kw_bipush hC dX8_findForms_158 rfl (by decide) ?_
                  refine kw_iload_n hC dX8_findForms_160 rfl 3 rfl ?_
                  refine kw_imul hC dX8_findForms_161 rfl ?_
                  refine kw_icmp_ge (tgt := 185) hC dX8_findForms_162 rfl (by decide) (by omega) (by omega) ⟨fun c162 => ?_, fun c162 => ?_⟩
                  · refine kw_aload_n hC dX8_findForms_185 rfl 0 rfl ?_
                    refine kw_iload_n hC dX8_findForms_186 rfl 3 rfl ?_
                    refine kp_30_26 hC w8 f206 dX8_findForms_187 rfl (by decide) (by decide) ?_
                    refine kw_hv hfW156 (by unfold fQ; omega) (fun S5 hfS5 hv5 ho5 => ?_)
                    have hRS5 := hRS.fr (hfS5.mono (fun k i j h => by unfold fQ at h; unfold tR; omega))
                    have hnS5 := hRS5.n
                    have enS5 : S5 30 0 0 = S 30 0 0 := hfS5 30 0 0 (by unfold fQ; omega)
                    have eNS5 : rn S5 = rn S := rn_eq enS5
                    have eMS5 : rM S5 = rM S := rM_eq enS5 (fun j => hfS5 42 0 j (by unfold fQ; omega))
                    have x26 := hv5
                    have hfm9 : FV (S5 65 0) (S5 30 0 26) (n + 1) (S 30 0 0) := fun p q p0 p1 u0 u1 => by rw [hv5] at p1; rw [ho5 65 0 _ (by omega), hcp _ (by omega) (by omega)]; exact hlg p q p0 p1 u0 u1
                    have htk : LL.take i.toNat = LL := List.take_of_length_le (by omega)
                    rw [htk] at hAC
                    rw [hAC] at hAl hRl
                    have hE9 : flE (rM S) (rn S) (n + 1) (S5 65 0) (S5 30 0 26) := ⟨_, by rw [show (n + 1).toNat = n.toNat + 1 by omega]; exact (flv_s hLL).1 (by omega), by omega, fun p hp => by rw [← hRl p hp]; exact wl_congr (fun q hq => by rw [ho5 65 0 _ (by omega)]; exact hcp _ (by omega) (by omega))⟩
                    refine kw_iinc (lv' := [(2, _), (0, _), (1, _), (3, _), (4, _)]) hC dX8_findForms_190 rfl 2 rfl (by decide) rfl ?_
                    refine kw_goto (tgt := 7) hC dX8_findForms_193 rfl (by decide) ?_
                    refine kw_lv [1, 2, 0] rfl ?_
                    exact ih7 (n + 1) S5 hfS5 (by omega) (by omega) (by omega) (by omega) hfm9 hE9 (by omega)
                  · refine kw_aload_n hC dX8_findForms_165 rfl 0 rfl ?_
                    refine kg_30_25 hC w8 f209 dX8_findForms_166 rfl (by decide) (by decide) ?_
                    refine kw_iload hC dX8_findForms_169 rfl 4 rfl ?_
                    refine kw_aload_n hC dX8_findForms_171 rfl 0 rfl ?_
                    refine kg_30_27 hC w8 f215 dX8_findForms_172 rfl (by decide) (by decide) ?_
                    refine kw_iload hC dX8_findForms_175 rfl 4 rfl ?_
                    refine ka_67 hC dX8_findForms_177 rfl (by decide) (by decide) (by omega) (by omega) ?_
                    refine ks_65 hC dX8_findForms_178 rfl (by decide) (by decide) (by omega) (by omega) ?_
                    refine kw_hv hfW156 (by unfold fQ; omega) (fun S6 hfS6 hv6 ho6 => ?_)
                    have hRS6 := hRS.fr (hfS6.mono (fun k i j h => by unfold fQ at h; unfold tR; omega))
                    have hnS6 := hRS6.n
                    have enS6 : S6 30 0 0 = S 30 0 0 := hfS6 30 0 0 (by unfold fQ; omega)
                    have eNS6 : rn S6 = rn S := rn_eq enS6
                    have eMS6 : rM S6 = rM S := rM_eq enS6 (fun j => hfS6 42 0 j (by unfold fQ; omega))
                    have e26_6 : S6 30 0 26 = W156 30 0 26 := ho6 30 0 26 (by omega)
                    replace hlg : FV (S6 67 0) m (n + 1) (S 30 0 0) := hlg.eq (fun j => ho6 67 0 j (by omega))
                    have hRl := hRl.eq (f' := S6 67 0) (fun j => ho6 67 0 j (by omega))
                    refine kw_iinc (lv' := [(4, _), (0, _), (1, _), (2, _), (3, _)]) hC dX8_findForms_179 rfl 4 rfl (by decide) rfl ?_
                    refine kw_goto (tgt := 156) hC dX8_findForms_182 rfl (by decide) ?_
                    refine kw_lv [1, 2, 3, 4, 0] rfl ?_
                    exact ih156 (k + 1) S6 hfS6 (by omega) (by omega) (fun j j0 j1 => by rw [ho6 67 0 j (by omega)]; rcases Decidable.em (j = k) with e | e; exact (by rw [e]; exact hv6); exact (ho6 65 0 j (by omega)).trans (hcp j j0 (by omega))) (by omega) (by omega) hlg hRl (by omega)
              refine kw_lv [1, 2, 3, 4, 0] rfl ?_
              exact hL156 3601 0 W17 hfW17 (by omega) (by omega) (fun j _ _ => by omega) (by omega) (by omega) hlg hRl (by omega)
            · refine kw_iconst hC dX8_findForms_26 rfl ?_
              refine kw_istore (lv' := [(5, _), (0, _), (1, _), (2, _), (3, _), (4, _)]) hC dX8_findForms_27 rfl (by decide) rfl ?_
              have hL29 : ∀ (n29 : Nat) (s : Int) (m : Int) (AC : List (List Nat)) (W29 : wSt), Fr fQ S W29 → (0 ≤ s) → (s ≤ S 30 0 0) → (i < W29 30 0 26) → (0 ≤ m) → (m ≤ 300) → (0 ≤ W29 30 0 26) → (W29 30 0 26 ≤ 300) → (FV (W29 65 0) (W29 30 0 26) n (S 30 0 0)) → (FR (W29 65 0) n LL) → ((LL.length : Int) = W29 30 0 26) → (FV (W29 67 0) m (n + 1) (S 30 0 0)) → (AC = (nxL (rM S) (rn S) (LL.take i.toNat) ++ nxs (rM S) (rn S) (LL.getD i.toNat []) s.toNat)) → ((AC.length : Int) = m) → (FR (W29 67 0) (n + 1) AC) → S 30 0 0 - s < (n29 : Int) → Wk E g 7 W29 29 [(0, vr g 30 0), (1, vi a), (2, vi n), (3, vi m), (4, vi i), (5, vi s)] [] := by
                intro n29
                induction n29 with
                | zero => intro s m AC W29 hfW29 s0 s1 i1 q0 q1 m0 m1 hfm hRf hLm hlg hAC hAl hRl hm29; exact absurd hm29 (by omega)
                | succ n29 ih29 =>
                  intro s m AC W29 hfW29 s0 s1 i1 q0 q1 m0 m1 hfm hRf hLm hlg hAC hAl hRl hm29
                  have hRW29 := hRS.fr (hfW29.mono (fun k i j h => by unfold fQ at h; unfold tR; omega))
                  have hnW29 := hRW29.n
                  have enW29 : W29 30 0 0 = S 30 0 0 := hfW29 30 0 0 (by unfold fQ; omega)
                  have eNW29 : rn W29 = rn S := rn_eq enW29
                  have eMW29 : rM W29 = rM S := rM_eq enW29 (fun j => hfW29 42 0 j (by unfold fQ; omega))
                  have hLm8 := hLm
                  refine kw_iload hC dX8_findForms_29 rfl 5 rfl ?_
                  refine kw_aload_n hC dX8_findForms_31 rfl 0 rfl ?_
                  refine kg_30_0 hC w8 f11 dX8_findForms_32 rfl (by decide) (by decide) ?_
                  refine kw_icmp_ge (tgt := 147) hC dX8_findForms_35 rfl (by decide) (by omega) (by omega) ⟨fun c35 => ?_, fun c35 => ?_⟩
                  · have hns : rn S = s.toNat := by omega
                    have hAC9 : AC = nxL (rM S) (rn S) (LL.take (i + 1).toNat) := by rw [tn_s i0, nxL_s (tn_lt i0 i1 hLm8)]; rw [← hns] at hAC; exact hAC
                    refine kw_iinc (lv' := [(4, _), (0, _), (1, _), (2, _), (3, _), (5, _)]) hC dX8_findForms_147 rfl 4 rfl (by decide) rfl ?_
                    refine kw_goto (tgt := 17) hC dX8_findForms_150 rfl (by decide) ?_
                    refine kw_lv [1, 2, 3, 4, 0] rfl ?_
                    exact ih17 (i + 1) _ _ W29 hfW29 (by omega) (by omega) (by omega) (by omega) (by omega) (by omega) (by omega) hfm hRf hLm hlg hAC9 hAl hRl (by omega)
                  · refine kw_aload_n hC dX8_findForms_38 rfl 0 rfl ?_
                    refine kw_iload_n hC dX8_findForms_39 rfl 2 rfl ?_
                    refine kw_iconst hC dX8_findForms_40 rfl ?_
                    refine kw_iadd hC dX8_findForms_41 rfl ?_
                    refine kp_30_14 hC w8 f57 dX8_findForms_42 rfl (by decide) (by decide) ?_
                    refine kw_hv hfW29 (by unfold fQ; omega) (fun S8 hfS8 hv8 ho8 => ?_)
                    have hRS8 := hRS.fr (hfS8.mono (fun k i j h => by unfold fQ at h; unfold tR; omega))
                    have hnS8 := hRS8.n
                    have enS8 : S8 30 0 0 = S 30 0 0 := hfS8 30 0 0 (by unfold fQ; omega)
                    have eNS8 : rn S8 = rn S := rn_eq enS8
                    have eMS8 : rM S8 = rM S := rM_eq enS8 (fun j => hfS8 42 0 j (by unfold fQ; omega))
                    have e26_8 : S8 30 0 26 = W29 30 0 26 := ho8 30 0 26 (by omega)
                    have hLm : (LL.length : Int) = S8 30 0 26 := by omega
                    replace hfm : FV (S8 65 0) (S8 30 0 26) n (S 30 0 0) := by rw [e26_8]; exact hfm.eq (fun j => ho8 65 0 j (by omega))
                    replace hRf : FR (S8 65 0) n LL := hRf.eq (fun j => ho8 65 0 j (by omega))
                    replace hlg : FV (S8 67 0) m (n + 1) (S 30 0 0) := hlg.eq (fun j => ho8 67 0 j (by omega))
                    have hRl := hRl.eq (f' := S8 67 0) (fun j => ho8 67 0 j (by omega))
                    refine kw_iconst hC dX8_findForms_45 rfl ?_
                    refine kw_istore (lv' := [(6, _), (0, _), (1, _), (2, _), (3, _), (4, _), (5, _)]) hC dX8_findForms_46 rfl (by decide) rfl ?_
                    have hL48 : ∀ (n48 : Nat) (k : Int) (W48 : wSt), Fr fQ S W48 → (0 ≤ k) → (k ≤ n) → (i < W48 30 0 26) → (W48 30 0 14 = n + 1) → (WV (W48 53 0) k (S 30 0 0)) → (∀ j, 0 ≤ j → j < k → W48 53 0 j = W48 65 0 (12 * i + j)) → (0 ≤ W48 30 0 26) → (W48 30 0 26 ≤ 300) → (FV (W48 65 0) (W48 30 0 26) n (S 30 0 0)) → (FR (W48 65 0) n LL) → ((LL.length : Int) = W48 30 0 26) → (FV (W48 67 0) m (n + 1) (S 30 0 0)) → (FR (W48 67 0) (n + 1) AC) → n - k < (n48 : Int) → Wk E g 7 W48 48 [(0, vr g 30 0), (1, vi a), (2, vi n), (3, vi m), (4, vi i), (5, vi s), (6, vi k)] [] := by
                      intro n48
                      induction n48 with
                      | zero => intro k W48 hfW48 k0 k1 i1 q14 hx hcw m0 m1 hfm hRf hLm hlg hRl hm48; exact absurd hm48 (by omega)
                      | succ n48 ih48 =>
                        intro k W48 hfW48 k0 k1 i1 q14 hx hcw m0 m1 hfm hRf hLm hlg hRl hm48
                        have hRW48 := hRS.fr (hfW48.mono (fun k i j h => by unfold fQ at h; unfold tR; omega))
                        have hnW48 := hRW48.n
                        have enW48 : W48 30 0 0 = S 30 0 0 := hfW48 30 0 0 (by unfold fQ; omega)
                        have eNW48 : rn W48 = rn S := rn_eq enW48
                        have eMW48 : rM W48 = rM S := rM_eq enW48 (fun j => hfW48 42 0 j (by unfold fQ; omega))
                        have hLm8 := hLm
                        refine kw_iload hC dX8_findForms_48 rfl 6 rfl ?_
                        refine kw_iload_n hC dX8_findForms_50 rfl 2 rfl ?_
                        refine kw_icmp_ge (tgt := 80) hC dX8_findForms_51 rfl (by decide) (by omega) (by omega) ⟨fun c51 => ?_, fun c51 => ?_⟩
                        · refine kw_aload_n hC dX8_findForms_80 rfl 0 rfl ?_
                          refine kg_30_13 hC w8 f60 dX8_findForms_81 rfl (by decide) (by decide) ?_
                          refine kw_iload_n hC dX8_findForms_84 rfl 2 rfl ?_
                          refine kw_iload hC dX8_findForms_85 rfl 5 rfl ?_
                          refine ks_53 hC dX8_findForms_87 rfl (by decide) (by decide) (by omega) (by omega) ?_
                          refine kw_hv hfW48 (by unfold fQ; omega) (fun S10 hfS10 hv10 ho10 => ?_)
                          have hRS10 := hRS.fr (hfS10.mono (fun k i j h => by unfold fQ at h; unfold tR; omega))
                          have hnS10 := hRS10.n
                          have enS10 : S10 30 0 0 = S 30 0 0 := hfS10 30 0 0 (by unfold fQ; omega)
                          have eNS10 : rn S10 = rn S := rn_eq enS10
                          have eMS10 : rM S10 = rM S := rM_eq enS10 (fun j => hfS10 42 0 j (by unfold fQ; omega))
                          have e26_10 : S10 30 0 26 = W48 30 0 26 := ho10 30 0 26 (by omega)
                          have hLm : (LL.length : Int) = S10 30 0 26 := by omega
                          replace hfm : FV (S10 65 0) (S10 30 0 26) n (S 30 0 0) := by rw [e26_10]; exact hfm.eq (fun j => ho10 65 0 j (by omega))
                          replace hRf : FR (S10 65 0) n LL := hRf.eq (fun j => ho10 65 0 j (by omega))
                          replace hlg : FV (S10 67 0) m (n + 1) (S 30 0 0) := hlg.eq (fun j => ho10 67 0 j (by omega))
                          have hRl := hRl.eq (f' := S10 67 0) (fun j => ho10 67 0 j (by omega))
                          have e14_10 : S10 30 0 14 = W48 30 0 14 := ho10 30 0 14 (by omega)
                          have hwv : WV (S10 53 0) (S10 30 0 14) (S10 30 0 0) := ((hx.eq (m' := n) (fun _ _ _ => rfl) (by omega) rfl).add (fun j hj => ho10 53 0 j (by omega)) (by rw [hv10]; exact ⟨s0, s_lt enW29 c35⟩)).eq (fun _ _ _ => rfl) (by omega) enS10
                          have eWs : rW S10 = LL.getD i.toNat [] ++ [s.toNat] := by rw [← hRf i.toNat (tn_lt i0 i1 hLm8)]; unfold rW; rw [show S10 30 0 14 = n + 1 by omega, wl_add (z := s) n0 (fun j _ _ => ho10 53 0 j (by omega)) hv10]; congr 1; exact wl_eq rfl (fun j j0 j1 => by rw [hcw j j0 (by omega), ho10 65 0 _ (by omega)]; congr 1; omega)
                          refine kw_aload_n hC dX8_findForms_88 rfl 0 rfl ?_
                          refine kw_callV hC (f_X8_isForm hD hRS10 hwv (by omega) (by omega)) gX8_findForms_X8_isForm ⟨_, rfl⟩ rfl (by decide) (by decide) rfl ⟨rfl, rfl⟩ 0 (by decide +kernel) ⟨by decide, by decide⟩ rfl rfl (Nat.le_of_ble_eq_true rfl) dX8_findForms_89 rfl (kd_i (fun r11 S11 hp11 => ?_))
                          obtain ⟨hg11, hp11⟩ := hp11
                          have hfS11 : Fr fQ S S11 := hfS10.trans (hg11.mono (fun k i j h => by unfold fI at h; unfold fQ; omega))
                          have hRS11 := hRS.fr (hfS11.mono (fun k i j h => by unfold fQ at h; unfold tR; omega))
                          have hnS11 := hRS11.n
                          have enS11 : S11 30 0 0 = S 30 0 0 := hfS11 30 0 0 (by unfold fQ; omega)
                          have eNS11 : rn S11 = rn S := rn_eq enS11
                          have eMS11 : rM S11 = rM S := rM_eq enS11 (fun j => hfS11 42 0 j (by unfold fQ; omega))
                          rw [eMS10, eNS10, eWs] at hp11
                          have hib := hp11
                          have e26_11 : S11 30 0 26 = S10 30 0 26 := hg11 30 0 26 (by unfold fI; omega)
                          have hLm : (LL.length : Int) = S11 30 0 26 := by omega
                          replace hfm : FV (S11 65 0) (S11 30 0 26) n (S 30 0 0) := by rw [e26_11]; exact hfm.eq (fun j => hg11 65 0 j (by unfold fI; omega))
                          replace hRf : FR (S11 65 0) n LL := hRf.eq (fun j => hg11 65 0 j (by unfold fI; omega))
                          replace hlg : FV (S11 67 0) m (n + 1) (S 30 0 0) := hlg.eq (fun j => hg11 67 0 j (by unfold fI; omega))
                          have hRl := hRl.eq (f' := S11 67 0) (fun j => hg11 67 0 j (by unfold fI; omega))
                          have hwx : WV (S11 53 0) (n + 1) (S 30 0 0) := hwv.eq (fun j _ _ => hg11 53 0 j (by unfold fI; omega)) (by omega) enS10.symm
                          have hwv9 : wl (S11 53 0) (n + 1).toNat = LL.getD i.toNat [] ++ [s.toNat] := (wl_eq (by omega) (fun j _ _ => hg11 53 0 j (by unfold fI; omega))).trans eWs
                          refine kw_if_eq (tgt := 141) hC dX8_findForms_92 rfl (by decide) (by omega) ⟨fun c92 => ?_, fun c92 => ?_⟩
                          · have hbn := (hib.resolve_right (fun z => by omega)).2
                            have hACn : AC = nxL (rM S) (rn S) (LL.take i.toNat) ++ nxs (rM S) (rn S) (LL.getD i.toNat []) (s + 1).toNat := by rw [tn_s s0, nxs_n hbn]; exact hAC
                            refine kw_iinc (lv' := [(5, _), (0, _), (1, _), (2, _), (3, _), (4, _), (6, _)]) hC dX8_findForms_141 rfl 5 rfl (by decide) rfl ?_
                            refine kw_goto (tgt := 29) hC dX8_findForms_144 rfl (by decide) ?_
                            refine kw_lv [1, 2, 3, 4, 5, 0] rfl ?_
                            exact ih29 (s + 1) _ _ S11 hfS11 (by omega) (s_up enW29 c35) (by omega) (by omega) (by omega) (by omega) (by omega) hfm hRf hLm (by first | exact hlg9 | exact hlg) (by first | exact hAC9 | exact hACn) (by first | exact hAl9 | exact hAl) (by first | exact hRl9 | exact hRl) (m_up hm29)
                          · have hby := (hib.resolve_left (fun z => by omega)).2
                            refine kw_iload_n hC dX8_findForms_95 rfl 3 rfl ?_
                            refine kw_sipush hC dX8_findForms_96 rfl (by decide) ?_
                            refine kw_icmp_ne (tgt := 104) hC dX8_findForms_99 rfl (by decide) (by omega) (by omega) ⟨fun c99 => ?_, fun c99 => ?_⟩
                            · refine kw_iconst hC dX8_findForms_104 rfl ?_
                              refine kw_istore (lv' := [(6, _), (0, _), (1, _), (2, _), (3, _), (4, _), (5, _)]) hC dX8_findForms_105 rfl (by decide) rfl ?_
                              have hL107 : ∀ (n107 : Nat) (k : Int) (W107 : wSt), Fr fQ S W107 → (0 ≤ k) → (k ≤ n + 1) → (i < W107 30 0 26) → (WV (W107 53 0) (n + 1) (S 30 0 0)) → (wl (W107 53 0) (n + 1).toNat = LL.getD i.toNat [] ++ [s.toNat]) → (∀ j, 0 ≤ j → j < k → 0 ≤ W107 67 0 (12 * m + j) ∧ W107 67 0 (12 * m + j) < S 30 0 0) → (∀ j, 0 ≤ j → j < k → W107 67 0 (12 * m + j) = W107 53 0 j) → (0 ≤ W107 30 0 26) → (W107 30 0 26 ≤ 300) → (FV (W107 65 0) (W107 30 0 26) n (S 30 0 0)) → (FR (W107 65 0) n LL) → ((LL.length : Int) = W107 30 0 26) → (FV (W107 67 0) m (n + 1) (S 30 0 0)) → (FR (W107 67 0) (n + 1) AC) → n + 1 - k < (n107 : Int) → Wk E g 7 W107 107 [(0, vr g 30 0), (1, vi a), (2, vi n), (3, vi m), (4, vi i), (5, vi s), (6, vi k)] [] := by
                                intro n107
                                induction n107 with
                                | zero => intro k W107 hfW107 k0 k1 i1 hwx hwv9 hnew hcl m0 m1 hfm hRf hLm hlg hRl hm107; exact absurd hm107 (by omega)
                                | succ n107 ih107 =>
                                  intro k W107 hfW107 k0 k1 i1 hwx hwv9 hnew hcl m0 m1 hfm hRf hLm hlg hRl hm107
                                  have hRW107 := hRS.fr (hfW107.mono (fun k i j h => by unfold fQ at h; unfold tR; omega))
                                  have hnW107 := hRW107.n
                                  have enW107 : W107 30 0 0 = S 30 0 0 := hfW107 30 0 0 (by unfold fQ; omega)
                                  have eNW107 : rn W107 = rn S := rn_eq enW107
                                  have eMW107 : rM W107 = rM S := rM_eq enW107 (fun j => hfW107 42 0 j (by unfold fQ; omega))
                                  refine kw_iload hC dX8_findForms_107 rfl 6 rfl ?_
                                  refine kw_iload_n hC dX8_findForms_109 rfl 2 rfl ?_
                                  refine kw_icmp_gt (tgt := 138) hC dX8_findForms_110 rfl (by decide) (by omega) (by omega) ⟨fun c110 => ?_, fun c110 => ?_⟩
                                  · have hlg9 : FV (W107 67 0) (m + 1) (n + 1) (S 30 0 0) := fun p q p0 p1 u0 u1 => by rcases Decidable.em (p = m) with e | e; exact (by rw [e]; exact hnew q u0 (by omega)); exact hlg p q p0 (by omega) u0 u1
                                    have hAC9 : AC ++ [LL.getD i.toNat [] ++ [s.toNat]] = nxL (rM S) (rn S) (LL.take i.toNat) ++ nxs (rM S) (rn S) (LL.getD i.toNat []) (s + 1).toNat := by rw [tn_s s0, nxs_y hby, ← List.append_assoc, hAC]
                                    have hAl9 : ((AC ++ [LL.getD i.toNat [] ++ [s.toNat]]).length : Int) = m + 1 := by rw [List.length_append, Int.natCast_add, hAl]; rfl
                                    have hRl9 : FR (W107 67 0) (n + 1) (AC ++ [LL.getD i.toNat [] ++ [s.toNat]]) := hRl.add hAl ((wl_eq rfl (fun j j0 j1 => hcl j j0 (by omega))).trans hwv9)
                                    refine kw_iinc (lv' := [(3, _), (0, _), (1, _), (2, _), (4, _), (5, _), (6, _)]) hC dX8_findForms_138 rfl 3 rfl (by decide) rfl ?_
                                    refine kw_iinc (lv' := [(5, _), (3, _), (0, _), (1, _), (2, _), (4, _), (6, _)]) hC dX8_findForms_141 rfl 5 rfl (by decide) rfl ?_
                                    refine kw_goto (tgt := 29) hC dX8_findForms_144 rfl (by decide) ?_
                                    refine kw_lv [2, 3, 4, 1, 5, 0] rfl ?_
                                    exact ih29 (s + 1) _ _ W107 hfW107 (by omega) (s_up enW29 c35) (by omega) (by omega) (by omega) (by omega) (by omega) hfm hRf hLm (by first | exact hlg9 | exact hlg) (by first | exact hAC9 | exact hACn) (by first | exact hAl9 | exact hAl) (by first | exact hRl9 | exact hRl) (m_up hm29)
                                  · refine kw_aload_n hC dX8_findForms_113 rfl 0 rfl ?_
                                    refine kg_30_27 hC w8 f215 dX8_findForms_114 rfl (by decide) (by decide) ?_
                                    refine kw_bipush hC dX8_findForms_117 rfl (by decide) ?_
                                    refine kw_iload_n hC dX8_findForms_119 rfl 3 rfl ?_
                                    refine kw_imul hC dX8_findForms_120 rfl ?_
                                    refine kw_iload hC dX8_findForms_121 rfl 6 rfl ?_
                                    refine kw_iadd hC dX8_findForms_123 rfl ?_
                                    refine kw_aload_n hC dX8_findForms_124 rfl 0 rfl ?_
                                    refine kg_30_13 hC w8 f60 dX8_findForms_125 rfl (by decide) (by decide) ?_
                                    refine kw_iload hC dX8_findForms_128 rfl 6 rfl ?_
                                    refine ka_53 hC dX8_findForms_130 rfl (by decide) (by decide) (by omega) (by omega) ?_
                                    have hlx := hwx k (by omega) (by omega)
                                    refine ks_67 hC dX8_findForms_131 rfl (by decide) (by decide) (by omega) (by omega) ?_
                                    refine kw_hv hfW107 (by unfold fQ; omega) (fun S15 hfS15 hv15 ho15 => ?_)
                                    have hRS15 := hRS.fr (hfS15.mono (fun k i j h => by unfold fQ at h; unfold tR; omega))
                                    have hnS15 := hRS15.n
                                    have enS15 : S15 30 0 0 = S 30 0 0 := hfS15 30 0 0 (by unfold fQ; omega)
                                    have eNS15 : rn S15 = rn S := rn_eq enS15
                                    have eMS15 : rM S15 = rM S := rM_eq enS15 (fun j => hfS15 42 0 j (by unfold fQ; omega))
                                    have e26_15 : S15 30 0 26 = W107 30 0 26 := ho15 30 0 26 (by omega)
                                    have hLm : (LL.length : Int) = S15 30 0 26 := by omega
                                    replace hfm : FV (S15 65 0) (S15 30 0 26) n (S 30 0 0) := by rw [e26_15]; exact hfm.eq (fun j => ho15 65 0 j (by omega))
                                    replace hRf : FR (S15 65 0) n LL := hRf.eq (fun j => ho15 65 0 j (by omega))
                                    refine kw_iinc (lv' := [(6, _), (0, _), (1, _), (2, _), (3, _), (4, _), (5, _)]) hC dX8_findForms_132 rfl 6 rfl (by decide) rfl ?_
                                    refine kw_goto (tgt := 107) hC dX8_findForms_135 rfl (by decide) ?_
                                    refine kw_lv [1, 2, 3, 4, 5, 6, 0] rfl ?_
                                    exact ih107 (k + 1) S15 hfS15 (by omega) (by omega) (by omega) (hwx.eq (fun j _ _ => ho15 53 0 j (by omega)) rfl rfl) ((wl_eq rfl (fun j _ _ => ho15 53 0 j (by omega))).trans hwv9) (fun j j0 j1 => by rcases Decidable.em (j = k) with e | e; exact (by rw [e, hv15]; exact hlx); exact (by rw [ho15 67 0 _ (by omega)]; exact hnew j j0 (by omega))) (fun j j0 j1 => by rw [ho15 53 0 j (by omega)]; rcases Decidable.em (j = k) with e | e; exact (by rw [e]; exact hv15); exact (by rw [ho15 67 0 _ (by omega)]; exact hcl j j0 (by omega))) (by omega) (by omega) hfm hRf hLm (fun p q p0 p1 u0 u1 => by rw [ho15 67 0 _ (by omega)]; exact hlg p q p0 p1 u0 u1) (fun p hp => by rw [← hRl p hp]; exact wl_congr (fun q hq => ho15 67 0 _ (by omega))) (by omega)
                              refine kw_lv [1, 2, 3, 4, 5, 6, 0] rfl ?_
                              exact hL107 14 0 S11 hfS11 (by omega) (by omega) (by omega) hwx hwv9 (fun j _ _ => by omega) (fun j _ _ => by omega) (by omega) (by omega) hfm hRf hLm hlg hRl (by omega)
                            · refine kw_iconst hC dX8_findForms_102 rfl ?_
                              exact hR9.2.1 rfl _ _ _ _ dX8_findForms_103 (by omega) ⟨_, rfl, hfS11, ⟨by omega, by omega⟩, Or.inl ⟨rfl, flv_n ((flv_s hLL).2 (mo_l (nxL_more (M := rM S) (n := rn S) (L := LL) (i := i.toNat) (s := s.toNat) (tn_lt i0 i1 hLm8) (tn_lt s0 (Int.not_le.mp c35) (rn_c enW29 hnS.1)) hby) hAC hAl (by omega))) (by omega)⟩⟩
                        · refine kw_aload_n hC dX8_findForms_54 rfl 0 rfl ?_
                          refine kg_30_13 hC w8 f60 dX8_findForms_55 rfl (by decide) (by decide) ?_
                          refine kw_iload hC dX8_findForms_58 rfl 6 rfl ?_
                          refine kw_aload_n hC dX8_findForms_60 rfl 0 rfl ?_
                          refine kg_30_25 hC w8 f209 dX8_findForms_61 rfl (by decide) (by decide) ?_
                          refine kw_bipush hC dX8_findForms_64 rfl (by decide) ?_
                          refine kw_iload hC dX8_findForms_66 rfl 4 rfl ?_
                          refine kw_imul hC dX8_findForms_68 rfl ?_
                          refine kw_iload hC dX8_findForms_69 rfl 6 rfl ?_
                          refine kw_iadd hC dX8_findForms_71 rfl ?_
                          refine ka_65 hC dX8_findForms_72 rfl (by decide) (by decide) (by omega) (by omega) ?_
                          have hlx := hfm i k (by omega) (by omega) (by omega) (by omega)
                          refine ks_53 hC dX8_findForms_73 rfl (by decide) (by decide) (by omega) (by omega) ?_
                          refine kw_hv hfW48 (by unfold fQ; omega) (fun S16 hfS16 hv16 ho16 => ?_)
                          have hRS16 := hRS.fr (hfS16.mono (fun k i j h => by unfold fQ at h; unfold tR; omega))
                          have hnS16 := hRS16.n
                          have enS16 : S16 30 0 0 = S 30 0 0 := hfS16 30 0 0 (by unfold fQ; omega)
                          have eNS16 : rn S16 = rn S := rn_eq enS16
                          have eMS16 : rM S16 = rM S := rM_eq enS16 (fun j => hfS16 42 0 j (by unfold fQ; omega))
                          have e26_16 : S16 30 0 26 = W48 30 0 26 := ho16 30 0 26 (by omega)
                          have hLm : (LL.length : Int) = S16 30 0 26 := by omega
                          replace hfm : FV (S16 65 0) (S16 30 0 26) n (S 30 0 0) := by rw [e26_16]; exact hfm.eq (fun j => ho16 65 0 j (by omega))
                          replace hRf : FR (S16 65 0) n LL := hRf.eq (fun j => ho16 65 0 j (by omega))
                          replace hlg : FV (S16 67 0) m (n + 1) (S 30 0 0) := hlg.eq (fun j => ho16 67 0 j (by omega))
                          have hRl := hRl.eq (f' := S16 67 0) (fun j => ho16 67 0 j (by omega))
                          refine kw_iinc (lv' := [(6, _), (0, _), (1, _), (2, _), (3, _), (4, _), (5, _)]) hC dX8_findForms_74 rfl 6 rfl (by decide) rfl ?_
                          refine kw_goto (tgt := 48) hC dX8_findForms_77 rfl (by decide) ?_
                          refine kw_lv [1, 2, 3, 4, 5, 6, 0] rfl ?_
                          exact ih48 (k + 1) S16 hfS16 (by omega) (by omega) (by omega) ((ho16 30 0 14 (by omega)).trans q14) (hx.add (fun j hj => ho16 53 0 j (by omega)) (by rw [hv16]; exact hlx)) (fun j j0 j1 => by rw [ho16 65 0 _ (by omega)]; rcases Decidable.em (j = k) with e | e; exact (by rw [e]; exact hv16); exact (by rw [ho16 53 0 j (by omega)]; exact hcw j j0 (by omega))) (by omega) (by omega) hfm hRf hLm hlg hRl (by omega)
                    refine kw_lv [1, 2, 3, 4, 5, 6, 0] rfl ?_
                    exact hL48 13 0 S8 hfS8 (by omega) (by omega) (by omega) hv8 (fun j _ _ => by omega) (fun j _ _ => by omega) (by omega) (by omega) hfm hRf hLm hlg hRl (by omega)
              refine kw_lv [1, 2, 3, 4, 5, 0] rfl ?_
              exact hL29 7 0 _ AC W17 hfW17 (by omega) (by omega) (by omega) (by omega) (by omega) (by omega) (by omega) hfm hRf hLm hlg (by rw [hAC, show (0 : Int).toNat = 0 from rfl, nxs_0, List.append_nil]) hAl hRl (by omega)
        refine kw_lv [2, 3, 4, 1, 0] rfl ?_
        exact hL17 301 0 _ [] W7 hfW7 (by omega) (by omega) (by omega) (by omega) (by omega) (by omega) (by omega) hfm hRf hLm (fun i k _ _ _ _ => by omega) rfl rfl (fun i hi => absurd hi (Nat.not_lt_zero _)) (by omega)
  refine kw_lv [1, 2, 0] rfl ?_
  exact hL7 13 0 S1 hfS1 (by omega) (by omega) (by have := hv1; omega) (by have := hv1; omega) (fun i k _ _ _ _ => by omega) (flE_0 hv1) (by omega)

set_option maxHeartbeats 4000000 in
set_option maxRecDepth 100000 in
theorem f_X8_forms {g : wG} (hD : wD g) {S : wSt} {a : Int} (ha : -2147483648 ≤ a ∧ a ≤ 2147483647) (hRS : RI S) (l : Launch) : Kt l yX8_forms wsX8_forms ({ frames := 6, cells := 0, slots := 0, locals := 141 } : Room) g S [vr g 30 0, vi a] (pI (fun r S' => RI S' ∧ Fr tW S S' ∧ (fForms (rM S) (rn S) a, rSl S) = (r, rSl S'))) := by
  refine Kt.of (cc := cX8_forms) (nL := 2) (ret := (some .int)) (own := RX8) rfl hD (by decide) rfl (Nat.le_of_ble_eq_true rfl) ⟨rfl, rfl⟩ ?_
  intro E hC hR9
  have f206 : Cond.fieldLink RX8 206 "MirrorBenchModel" "formMany" "I" ∈ wsX8_forms := by decide +kernel
  have l218 : Cond.constantLong RX8 218 (Int64.ofInt (12)) ∈ wsX8_forms := by decide +kernel
  have w8 : ∀ w ∈ wsX80, w ∈ wsX8_forms := by decide +kernel
  show Wk E g 2 S 0 [(0, vr g 30 0), (1, vi a)] []
  have hfS : Fr tR S S := Fr.rfl _ S
  have hRS := hRS.fr hfS
  have hnS := hRS.n
  have enS : S 30 0 0 = S 30 0 0 := hfS 30 0 0 (by unfold tR; omega)
  have hnS := hRS.n
  have hnn : (rn S : Int) = S 30 0 0 := by unfold rn; omega
  refine kw_iload_n hC dX8_forms_0 rfl 1 rfl ?_
  refine kw_i2l hC dX8_forms_1 rfl (by omega) ?_
  refine kw_lconst (z := 0) hC dX8_forms_2 rfl rfl ?_
  refine kw_ldc2 (z := 12) hC dX8_forms_3 rfl l218 ?_
  refine kw_callS hC (d_X8_in hD (by omega) (by omega) (by omega)) gX8_forms_X8_in rfl ⟨rfl, rfl⟩ 3 (by decide +kernel) ⟨by decide, by decide⟩ rfl rfl (Nat.le_of_ble_eq_true rfl) dX8_forms_6 rfl (kd_ie ?_)
  refine kw_ifne_b (tgt := 14) hC dX8_forms_9 rfl (by decide) ⟨fun c9 => ?_, fun c9 => ?_⟩
  · refine kw_aload_n hC dX8_forms_14 rfl 0 rfl ?_
    refine kw_iload_n hC dX8_forms_15 rfl 1 rfl ?_
    refine kw_callV hC (f_X8_findForms hD (by omega) (by omega) hRS) gX8_forms_X8_findForms ⟨_, rfl⟩ rfl (by decide) (by decide) rfl ⟨rfl, rfl⟩ 1 (by decide +kernel) ⟨by decide, by decide⟩ rfl rfl (Nat.le_of_ble_eq_true rfl) dX8_forms_16 rfl (kd_i (fun r2 S2 hp2 => ?_))
    obtain ⟨hg2, hp2⟩ := hp2
    have hfS2 : Fr tR S S2 := hfS.trans (hg2.mono (fun k i j h => by unfold fQ at h; unfold tR; omega))
    have hRS2 := hRS.fr hfS2
    have hnS2 := hRS2.n
    have enS2 : S2 30 0 0 = S 30 0 0 := hfS2 30 0 0 (by unfold tR; omega)
    obtain ⟨hm2, hq9⟩ := hp2
    refine kw_if_eq (tgt := 29) hC dX8_forms_19 rfl (by decide) (by omega) ⟨fun c19 => ?_, fun c19 => ?_⟩
    · refine kw_bipush hC dX8_forms_29 rfl (by decide) ?_
      exact hR9.1 rfl _ _ _ _ dX8_forms_31 (by first | (exfalso; omega) | exact ⟨_, rfl, hRS2, tR_tW hfS2, by rw [fForms_b (by omega), rSl_tR hfS2]⟩ | exact ⟨_, rfl, hRS2, tR_tW hfS2, by rcases hq9 with z | z; exact (by rw [fForms_n (by omega) z.2, rSl_tR hfS2]); omega⟩ | exact ⟨_, rfl, hRS2, tR_tW hfS2, by rcases hq9 with z | z; omega; exact (by obtain ⟨-, -, L, h1, h2, -⟩ := z; rw [fForms_s (by omega) h1, h2, rSl_tR hfS2])⟩)
    · refine kw_aload_n hC dX8_forms_22 rfl 0 rfl ?_
      refine kg_30_26 hC w8 f206 dX8_forms_23 rfl (by decide) (by decide) ?_
      refine kw_goto (tgt := 31) hC dX8_forms_26 rfl (by decide) ?_
      exact hR9.1 rfl _ _ _ _ dX8_forms_31 (by first | (exfalso; omega) | exact ⟨_, rfl, hRS2, tR_tW hfS2, by rw [fForms_b (by omega), rSl_tR hfS2]⟩ | exact ⟨_, rfl, hRS2, tR_tW hfS2, by rcases hq9 with z | z; exact (by rw [fForms_n (by omega) z.2, rSl_tR hfS2]); omega⟩ | exact ⟨_, rfl, hRS2, tR_tW hfS2, by rcases hq9 with z | z; omega; exact (by obtain ⟨-, -, L, h1, h2, -⟩ := z; rw [fForms_s (by omega) h1, h2, rSl_tR hfS2])⟩)
  · refine kw_iconst hC dX8_forms_12 rfl ?_
    exact hR9.1 rfl _ _ _ _ dX8_forms_13 (by first | (exfalso; omega) | exact ⟨_, rfl, hRS, tR_tW hfS, by rw [fForms_b (by omega), rSl_tR hfS]⟩ | exact ⟨_, rfl, hRS, tR_tW hfS, by rcases hq9 with z | z; exact (by rw [fForms_n (by omega) z.2, rSl_tR hfS]); omega⟩ | exact ⟨_, rfl, hRS, tR_tW hfS, by rcases hq9 with z | z; omega; exact (by obtain ⟨-, -, L, h1, h2, -⟩ := z; rw [fForms_s (by omega) h1, h2, rSl_tR hfS])⟩)

set_option maxHeartbeats 4000000 in
set_option maxRecDepth 100000 in
theorem f_X8_next {g : wG} (hD : wD g) {S : wSt} {a b c : Int} (ha : -2147483648 ≤ a ∧ a ≤ 2147483647) (hb : -2147483648 ≤ b ∧ b ≤ 2147483647) (hc : -2147483648 ≤ c ∧ c ≤ 2147483647) (hRS : RI S) (l : Launch) : Kt l yX8_next wsX8_next ({ frames := 6, cells := 0, slots := 0, locals := 141 } : Room) g S [vr g 30 0, vi a, vi b, vi c] (pI (fun r S' => RI S' ∧ Fr tW S S' ∧ fNext (rM S) (rn S) a b c (rSl S) = (r, rSl S'))) := by
  refine Kt.of (cc := cX8_next) (nL := 5) (ret := (some .int)) (own := RX8) rfl hD (by decide) rfl (Nat.le_of_ble_eq_true rfl) ⟨rfl, rfl⟩ ?_
  intro E hC hR9
  have f57 : Cond.fieldLink RX8 57 "MirrorBenchModel" "wMany" "I" ∈ wsX8_next := by decide +kernel
  have f60 : Cond.fieldLink RX8 60 "MirrorBenchModel" "w" "[I" ∈ wsX8_next := by decide +kernel
  have f206 : Cond.fieldLink RX8 206 "MirrorBenchModel" "formMany" "I" ∈ wsX8_next := by decide +kernel
  have f209 : Cond.fieldLink RX8 209 "MirrorBenchModel" "forms" "[I" ∈ wsX8_next := by decide +kernel
  have l218 : Cond.constantLong RX8 218 (Int64.ofInt (12)) ∈ wsX8_next := by decide +kernel
  have w8 : ∀ w ∈ wsX80, w ∈ wsX8_next := by decide +kernel
  show Wk E g 5 S 0 [(0, vr g 30 0), (1, vi a), (2, vi b), (3, vi c)] []
  have hfS : Fr tR S S := Fr.rfl _ S
  have hRS := hRS.fr hfS
  have hnS := hRS.n
  have enS : S 30 0 0 = S 30 0 0 := hfS 30 0 0 (by unfold tR; omega)
  have hnS := hRS.n
  have hnn : (rn S : Int) = S 30 0 0 := by unfold rn; omega
  refine kw_iload_n hC dX8_next_0 rfl 1 rfl ?_
  refine kw_i2l hC dX8_next_1 rfl (by omega) ?_
  refine kw_lconst (z := 0) hC dX8_next_2 rfl rfl ?_
  refine kw_ldc2 (z := 12) hC dX8_next_3 rfl l218 ?_
  refine kw_callS hC (d_X8_in hD (by omega) (by omega) (by omega)) gX8_next_X8_in rfl ⟨rfl, rfl⟩ 3 (by decide +kernel) ⟨by decide, by decide⟩ rfl rfl (Nat.le_of_ble_eq_true rfl) dX8_next_6 rfl (kd_ie ?_)
  refine kw_ifeq_b (tgt := 43) hC dX8_next_9 rfl (by decide) ⟨fun c9 => ?_, fun c9 => ?_⟩
  · refine kw_iconst hC dX8_next_43 rfl ?_
    exact hR9.1 rfl _ _ _ _ dX8_next_44 (by first | (exfalso; omega) | exact ⟨_, rfl, hRS, tR_tW hfS, by rw [fNext_b (by omega), rSl_tR hfS]⟩ | exact ⟨_, rfl, hRS, tR_tW hfS, by rcases hq9 with z | z; exact (by rw [fNext_n (by omega) z.2, rSl_tR hfS]); omega⟩ | exact ⟨_, rfl, hRS, tR_tW hfS, by obtain ⟨-, -, L, h1, h2, -⟩ := hq9.resolve_left (fun z => by omega); rw [fNext_o (by omega) h1 (by omega), rSl_tR hfS]⟩ | exact ⟨_, rfl, hp9.2.1, (tR_tW hfS).trans (fV_tW hp9.2.2.1), by obtain ⟨h1, h2, h3⟩ := hfe; rw [fNext_s (by omega) h1 (by omega)]; exact st_f hRS (by omega) (by omega) (by omega) (by omega) hp9 (rSl_tR hfS) ((wl_eq q14 (fun j j0 j1 => hcw j j0 (by omega))).trans (by rw [← h3 b.toNat (by omega), Int.toNat_of_nonneg (by omega)]))⟩)
  · refine kw_iload_n hC dX8_next_12 rfl 3 rfl ?_
    refine kw_callS hC (d_X8_isSlot hD (by omega)) gX8_next_X8_isSlot rfl ⟨rfl, rfl⟩ 1 (by decide +kernel) ⟨by decide, by decide⟩ rfl rfl (Nat.le_of_ble_eq_true rfl) dX8_next_13 rfl (kd_ie ?_)
    refine kw_ifeq_b (tgt := 43) hC dX8_next_16 rfl (by decide) ⟨fun c16 => ?_, fun c16 => ?_⟩
    · refine kw_iconst hC dX8_next_43 rfl ?_
      exact hR9.1 rfl _ _ _ _ dX8_next_44 (by first | (exfalso; omega) | exact ⟨_, rfl, hRS, tR_tW hfS, by rw [fNext_b (by omega), rSl_tR hfS]⟩ | exact ⟨_, rfl, hRS, tR_tW hfS, by rcases hq9 with z | z; exact (by rw [fNext_n (by omega) z.2, rSl_tR hfS]); omega⟩ | exact ⟨_, rfl, hRS, tR_tW hfS, by obtain ⟨-, -, L, h1, h2, -⟩ := hq9.resolve_left (fun z => by omega); rw [fNext_o (by omega) h1 (by omega), rSl_tR hfS]⟩ | exact ⟨_, rfl, hp9.2.1, (tR_tW hfS).trans (fV_tW hp9.2.2.1), by obtain ⟨h1, h2, h3⟩ := hfe; rw [fNext_s (by omega) h1 (by omega)]; exact st_f hRS (by omega) (by omega) (by omega) (by omega) hp9 (rSl_tR hfS) ((wl_eq q14 (fun j j0 j1 => hcw j j0 (by omega))).trans (by rw [← h3 b.toNat (by omega), Int.toNat_of_nonneg (by omega)]))⟩)
    · refine kw_aload_n hC dX8_next_19 rfl 0 rfl ?_
      refine kw_iload_n hC dX8_next_20 rfl 1 rfl ?_
      refine kw_callV hC (f_X8_findForms hD (by omega) (by omega) hRS) gX8_next_X8_findForms ⟨_, rfl⟩ rfl (by decide) (by decide) rfl ⟨rfl, rfl⟩ 1 (by decide +kernel) ⟨by decide, by decide⟩ rfl rfl (Nat.le_of_ble_eq_true rfl) dX8_next_21 rfl (kd_i (fun r3 S3 hp3 => ?_))
      obtain ⟨hg3, hp3⟩ := hp3
      have hfS3 : Fr tR S S3 := hfS.trans (hg3.mono (fun k i j h => by unfold fQ at h; unfold tR; omega))
      have hRS3 := hRS.fr hfS3
      have hnS3 := hRS3.n
      have enS3 : S3 30 0 0 = S 30 0 0 := hfS3 30 0 0 (by unfold tR; omega)
      obtain ⟨hm3, hq9⟩ := hp3
      skip
      refine kw_if_eq (tgt := 43) hC dX8_next_24 rfl (by decide) (by omega) ⟨fun c24 => ?_, fun c24 => ?_⟩
      · refine kw_iconst hC dX8_next_43 rfl ?_
        exact hR9.1 rfl _ _ _ _ dX8_next_44 (by first | (exfalso; omega) | exact ⟨_, rfl, hRS3, tR_tW hfS3, by rw [fNext_b (by omega), rSl_tR hfS3]⟩ | exact ⟨_, rfl, hRS3, tR_tW hfS3, by rcases hq9 with z | z; exact (by rw [fNext_n (by omega) z.2, rSl_tR hfS3]); omega⟩ | exact ⟨_, rfl, hRS3, tR_tW hfS3, by obtain ⟨-, -, L, h1, h2, -⟩ := hq9.resolve_left (fun z => by omega); rw [fNext_o (by omega) h1 (by omega), rSl_tR hfS3]⟩ | exact ⟨_, rfl, hp9.2.1, (tR_tW hfS3).trans (fV_tW hp9.2.2.1), by obtain ⟨h1, h2, h3⟩ := hfe; rw [fNext_s (by omega) h1 (by omega)]; exact st_f hRS3 (by omega) (by omega) (by omega) (by omega) hp9 (rSl_tR hfS3) ((wl_eq q14 (fun j j0 j1 => hcw j j0 (by omega))).trans (by rw [← h3 b.toNat (by omega), Int.toNat_of_nonneg (by omega)]))⟩)
      · refine kw_iload_n hC dX8_next_27 rfl 2 rfl ?_
        refine kw_i2l hC dX8_next_28 rfl (by omega) ?_
        refine kw_lconst (z := 0) hC dX8_next_29 rfl rfl ?_
        refine kw_aload_n hC dX8_next_30 rfl 0 rfl ?_
        refine kg_30_26 hC w8 f206 dX8_next_31 rfl (by decide) (by decide) ?_
        refine kw_iconst hC dX8_next_34 rfl ?_
        refine kw_isub hC dX8_next_35 rfl ?_
        refine kw_i2l hC dX8_next_36 rfl (by omega) ?_
        refine kw_callS hC (d_X8_in hD (by omega) (by omega) (by omega)) gX8_next_X8_in rfl ⟨rfl, rfl⟩ 3 (by decide +kernel) ⟨by decide, by decide⟩ rfl rfl (Nat.le_of_ble_eq_true rfl) dX8_next_37 rfl (kd_ie ?_)
        refine kw_ifne_b (tgt := 45) hC dX8_next_40 rfl (by decide) ⟨fun c40 => ?_, fun c40 => ?_⟩
        · obtain ⟨-, hfm, hfe⟩ := hq9.resolve_left (fun z => by omega)
          have hln : 0 ≤ b ∧ b < S3 30 0 26 := by omega
          replace hfm : ∀ k, 0 ≤ k → k < a → 0 ≤ S3 65 0 (12 * b + k) ∧ S3 65 0 (12 * b + k) < S 30 0 0 := fun k k0 k1 => hfm b k (by omega) (by omega) k0 k1
          refine kw_aload_n hC dX8_next_45 rfl 0 rfl ?_
          refine kw_iload_n hC dX8_next_46 rfl 1 rfl ?_
          refine kp_30_14 hC w8 f57 dX8_next_47 rfl (by decide) (by decide) ?_
          refine kw_hv hfS3 (by unfold tR; omega) (fun S6 hfS6 hv6 ho6 => ?_)
          have hRS6 := hRS.fr hfS6
          have hnS6 := hRS6.n
          have enS6 : S6 30 0 0 = S 30 0 0 := hfS6 30 0 0 (by unfold tR; omega)
          have x14 := hv6
          replace hfm : ∀ k, 0 ≤ k → k < a → 0 ≤ S6 65 0 (12 * b + k) ∧ S6 65 0 (12 * b + k) < S 30 0 0 := fun k k0 k1 => by rw [ho6 65 0 _ (by omega)]; exact hfm k k0 k1
          obtain ⟨LL, hLL, hLm, hRf⟩ := hfe
          have hfe : FNX LL (S6 65 0) a b (rM S) (rn S) := ⟨hLL, by omega, hRf.eq (fun j => ho6 65 0 j (by omega))⟩
          refine kw_iconst hC dX8_next_50 rfl ?_
          refine kw_istore (lv' := [(4, _), (0, _), (1, _), (2, _), (3, _)]) hC dX8_next_51 rfl (by decide) rfl ?_
          have hL53 : ∀ (n53 : Nat) (k : Int) (W53 : wSt), Fr tR S W53 → (0 ≤ k) → (k ≤ a) → (W53 30 0 14 = a) → (WV (W53 53 0) k (S 30 0 0)) → (∀ j, 0 ≤ j → j < k → W53 53 0 j = W53 65 0 (12 * b + j)) → (FNX LL (W53 65 0) a b (rM S) (rn S)) → (∀ k, 0 ≤ k → k < a → 0 ≤ W53 65 0 (12 * b + k) ∧ W53 65 0 (12 * b + k) < S 30 0 0) → a - k < (n53 : Int) → Wk E g 5 W53 53 [(0, vr g 30 0), (1, vi a), (2, vi b), (3, vi c), (4, vi k)] [] := by
            intro n53
            induction n53 with
            | zero => intro k W53 hfW53 k0 k1 q14 hx hcw hfe hfm hm53; exact absurd hm53 (by omega)
            | succ n53 ih53 =>
              intro k W53 hfW53 k0 k1 q14 hx hcw hfe hfm hm53
              have hRW53 := hRS.fr hfW53
              have hnW53 := hRW53.n
              have enW53 : W53 30 0 0 = S 30 0 0 := hfW53 30 0 0 (by unfold tR; omega)
              refine kw_iload hC dX8_next_53 rfl 4 rfl ?_
              refine kw_iload_n hC dX8_next_55 rfl 1 rfl ?_
              refine kw_icmp_ge (tgt := 84) hC dX8_next_56 rfl (by decide) (by omega) (by omega) ⟨fun c56 => ?_, fun c56 => ?_⟩
              · have hwv : WV (W53 53 0) (W53 30 0 14) (W53 30 0 0) := hx.eq (fun _ _ _ => rfl) (by omega) (by omega)
                refine kw_aload_n hC dX8_next_84 rfl 0 rfl ?_
                refine kw_iload_n hC dX8_next_85 rfl 3 rfl ?_
                refine kw_callV hC (d_X8_store hD (by omega) (by omega) hRW53 hwv (by omega) (by omega)) gX8_next_X8_store ⟨_, rfl⟩ rfl (by decide) (by decide) rfl ⟨rfl, rfl⟩ 1 (by decide +kernel) ⟨by decide, by decide⟩ rfl rfl (Nat.le_of_ble_eq_true rfl) dX8_next_86 rfl (kd_i (fun r9 Sz hp9 => ?_))
                exact hR9.1 rfl _ _ _ _ dX8_next_89 (by first | (exfalso; omega) | exact ⟨_, rfl, hRW53, tR_tW hfW53, by rw [fNext_b (by omega), rSl_tR hfW53]⟩ | exact ⟨_, rfl, hRW53, tR_tW hfW53, by rcases hq9 with z | z; exact (by rw [fNext_n (by omega) z.2, rSl_tR hfW53]); omega⟩ | exact ⟨_, rfl, hRW53, tR_tW hfW53, by obtain ⟨-, -, L, h1, h2, -⟩ := hq9.resolve_left (fun z => by omega); rw [fNext_o (by omega) h1 (by omega), rSl_tR hfW53]⟩ | exact ⟨_, rfl, hp9.2.1, (tR_tW hfW53).trans (fV_tW hp9.2.2.1), by obtain ⟨h1, h2, h3⟩ := hfe; rw [fNext_s (by omega) h1 (by omega)]; exact st_f hRW53 (by omega) (by omega) (by omega) (by omega) hp9 (rSl_tR hfW53) ((wl_eq q14 (fun j j0 j1 => hcw j j0 (by omega))).trans (by rw [← h3 b.toNat (by omega), Int.toNat_of_nonneg (by omega)]))⟩)
              · refine kw_aload_n hC dX8_next_59 rfl 0 rfl ?_
                refine kg_30_13 hC w8 f60 dX8_next_60 rfl (by decide) (by decide) ?_
                refine kw_iload hC dX8_next_63 rfl 4 rfl ?_
                refine kw_aload_n hC dX8_next_65 rfl 0 rfl ?_
                refine kg_30_25 hC w8 f209 dX8_next_66 rfl (by decide) (by decide) ?_
                refine kw_bipush hC dX8_next_69 rfl (by decide) ?_
                refine kw_iload_n hC dX8_next_71 rfl 2 rfl ?_
                refine kw_imul hC dX8_next_72 rfl ?_
                refine kw_iload hC dX8_next_73 rfl 4 rfl ?_
                refine kw_iadd hC dX8_next_75 rfl ?_
                refine ka_65 hC dX8_next_76 rfl (by decide) (by decide) (by omega) (by omega) ?_
                have hlx := hfm k (by omega) (by omega)
                refine ks_53 hC dX8_next_77 rfl (by decide) (by decide) (by omega) (by omega) ?_
                refine kw_hv hfW53 (by unfold tR; omega) (fun S8 hfS8 hv8 ho8 => ?_)
                have hRS8 := hRS.fr hfS8
                have hnS8 := hRS8.n
                have enS8 : S8 30 0 0 = S 30 0 0 := hfS8 30 0 0 (by unfold tR; omega)
                refine kw_iinc (lv' := [(4, _), (0, _), (1, _), (2, _), (3, _)]) hC dX8_next_78 rfl 4 rfl (by decide) rfl ?_
                refine kw_goto (tgt := 53) hC dX8_next_81 rfl (by decide) ?_
                refine kw_lv [1, 2, 3, 4, 0] rfl ?_
                exact ih53 (k + 1) S8 hfS8 (by omega) (by omega) ((ho8 30 0 14 (by omega)).trans q14) (hx.add (fun j hj => ho8 53 0 j (by omega)) (by rw [hv8]; exact hlx)) (fun j j0 j1 => by rw [ho8 65 0 _ (by omega)]; rcases Decidable.em (j = k) with e | e; exact (by rw [e]; exact hv8); exact (by rw [ho8 53 0 j (by omega)]; exact hcw j j0 (by omega))) (hfe.eq (fun j => ho8 65 0 j (by omega))) (fun k k0 k1 => by rw [ho8 65 0 _ (by omega)]; exact hfm k k0 k1) (by omega)
          refine kw_lv [1, 2, 3, 4, 0] rfl ?_
          exact hL53 13 0 S6 hfS6 (by omega) (by omega) (by omega) (fun j _ _ => by omega) (fun j _ _ => by omega) hfe hfm (by omega)
        · refine kw_iconst hC dX8_next_43 rfl ?_
          exact hR9.1 rfl _ _ _ _ dX8_next_44 (by first | (exfalso; omega) | exact ⟨_, rfl, hRS3, tR_tW hfS3, by rw [fNext_b (by omega), rSl_tR hfS3]⟩ | exact ⟨_, rfl, hRS3, tR_tW hfS3, by rcases hq9 with z | z; exact (by rw [fNext_n (by omega) z.2, rSl_tR hfS3]); omega⟩ | exact ⟨_, rfl, hRS3, tR_tW hfS3, by obtain ⟨-, -, L, h1, h2, -⟩ := hq9.resolve_left (fun z => by omega); rw [fNext_o (by omega) h1 (by omega), rSl_tR hfS3]⟩ | exact ⟨_, rfl, hp9.2.1, (tR_tW hfS3).trans (fV_tW hp9.2.2.1), by obtain ⟨h1, h2, h3⟩ := hfe; rw [fNext_s (by omega) h1 (by omega)]; exact st_f hRS3 (by omega) (by omega) (by omega) (by omega) hp9 (rSl_tR hfS3) ((wl_eq q14 (fun j j0 j1 => hcw j j0 (by omega))).trans (by rw [← h3 b.toNat (by omega), Int.toNat_of_nonneg (by omega)]))⟩)
end
