section
end
section
def eW : wS := fun _ => []
theorem rSl_e {S : wSt} (h : ∀ s, 0 ≤ s → s < 8 → S 46 0 s = 0) : rSl S = eW := by
  funext s
  show rSl S s = []
  by_cases hs : 0 ≤ s ∧ s < 8
  · rw [rSl_at hs.1 hs.2]
    unfold rP
    rw [h s hs.1 hs.2]
    rfl
  · exact rSl_no hs
end
section
end
section
end
section
/-! forms: all of a length, from those one shorter -/
def mB (M : Nat → Nat → Int) : Prop := (∀ i, M i i = 0) ∧ ∀ i j, 0 ≤ M i j ∧ M i j ≤ 4
def isFb (M : Nat → Nat → Int) (n : Nat) (w : List Nat) : Bool := match shoP M n [] w with
  | none => false
  | some R => decide (R.length = w.length) && decide (foP M n R = some w)
theorem shoP_full {M : Nat → Nat → Int} {n : Nat} : ∀ (W R0 R : List Nat), (shoP M n R0 W = some R ∧ R.length = R0.length + W.length) ↔ (R = R0 ++ W ∧ ∀ i, i < W.length → bh M n (R0 ++ W.take i) (W.getD i 0) = -1)
  | [], R0, R => by
    rw [shoP]
    constructor
    · rintro ⟨h, -⟩
      cases h
      exact ⟨by simp, fun i hi => by simp at hi⟩
    · rintro ⟨h, -⟩
      rw [h]
      exact ⟨by simp, by simp⟩
  | c :: t, R0, R => by
    have ih1 := shoP_full (M := M) (n := n) t (R0 ++ [c]) R
    have e1 : ((R0 ++ [c]).length + t.length) = R0.length + (c :: t).length := by simp only [List.length_append, List.length_cons, List.length_nil]; omega
    have e2 : R0 ++ [c] ++ t = R0 ++ c :: t := by simp
    rw [e1, e2] at ih1
    have hst : (∀ i, i < (c :: t).length → bh M n (R0 ++ (c :: t).take i) ((c :: t).getD i 0) = -1) ↔ (bh M n R0 c = -1 ∧ ∀ i, i < t.length → bh M n (R0 ++ [c] ++ t.take i) (t.getD i 0) = -1) := by
      constructor
      · intro h
        refine ⟨?_, fun i hi => ?_⟩
        · have := h 0 (by simp)
          simpa using this
        · have := h (i + 1) (by simp only [List.length_cons]; omega)
          simpa using this
      · rintro ⟨h1, h2⟩ i hi
        cases i with
        | zero => simpa using h1
        | succ i =>
          have := h2 i (by simp only [List.length_cons] at hi; omega)
          simpa using this
    rw [hst, shoP]
    have hr := bh_r M n R0 c
    by_cases e4 : bh M n R0 c = -4
    · rw [if_pos e4]
      constructor
      · rintro ⟨h, -⟩; cases h
      · rintro ⟨-, h, -⟩; omega
    · rw [if_neg e4]
      by_cases em : bh M n R0 c = -1
      · rw [if_pos em, ih1]
        exact ⟨fun h => ⟨h.1, em, h.2⟩, fun h => ⟨h.1, h.2.2⟩⟩
      · rw [if_neg em]
        constructor
        · rintro ⟨h, hl⟩
          exfalso
          have hlen : ∀ (W Q Q' : List Nat), shoP M n Q W = some Q' → Q'.length ≤ Q.length + W.length := by
            intro W
            induction W with
            | nil => intro Q Q' h; rw [shoP] at h; cases h; simp
            | cons d u ih =>
              intro Q Q' h
              rw [shoP] at h
              split at h
              · cases h
              · split at h
                · have := ih _ _ h
                  simp only [List.length_append, List.length_cons, List.length_nil] at this ⊢
                  omega
                · have := ih _ _ h
                  have h2 := List.length_eraseIdx_le (l := Q) (i := (bh M n Q d).toNat)
                  simp only [List.length_cons]
                  omega
          have h2 := hlen _ _ _ h
          rw [List.length_eraseIdx_of_lt (by omega)] at h2
          simp only [List.length_cons] at hl
          omega
        · rintro ⟨-, h, -⟩; exact absurd h em
theorem fmS_pre {M : Nat → Nat → Int} {n : Nat} : ∀ (k : Nat) (R F G : List Nat), R.length = k → (∀ i, i ∈ R → i < n) → fmS M n R F = some G → ∃ H, G = F ++ H
  | 0, R, F, G, hk, _, h => by
    rw [fmS_nil M n hk] at h
    cases h
    exact ⟨[], by simp⟩
  | k + 1, R, F, G, hk, hR, h => by
    by_cases h4 : (ldn M n aJ R n).2 = -4
    · rw [fmS_great (by omega) h4] at h
      cases h
    · have h1 : (ldn M n aJ R n).2 ≠ -1 := by
        cases R with
        | nil => simp at hk
        | cons c t => exact ldn_hd (hR c List.mem_cons_self)
      have hp := ldn_pl h1 h4
      rw [← fmS_go hp.2.1] at h
      obtain ⟨H, hH⟩ := fmS_pre k _ _ _ (by rw [List.length_eraseIdx_of_lt (by omega)]; omega) (fun i hi => hR i (List.mem_of_mem_eraseIdx hi)) h
      exact ⟨(ldn M n aJ R n).1 :: H, by rw [hH]; simp⟩
theorem fmS_self {M : Nat → Nat → Int} {n : Nat} : ∀ (R F : List Nat), (∀ i, i ∈ R → i < n) → (fmS M n R F = some (F ++ R) ↔ ∀ i, i < R.length → ∀ t, t < R.getD i 0 → ah M n (R.drop i) t = -1)
  | [], F, _ => by
    rw [fmS_nil M n rfl]
    exact ⟨fun _ i hi => by simp at hi, fun _ => by simp⟩
  | c :: t, F, hR => by
    have hc := hR c List.mem_cons_self
    have ih := fmS_self (M := M) (n := n) t (F ++ [c]) (fun i hi => hR i (List.mem_cons_of_mem _ hi))
    rw [show F ++ [c] ++ t = F ++ c :: t by simp] at ih
    have h1 := ldn_hd (M := M) (n := n) (c := c) (t := t) hc
    have key : (∀ u, u < c → ah M n (c :: t) u = -1) → fmS M n (c :: t) F = fmS M n t (F ++ [c]) := by
      intro hl
      have hD := ldn_r M n aJ (c :: t) n (Nat.le_refl _)
      have hle := ldn_le M n aJ (c :: t) n (Nat.le_refl _) c (by omega) hc rfl (by rw [ah_hd]; decide)
      rcases hD with q | q
      · exact absurd q.1 h1
      · have e1 : (ldn M n aJ (c :: t) n).1 = c := by
          by_cases e : (ldn M n aJ (c :: t) n).1 < c
          · exact absurd (q.1.trans (hl _ e)) q.2.1
          · omega
        have e2 : (ldn M n aJ (c :: t) n).2 = 0 := by rw [q.1, e1, ah_hd]
        rw [← fmS_go (by omega), e1, e2]
        rfl
    constructor
    · intro h
      have h4 : (ldn M n aJ (c :: t) n).2 ≠ -4 := fun e => by
        rw [fmS_great (by simp) e] at h
        cases h
      have hp := ldn_pl h1 h4
      have hD : (ldn M n aJ (c :: t) n).1 = c := by
        have h9 := h
        rw [← fmS_go hp.2.1] at h9
        obtain ⟨H, hH⟩ := fmS_pre _ _ _ _ rfl (fun i hi => hR i (List.mem_of_mem_eraseIdx hi)) h9
        rw [List.append_assoc] at hH
        have := List.append_cancel_left hH
        simp only [List.cons_append, List.nil_append] at this
        injection this with a b
        exact a.symm
      have hl : ∀ u, u < c → ah M n (c :: t) u = -1 := fun u hu => Decidable.byContradiction (fun e => by
        have := (ldn_le M n aJ (c :: t) n (Nat.le_refl _) u (by omega) (by omega) rfl e).2
        omega)
      rw [key hl] at h
      have h8 := ih.mp h
      intro i hi u hu
      cases i with
      | zero => exact hl u (by simpa using hu)
      | succ i => exact h8 i (by simp only [List.length_cons] at hi; omega) u (by simpa using hu)
    · intro h
      rw [key (fun u hu => by have := h 0 (by simp) u (by simpa using hu); simpa using this)]
      exact ih.mpr (fun i hi u hu => by
        have := h (i + 1) (by simp only [List.length_cons]; omega) u (by simpa using hu)
        simpa using this)
/-- no letter of w goes, and no lesser one goes ahead of an end of it -/
def isFp (M : Nat → Nat → Int) (n : Nat) (w : List Nat) : Prop := (∀ i, i < w.length → bh M n (w.take i) (w.getD i 0) = -1) ∧ ∀ i, i < w.length → ∀ t, t < w.getD i 0 → ah M n (w.drop i) t = -1
theorem isFb_p {M : Nat → Nat → Int} {n : Nat} {w : List Nat} (hw : ∀ i, i ∈ w → i < n) : isFb M n w = true ↔ isFp M n w := by
  have h1 := shoP_full (M := M) (n := n) w []
  have h2 := fmS_self (M := M) (n := n) w [] hw
  simp only [List.nil_append] at h1 h2
  unfold isFb isFp
  constructor
  · intro h
    split at h
    · cases h
    · rename_i R hR
      have h3 := Bool.and_eq_true_iff.mp h
      have h4 := of_decide_eq_true h3.1
      have h5 := of_decide_eq_true h3.2
      obtain ⟨h6, h7⟩ := (h1 R).mp ⟨hR, by simpa using h4⟩
      subst h6
      exact ⟨h7, h2.mp h5⟩
  · rintro ⟨h3, h4⟩
    obtain ⟨h5, h6⟩ := (h1 w).mpr ⟨rfl, h3⟩
    rw [h5]
    show (decide (w.length = w.length) && decide (foP M n w = some w)) = true
    rw [Bool.and_eq_true_iff]
    exact ⟨decide_eq_true rfl, decide_eq_true (h2.mpr h4)⟩
/-! no turn is great in twelve -/
def nrm (n : Nat) (v : Nat → Int) : Int := sm n (fun j => (v j).natAbs)
theorem nrm_rfx {M : Nat → Nat → Int} (hM : mB M) {n : Nat} {v : Nat → Int} {c : Nat} (hc : c < n) : nrm n (rfx M n v c) ≤ 5 * nrm n v ∧ ((rfx M n v c c).natAbs : Int) ≤ 5 * nrm n v := by
  have hs : ((sm n (fun j => M c j * v j)).natAbs : Int) ≤ 4 * nrm n v := by
    unfold nrm
    rw [← sm_mul]
    have h1 : ∀ k, ((sm k (fun j => M c j * v j)).natAbs : Int) ≤ sm k (fun i => 4 * ((v i).natAbs : Int)) := by
      intro k
      induction k with
      | zero => simp [sm]
      | succ k ih =>
        rw [sm, sm]
        have hm := hM.2 c k
        have h2 : ((M c k * v k).natAbs : Int) ≤ 4 * ((v k).natAbs : Int) := by
          rw [Int.natAbs_mul, Int.natCast_mul]
          exact Int.mul_le_mul_of_nonneg_right (by omega) (by omega)
        have h3 := Int.natAbs_add_le (sm k (fun j => M c j * v j)) (M c k * v k)
        omega
    exact h1 n
  have hcn : ((v c).natAbs : Int) ≤ nrm n v := sm_ge (f := fun j => ((v j).natAbs : Int)) (fun i _ => by omega) hc
  have hv : rfx M n v c c = -(v c) + sm n (fun j => M c j * v j) := by
    unfold rfx prg
    rw [if_pos rfl]
    omega
  have hb : ((rfx M n v c c).natAbs : Int) ≤ (v c).natAbs + 4 * nrm n v := by
    rw [hv]
    have h3 := Int.natAbs_add_le (-(v c)) (sm n (fun j => M c j * v j))
    omega
  refine ⟨?_, by omega⟩
  have hsplit : nrm n (rfx M n v c) = nrm n v + (((rfx M n v c c).natAbs : Int) - (v c).natAbs) := by
    have h1 : ∀ k, sm k (fun j => ((rfx M n v c j).natAbs : Int)) = sm k (fun j => ((v j).natAbs : Int)) + (if c < k then (((rfx M n v c c).natAbs : Int) - (v c).natAbs) else 0) := by
      intro k
      induction k with
      | zero => simp [sm]
      | succ k ih =>
        rw [sm, sm, ih]
        by_cases e : k = c
        · subst e
          rw [if_neg (by omega), if_pos (by omega)]
          omega
        · have : rfx M n v c k = v k := by unfold rfx; rw [if_neg e]
          rw [this]
          by_cases e2 : c < k
          · rw [if_pos e2, if_pos (by omega)]; omega
          · rw [if_neg e2, if_neg (by omega)]; omega
    have := h1 n
    rw [if_pos hc] at this
    exact this
  omega
theorem nrm_own (n s : Nat) : nrm n (ownV s) ≤ 1 := by
  unfold nrm
  have h1 : ∀ k, sm k (fun j => ((ownV s j).natAbs : Int)) = if s < k then 1 else 0 := by
    intro k
    induction k with
    | zero => simp [sm]
    | succ k ih =>
      rw [sm, ih]
      unfold ownV
      by_cases e : k = s
      · subst e
        rw [if_neg (by omega), if_pos rfl, if_pos (by omega)]
        rfl
      · rw [if_neg e]
        by_cases e2 : s < k
        · rw [if_pos e2, if_pos (by omega)]; rfl
        · rw [if_neg e2, if_neg (by omega)]; rfl
  rw [h1]
  split <;> omega
theorem bhd_ng {M : Nat → Nat → Int} (hM : mB M) {n : Nat} {R : List Nat} (hR : ∀ i, i ∈ R → i < n) : ∀ (x : Nat) (v : Nat → Int), x ≤ R.length → nrm n v * 5 ^ x ≤ 1000000000000 → bhd M n R x v ≠ -4
  | 0, v, _, _ => by rw [bhd]; decide
  | x + 1, v, hx, hb => by
    have hl : R.getD x 0 < n := hR _ (by rw [List.getD_eq_getElem?_getD, List.getElem?_eq_getElem (by omega)]; exact List.getElem_mem _)
    obtain ⟨h1, h2⟩ := nrm_rfx hM (v := v) hl
    have h0 : 0 ≤ nrm n v := sm_nonneg (fun i _ => by omega)
    have h5 : 0 < (5 : Int) ^ x := Int.pow_pos (by decide)
    have hb2 : 5 * nrm n v * 5 ^ x ≤ 1000000000000 := by
      have : nrm n v * 5 ^ (x + 1) = 5 * nrm n v * 5 ^ x := by rw [Int.pow_succ]; rw [Int.mul_comm (5 ^ x) 5, ← Int.mul_assoc, Int.mul_comm (nrm n v) 5]
      omega
    have hb3 : 5 * nrm n v ≤ 1000000000000 := by
      have : 5 * nrm n v * 1 ≤ 5 * nrm n v * 5 ^ x := Int.mul_le_mul_of_nonneg_left (by omega) (by omega)
      omega
    rw [bhd]
    split
    · omega
    · rw [if_neg (by omega)]
      refine bhd_ng hM hR x _ (by omega) ?_
      exact Int.le_trans (Int.mul_le_mul_of_nonneg_right h1 (by omega)) hb2
theorem ahd_ng {M : Nat → Nat → Int} (hM : mB M) {n : Nat} : ∀ (R : List Nat) (k : Nat) (v : Nat → Int), (∀ i, i ∈ R → i < n) → nrm n v * 5 ^ R.length ≤ 1000000000000 → ahd M n R k v ≠ -4
  | [], k, v, _, _ => by rw [ahd]; decide
  | c :: t, k, v, hR, hb => by
    have hl : c < n := hR c List.mem_cons_self
    obtain ⟨h1, h2⟩ := nrm_rfx hM (v := v) hl
    have h0 : 0 ≤ nrm n v := sm_nonneg (fun i _ => by omega)
    have h5 : 0 < (5 : Int) ^ t.length := Int.pow_pos (by decide)
    have hb2 : 5 * nrm n v * 5 ^ t.length ≤ 1000000000000 := by
      have : nrm n v * 5 ^ (c :: t).length = 5 * nrm n v * 5 ^ t.length := by rw [List.length_cons, Int.pow_succ]; rw [Int.mul_comm (5 ^ t.length) 5, ← Int.mul_assoc, Int.mul_comm (nrm n v) 5]
      omega
    have hb3 : 5 * nrm n v ≤ 1000000000000 := by
      have : 5 * nrm n v * 1 ≤ 5 * nrm n v * 5 ^ t.length := Int.mul_le_mul_of_nonneg_left (by omega) (by omega)
      omega
    rw [ahd]
    split
    · omega
    · rw [if_neg (by omega)]
      exact ahd_ng hM t _ _ (fun i hi => hR i (List.mem_cons_of_mem _ hi)) (Int.le_trans (Int.mul_le_mul_of_nonneg_right h1 (by omega)) hb2)
/-! the class's way to the forms -/
def gon (M : Nat → Nat → Int) (n : Nat) (l : List Nat) : Nat → (Nat → Int) → Bool
  | 0, _ => true
  | x + 1, v => if isO n v (l.getD x 0) then false else if (∃ t, t < l.getD x 0 ∧ isO n (rfx M n v (l.getD x 0)) t) then false else gon M n l x (rfx M n v (l.getD x 0))
def zb (n : Nat) (v : Nat → Int) : Prop := ∀ j, n ≤ j → v j = 0
theorem zb_own {n s : Nat} (hs : s < n) : zb n (ownV s) := fun j hj => by unfold ownV; rw [if_neg (by omega)]
theorem zb_rfx {M : Nat → Nat → Int} {n : Nat} {v : Nat → Int} {c : Nat} (h : zb n v) (hc : c < n) : zb n (rfx M n v c) := fun j hj => by unfold rfx; rw [if_neg (by omega)]; exact h j hj
theorem isO_eq {n : Nat} {v : Nat → Int} {c : Nat} (h : zb n v) (hc : c < n) : isO n v c ↔ v = ownV c := by
  constructor
  · intro q
    funext j
    by_cases e : j < n
    · exact q j e
    · rw [h j (by omega), zb_own hc j (by omega)]
  · intro q j _
    rw [q]
theorem act_zb {M : Nat → Nat → Int} {n : Nat} {v : Nat → Int} : ∀ {w : List Nat}, (∀ i, i ∈ w → i < n) → zb n v → zb n (act M n w v)
  | [], _, h => h
  | c :: t, hw, h => zb_rfx (act_zb (fun i hi => hw i (List.mem_cons_of_mem _ hi)) h) (hw c List.mem_cons_self)
theorem drop_c {l : List Nat} {x : Nat} (h : x < l.length) : l.drop x = l.getD x 0 :: l.drop (x + 1) := by
  rw [List.getD_eq_getElem?_getD, List.getElem?_eq_getElem h]
  exact List.drop_eq_getElem_cons h
theorem getD_mem {l : List Nat} {x : Nat} (h : x < l.length) : l.getD x 0 ∈ l := by
  rw [List.getD_eq_getElem?_getD, List.getElem?_eq_getElem h]
  exact List.getElem_mem _
theorem pow5_le {a b : Nat} (h : a ≤ b) : (5 : Int) ^ a ≤ 5 ^ b := by
  have : (5 : Nat) ^ a ≤ 5 ^ b := Nat.pow_le_pow_right (by decide) h
  exact_mod_cast this
theorem nrm_act {M : Nat → Nat → Int} (hM : mB M) {n s : Nat} : ∀ {w : List Nat}, (∀ i, i ∈ w → i < n) → nrm n (act M n w (ownV s)) ≤ 5 ^ w.length
  | [], _ => nrm_own n s
  | c :: t, hw => by
    have h1 := nrm_act hM (s := s) (w := t) (fun i hi => hw i (List.mem_cons_of_mem _ hi))
    have h2 := (nrm_rfx hM (v := act M n t (ownV s)) (hw c List.mem_cons_self)).1
    show nrm n (rfx M n (act M n t (ownV s)) c) ≤ 5 ^ (t.length + 1)
    rw [Int.pow_succ]
    omega
theorem bhd_act {M : Nat → Nat → Int} (hM : mB M) {n s : Nat} {l : List Nat} (hl : ∀ i, i ∈ l → i < n) (hs : s < n) (h12 : l.length ≤ 12) : ∀ x, x ≤ l.length → (bhd M n l x (act M n (l.drop x) (ownV s)) = -1 ↔ ∀ y, y < x → act M n (l.drop (y + 1)) (ownV s) ≠ ownV (l.getD y 0))
  | 0, _ => by rw [bhd]; exact ⟨fun _ y hy => by omega, fun _ => rfl⟩
  | x + 1, hx => by
    have hd : ∀ i, i ∈ l.drop (x + 1) → i < n := fun i hi => hl i (List.mem_of_mem_drop hi)
    have hc : l.getD x 0 < n := hl _ (getD_mem (by omega))
    have hz := act_zb (M := M) (v := ownV s) hd (zb_own hs)
    have ih := bhd_act hM hl hs h12 x (by omega)
    have hng := bhd_ng hM hl (x + 1) (act M n (l.drop (x + 1)) (ownV s)) hx (by
      have h1 := nrm_act hM (s := s) hd
      rw [List.length_drop] at h1
      have h2 : (5 : Int) ^ (l.length - (x + 1)) * 5 ^ (x + 1) ≤ 5 ^ 12 := by
        rw [← Int.pow_add]
        exact pow5_le (by omega)
      have h3 : (0 : Int) ≤ 5 ^ (x + 1) := Int.le_of_lt (Int.pow_pos (by decide))
      have h4 := Int.mul_le_mul_of_nonneg_right h1 h3
      have h5 : (5 : Int) ^ 12 = 244140625 := by decide
      omega)
    rw [bhd] at hng ⊢
    by_cases e : isO n (act M n (l.drop (x + 1)) (ownV s)) (l.getD x 0)
    · rw [if_pos e]
      exact ⟨fun q => by omega, fun q => absurd ((isO_eq hz hc).mp e) (q x (by omega))⟩
    · rw [if_neg e] at hng ⊢
      by_cases e2 : grt (rfx M n (act M n (l.drop (x + 1)) (ownV s)) (l.getD x 0) (l.getD x 0))
      · rw [if_pos e2] at hng
        exact absurd rfl hng
      · rw [if_neg e2]
        have e3 : rfx M n (act M n (l.drop (x + 1)) (ownV s)) (l.getD x 0) = act M n (l.drop x) (ownV s) := by rw [drop_c (show x < l.length by omega)]; rfl
        rw [e3, ih]
        constructor
        · intro q y hy
          by_cases ey : y = x
          · subst ey
            exact fun z => e ((isO_eq hz hc).mpr z)
          · exact q y (by omega)
        · intro q y hy
          exact q y (by omega)
theorem gon_act {M : Nat → Nat → Int} {n s : Nat} {l : List Nat} (hl : ∀ i, i ∈ l → i < n) (hs : s < n) : ∀ x, x ≤ l.length → (gon M n l x (act M n (l.drop x) (ownV s)) = true ↔ ∀ y, y < x → act M n (l.drop (y + 1)) (ownV s) ≠ ownV (l.getD y 0) ∧ ∀ t, t < l.getD y 0 → act M n (l.drop y) (ownV s) ≠ ownV t)
  | 0, _ => by rw [gon]; exact ⟨fun _ y hy => by omega, fun _ => rfl⟩
  | x + 1, hx => by
    have hd : ∀ i, i ∈ l.drop (x + 1) → i < n := fun i hi => hl i (List.mem_of_mem_drop hi)
    have hd0 : ∀ i, i ∈ l.drop x → i < n := fun i hi => hl i (List.mem_of_mem_drop hi)
    have hc : l.getD x 0 < n := hl _ (getD_mem (by omega))
    have hz := act_zb (M := M) (v := ownV s) hd (zb_own hs)
    have hz0 := act_zb (M := M) (v := ownV s) hd0 (zb_own hs)
    have ih := gon_act (M := M) hl hs x (by omega)
    have e3 : rfx M n (act M n (l.drop (x + 1)) (ownV s)) (l.getD x 0) = act M n (l.drop x) (ownV s) := by rw [drop_c (show x < l.length by omega)]; rfl
    rw [gon, e3]
    by_cases e : isO n (act M n (l.drop (x + 1)) (ownV s)) (l.getD x 0)
    · rw [if_pos e]
      exact ⟨fun q => (by cases q), fun q => absurd ((isO_eq hz hc).mp e) (q x (by omega)).1⟩
    · rw [if_neg e]
      by_cases e2 : ∃ t, t < l.getD x 0 ∧ isO n (act M n (l.drop x) (ownV s)) t
      · rw [if_pos e2]
        obtain ⟨t, ht, h2⟩ := e2
        exact ⟨fun q => (by cases q), fun q => absurd ((isO_eq hz0 (by omega)).mp h2) ((q x (by omega)).2 t ht)⟩
      · rw [if_neg e2, ih]
        constructor
        · intro q y hy
          by_cases ey : y = x
          · subst ey
            exact ⟨fun z => e ((isO_eq hz hc).mpr z), fun t ht z => e2 ⟨t, ht, (isO_eq hz0 (by omega)).mpr z⟩⟩
          · exact q y (by omega)
        · intro q y hy
          exact q y (by omega)
/-- from the front -/
def wkF (M : Nat → Nat → Int) (n : Nat) : List Nat → (Nat → Int) → Nat → Int
  | [], x => x
  | c :: t, x => wkF M n t (rfx M n x c)
theorem wkF_act {M : Nat → Nat → Int} (hM : mB M) {n : Nat} : ∀ (w : List Nat) (x y : Nat → Int), wkF M n w x = y ↔ x = act M n w y
  | [], x, y => Iff.rfl
  | c :: t, x, y => by
    show wkF M n t (rfx M n x c) = y ↔ x = rfx M n (act M n t y) c
    rw [wkF_act hM t]
    constructor
    · intro h
      rw [← h, rfx_rfx (hM.1 c)]
    · intro h
      rw [h, rfx_rfx (hM.1 c)]
theorem wkF_zb {M : Nat → Nat → Int} {n : Nat} : ∀ {w : List Nat} {x : Nat → Int}, (∀ i, i ∈ w → i < n) → zb n x → zb n (wkF M n w x)
  | [], _, _, h => h
  | c :: t, x, hw, h => wkF_zb (w := t) (fun i hi => hw i (List.mem_cons_of_mem _ hi)) (zb_rfx h (hw c List.mem_cons_self))
theorem ahd_app {M : Nat → Nat → Int} {n s : Nat} : ∀ (w : List Nat) (k : Nat) (x : Nat → Int), ahd M n w k x = -1 → ahd M n (w ++ [s]) k x ≠ -4 → (ahd M n (w ++ [s]) k x = -1 ↔ ¬ isO n (wkF M n w x) s)
  | [], k, x, _, hg => by
    rw [List.nil_append, ahd] at hg ⊢
    by_cases e : isO n x s
    · rw [if_pos e]
      exact ⟨fun q => by omega, fun q => absurd e q⟩
    · rw [if_neg e] at hg ⊢
      by_cases e2 : grt (rfx M n x s s)
      · rw [if_pos e2] at hg
        exact absurd rfl hg
      · rw [if_neg e2, ahd]
        exact ⟨fun _ => e, fun _ => rfl⟩
  | c :: t, k, x, h, hg => by
    rw [ahd] at h
    rw [List.cons_append, ahd] at hg ⊢
    by_cases e : isO n x c
    · rw [if_pos e] at h; omega
    · rw [if_neg e] at h hg ⊢
      by_cases e2 : grt (rfx M n x c c)
      · rw [if_pos e2] at hg
        exact absurd rfl hg
      · rw [if_neg e2] at h hg ⊢
        exact ahd_app t (k + 1) _ h hg
theorem ah_ng {M : Nat → Nat → Int} (hM : mB M) {n : Nat} {R : List Nat} (hR : ∀ i, i ∈ R → i < n) (h12 : R.length ≤ 12) (t : Nat) : ah M n R t ≠ -4 := ahd_ng hM R 0 _ hR (by
  have h1 := nrm_own n t
  have h2 := pow5_le h12
  have h3 : (0 : Int) ≤ 5 ^ R.length := Int.le_of_lt (Int.pow_pos (by decide))
  have h4 := Int.mul_le_mul_of_nonneg_right h1 h3
  have h5 : (5 : Int) ^ 12 = 244140625 := by decide
  omega)
theorem getD_app1 {l m : List Nat} {i : Nat} (h : i < l.length) : (l ++ m).getD i 0 = l.getD i 0 := by
  rw [List.getD_eq_getElem?_getD, List.getD_eq_getElem?_getD, List.getElem?_append_left h]
theorem getD_app2 {l : List Nat} {s : Nat} : (l ++ [s]).getD l.length 0 = s := by
  rw [List.getD_eq_getElem?_getD, List.getElem?_append_right (Nat.le_refl _), Nat.sub_self]
  rfl
theorem gon_isF {M : Nat → Nat → Int} (hM : mB M) {n s : Nat} {l : List Nat} (hl : ∀ i, i ∈ l → i < n) (hs : s < n) (h12 : l.length ≤ 11) (hF : isFb M n l = true) : gon M n l l.length (ownV s) = true ↔ isFb M n (l ++ [s]) = true := by
  have hw : ∀ i, i ∈ l ++ [s] → i < n := fun i hi => by
    rcases List.mem_append.mp hi with h | h
    · exact hl i h
    · rw [List.mem_singleton.mp h]; exact hs
  obtain ⟨f1, f2⟩ := (isFb_p hl).mp hF
  rw [isFb_p hw]
  have hg := gon_act (M := M) hl hs l.length (Nat.le_refl _)
  have hb := bhd_act hM hl hs (by omega) l.length (Nat.le_refl _)
  rw [show act M n (l.drop l.length) (ownV s) = ownV s by rw [List.drop_length]; rfl] at hg hb
  rw [hg]
  have hah : ∀ i, i ≤ l.length → ∀ t, t < n → ah M n (l.drop i) t = -1 → (ah M n ((l ++ [s]).drop i) t = -1 ↔ act M n (l.drop i) (ownV s) ≠ ownV t) := by
    intro i hi t ht h1
    have hd : ∀ j, j ∈ l.drop i → j < n := fun j hj => hl j (List.mem_of_mem_drop hj)
    have hng := ah_ng hM (R := (l ++ [s]).drop i) (fun j hj => hw j (List.mem_of_mem_drop hj)) (by simp only [List.length_drop, List.length_append, List.length_cons, List.length_nil]; omega) t
    rw [List.drop_append_of_le_length hi] at hng ⊢
    have h2 := ahd_app (M := M) (n := n) (s := s) (l.drop i) 0 (ownV t) h1 hng
    unfold ah
    rw [h2, isO_eq (wkF_zb hd (zb_own ht)) hs, wkF_act hM]
    exact ⟨fun q z => q z.symm, fun q z => q z.symm⟩
  constructor
  · intro q
    refine ⟨fun i hi => ?_, fun i hi t ht => ?_⟩
    · simp only [List.length_append, List.length_cons, List.length_nil] at hi
      by_cases e : i < l.length
      · rw [List.take_append_of_le_length (by omega), getD_app1 e]
        exact f1 i e
      · have ei : i = l.length := by omega
        subst ei
        rw [List.take_append_of_le_length (Nat.le_refl _), List.take_length, getD_app2]
        exact hb.mpr (fun y hy => (q y hy).1)
    · simp only [List.length_append, List.length_cons, List.length_nil] at hi
      by_cases e : i < l.length
      · rw [getD_app1 e] at ht
        have hc := hl _ (getD_mem e)
        exact (hah i (by omega) t (by omega) (f2 i e t ht)).mpr ((q i e).2 t ht)
      · have ei : i = l.length := by omega
        subst ei
        rw [getD_app2] at ht
        refine (hah l.length (Nat.le_refl _) t (by omega) (by rw [List.drop_length]; rfl)).mpr ?_
        rw [List.drop_length]
        intro z
        have := congrFun z t
        change ownV s t = ownV t t at this
        unfold ownV at this
        rw [if_neg (by omega), if_pos rfl] at this
        omega
  · rintro ⟨q1, q2⟩ y hy
    have hlen : y < (l ++ [s]).length := by simp only [List.length_append, List.length_cons, List.length_nil]; omega
    refine ⟨hb.mp ?_ y hy, fun t ht => ?_⟩
    · have := q1 l.length (by simp)
      rw [List.take_append_of_le_length (Nat.le_refl _), List.take_length, getD_app2] at this
      exact this
    · have hc := hl _ (getD_mem hy)
      have h3 := q2 y hlen t (by rw [getD_app1 hy]; exact ht)
      exact (hah y (by omega) t (by omega) (f2 y hy t ht)).mp h3
end
