section
/-! WORDS: what is short, what is the form, apart from how a side keeps them -/
def clM (n : Nat) (M : Nat → Nat → Int) : Nat → Nat → Int := fun i j => if i < n ∧ j < n then M i j else 0
def vC (n : Nat) (f : Int → Int) : Nat → Int := fun j => if j < n then f (j : Int) else 0
abbrev isO (n : Nat) (v : Nat → Int) (c : Nat) : Prop := ∀ j, j < n → v j = ownV c j
abbrev grt (z : Int) : Prop := ¬ (-1000000000000 ≤ z ∧ z ≤ 1000000000000)
/-- which of the first x letters of R goes, v coming from behind; -1: none; -4: great -/
def bhd (M : Nat → Nat → Int) (n : Nat) (R : List Nat) : Nat → (Nat → Int) → Int
  | 0, _ => -1
  | x + 1, v => if isO n v (R.getD x 0) then (x : Int) else if grt (rfx M n v (R.getD x 0) (R.getD x 0)) then -4 else bhd M n R x (rfx M n v (R.getD x 0))
def ahd (M : Nat → Nat → Int) (n : Nat) : List Nat → Nat → (Nat → Int) → Int
  | [], _, _ => -1
  | c :: t, k, v => if isO n v c then (k : Int) else if grt (rfx M n v c c) then -4 else ahd M n t (k + 1) (rfx M n v c)
def bh (M : Nat → Nat → Int) (n : Nat) (R : List Nat) (s : Nat) : Int := bhd M n R R.length (ownV s)
def ah (M : Nat → Nat → Int) (n : Nat) (R : List Nat) (s : Nat) : Int := ahd M n R 0 (ownV s)
def shoP (M : Nat → Nat → Int) (n : Nat) : List Nat → List Nat → Option (List Nat)
  | R, [] => some R
  | R, c :: t => if bh M n R c = -4 then none else if bh M n R c = -1 then shoP M n (R ++ [c]) t else shoP M n (R.eraseIdx (bh M n R c).toNat) t
/-- the least s of the last f mirrors, of those in J, that goes ahead of R, and its place; -1: none; -4: great -/
def ldn (M : Nat → Nat → Int) (n : Nat) (J : Nat → Bool) (R : List Nat) : Nat → Nat × Int
  | 0 => (n, -1)
  | f + 1 => if J (n - (f + 1)) = true then (if ah M n R (n - (f + 1)) = -1 then ldn M n J R f else (n - (f + 1), ah M n R (n - (f + 1)))) else ldn M n J R f
def frm (M : Nat → Nat → Int) (n : Nat) (J : Nat → Bool) : Nat → List Nat → List Nat → Option (List Nat × List Nat)
  | 0, R, F => some (R, F)
  | f + 1, R, F => if (ldn M n J R n).2 = -4 then none else if (ldn M n J R n).2 = -1 then some (R, F) else frm M n J f (R.eraseIdx (ldn M n J R n).2.toNat) (F ++ [(ldn M n J R n).1])
def aJ : Nat → Bool := fun _ => true
def foP (M : Nat → Nat → Int) (n : Nat) (R : List Nat) : Option (List Nat) := (frm M n aJ R.length R []).map (fun q => q.2)
def fwP (M : Nat → Nat → Int) (n : Nat) (W : List Nat) : Option (List Nat) := (shoP M n [] W).bind (foP M n)
theorem bhd_r (M : Nat → Nat → Int) (n : Nat) (R : List Nat) : ∀ (x : Nat) (v : Nat → Int), bhd M n R x v = -4 ∨ (-1 ≤ bhd M n R x v ∧ bhd M n R x v < x)
  | 0, _ => Or.inr ⟨Int.le_refl _, by show (-1 : Int) < 0; decide⟩
  | x + 1, v => by
    rw [bhd]
    split
    · exact Or.inr ⟨by omega, by omega⟩
    · split
      · exact Or.inl rfl
      · rcases bhd_r M n R x (rfx M n v (R.getD x 0)) with h | h
        · exact Or.inl h
        · exact Or.inr ⟨h.1, by omega⟩
theorem ahd_r (M : Nat → Nat → Int) (n : Nat) : ∀ (R : List Nat) (k : Nat) (v : Nat → Int), ahd M n R k v = -4 ∨ ahd M n R k v = -1 ∨ ((k : Int) ≤ ahd M n R k v ∧ ahd M n R k v < (k : Int) + R.length)
  | [], _, _ => Or.inr (Or.inl rfl)
  | c :: t, k, v => by
    rw [ahd]
    split
    · exact Or.inr (Or.inr ⟨by omega, by simp only [List.length_cons]; omega⟩)
    · split
      · exact Or.inl rfl
      · rcases ahd_r M n t (k + 1) (rfx M n v c) with h | h | h
        · exact Or.inl h
        · exact Or.inr (Or.inl h)
        · exact Or.inr (Or.inr ⟨by omega, by simp only [List.length_cons]; omega⟩)
theorem bh_r (M : Nat → Nat → Int) (n : Nat) (R : List Nat) (s : Nat) : bh M n R s = -4 ∨ (-1 ≤ bh M n R s ∧ bh M n R s < R.length) := bhd_r M n R R.length (ownV s)
theorem ah_r (M : Nat → Nat → Int) (n : Nat) (R : List Nat) (s : Nat) : ah M n R s = -4 ∨ ah M n R s = -1 ∨ (0 ≤ ah M n R s ∧ ah M n R s < R.length) := by
  have h := ahd_r M n R 0 (ownV s)
  unfold ah
  omega
theorem ah_hd (M : Nat → Nat → Int) (n : Nat) (c : Nat) (t : List Nat) : ah M n (c :: t) c = 0 := by
  unfold ah
  rw [ahd, if_pos (fun j _ => rfl)]
  rfl
theorem shoP_p {M : Nat → Nat → Int} {n : Nat} : ∀ {W R R' : List Nat}, shoP M n R W = some R' → (∀ i, i ∈ R → i < n) → (∀ i, i ∈ W → i < n) → (∀ i, i ∈ R' → i < n) ∧ R'.length ≤ R.length + W.length
  | [], R, R', h, hR, _ => by
    rw [shoP] at h
    cases h
    exact ⟨hR, by simp⟩
  | c :: t, R, R', h, hR, hW => by
    rw [shoP] at h
    have ht : ∀ i, i ∈ t → i < n := fun i hi => hW i (List.mem_cons_of_mem _ hi)
    split at h
    · cases h
    · split at h
      · have q := shoP_p h (fun i hi => by
          rcases List.mem_append.mp hi with g | g
          · exact hR i g
          · rw [List.mem_singleton.mp g]; exact hW c List.mem_cons_self) ht
        exact ⟨q.1, by have := q.2; simp only [List.length_append, List.length_cons, List.length_nil] at this ⊢; omega⟩
      · have q := shoP_p h (fun i hi => hR i (List.mem_of_mem_eraseIdx hi)) ht
        exact ⟨q.1, by have := q.2; have := List.length_eraseIdx_le (l := R) (i := (bh M n R c).toNat); simp only [List.length_cons] at this ⊢; omega⟩
theorem ldn_r (M : Nat → Nat → Int) (n : Nat) (J : Nat → Bool) (R : List Nat) : ∀ f, f ≤ n → ((ldn M n J R f).2 = -1 ∧ (ldn M n J R f).1 = n) ∨ ((ldn M n J R f).2 = ah M n R (ldn M n J R f).1 ∧ (ldn M n J R f).2 ≠ -1 ∧ n - f ≤ (ldn M n J R f).1 ∧ (ldn M n J R f).1 < n ∧ J (ldn M n J R f).1 = true)
  | 0, _ => Or.inl ⟨rfl, rfl⟩
  | f + 1, h => by
    rw [ldn]
    have ih := ldn_r M n J R f (by omega)
    split
    · rename_i hJ
      split
      · rcases ih with q | q
        · exact Or.inl q
        · exact Or.inr ⟨q.1, q.2.1, by omega, q.2.2.2⟩
      · rename_i hne
        exact Or.inr ⟨rfl, hne, Nat.le_refl _, by show n - (f + 1) < n; omega, hJ⟩
    · rcases ih with q | q
      · exact Or.inl q
      · exact Or.inr ⟨q.1, q.2.1, by omega, q.2.2.2⟩
theorem ldn_le (M : Nat → Nat → Int) (n : Nat) (J : Nat → Bool) (R : List Nat) : ∀ f, f ≤ n → ∀ s, n - f ≤ s → s < n → J s = true → ah M n R s ≠ -1 → (ldn M n J R f).2 ≠ -1 ∧ (ldn M n J R f).1 ≤ s
  | 0, _ => fun s a b => by omega
  | f + 1, h => fun s a b hJ hs => by
    have ih := ldn_le M n J R f (by omega) s
    rw [ldn]
    by_cases e : n - (f + 1) = s
    · subst e
      rw [if_pos hJ, if_neg hs]
      exact ⟨hs, Nat.le_refl _⟩
    · have ih := ih (by omega) b hJ hs
      split
      · split
        · exact ih
        · rename_i hne
          exact ⟨hne, by show n - (f + 1) ≤ s; omega⟩
      · exact ih
theorem ldn_hd {M : Nat → Nat → Int} {n : Nat} {c : Nat} {t : List Nat} (hc : c < n) : (ldn M n aJ (c :: t) n).2 ≠ -1 := (ldn_le M n aJ (c :: t) n (Nat.le_refl _) c (by omega) hc rfl (by rw [ah_hd]; decide)).1
theorem ldn_pl {M : Nat → Nat → Int} {n : Nat} {J : Nat → Bool} {R : List Nat} (h1 : (ldn M n J R n).2 ≠ -1) (h4 : (ldn M n J R n).2 ≠ -4) : (ldn M n J R n).1 < n ∧ 0 ≤ (ldn M n J R n).2 ∧ (ldn M n J R n).2 < R.length := by
  rcases ldn_r M n J R n (Nat.le_refl _) with q | q
  · exact absurd q.1 h1
  · have := ah_r M n R (ldn M n J R n).1
    rw [← q.1] at this
    exact ⟨q.2.2.2.1, by omega, by omega⟩
theorem frm_p {M : Nat → Nat → Int} {n : Nat} {J : Nat → Bool} : ∀ {f : Nat} {R F R' F' : List Nat}, frm M n J f R F = some (R', F') → (∀ i, i ∈ R → i < n) → (∀ i, i ∈ F → i < n) → (∀ i, i ∈ R' → i < n) ∧ (∀ i, i ∈ F' → i < n) ∧ R'.length + F'.length = R.length + F.length
  | 0, R, F, R', F', h, hR, hF => by
    rw [frm] at h
    cases h
    exact ⟨hR, hF, rfl⟩
  | f + 1, R, F, R', F', h, hR, hF => by
    rw [frm] at h
    split at h
    · cases h
    · rename_i h4
      split at h
      · cases h
        exact ⟨hR, hF, rfl⟩
      · rename_i h1
        have hp := ldn_pl h1 h4
        obtain ⟨a, b, c⟩ := frm_p h (fun i hi => hR i (List.mem_of_mem_eraseIdx hi)) (fun i hi => by
          rcases List.mem_append.mp hi with g | g
          · exact hF i g
          · rw [List.mem_singleton.mp g]; exact hp.1)
        refine ⟨a, b, ?_⟩
        rw [List.length_eraseIdx_of_lt (by omega)] at c
        simp only [List.length_append, List.length_cons, List.length_nil] at c
        omega
theorem frm_nil {M : Nat → Nat → Int} {n : Nat} : ∀ {f : Nat} {R F R' F' : List Nat}, frm M n aJ f R F = some (R', F') → R.length ≤ f → (∀ i, i ∈ R → i < n) → R' = []
  | 0, R, F, R', F', h, hl, _ => by
    rw [frm] at h
    cases h
    exact List.eq_nil_of_length_eq_zero (by omega)
  | f + 1, [], F, R', F', h, _, _ => by
    rw [frm] at h
    split at h
    · cases h
    · rename_i h4
      split at h
      · cases h; rfl
      · rename_i h1
        have hp := ldn_pl h1 h4
        simp only [List.length_nil] at hp
        omega
  | f + 1, c :: t, F, R', F', h, hl, hR => by
    rw [frm] at h
    split at h
    · cases h
    · rename_i h4
      split at h
      · rename_i h1
        exact absurd h1 (ldn_hd (hR c List.mem_cons_self))
      · rename_i h1
        have hp := ldn_pl h1 h4
        exact frm_nil h (by rw [List.length_eraseIdx_of_lt (by omega)]; omega) (fun i hi => hR i (List.mem_of_mem_eraseIdx hi))
theorem foP_p {M : Nat → Nat → Int} {n : Nat} {R F : List Nat} (h : foP M n R = some F) (hR : ∀ i, i ∈ R → i < n) : (∀ i, i ∈ F → i < n) ∧ F.length = R.length := by
  unfold foP at h
  obtain ⟨⟨R', F'⟩, h1, h2⟩ := Option.map_eq_some_iff.mp h
  cases h2
  have a := frm_p h1 hR (fun i hi => by cases hi)
  have b := frm_nil h1 (Nat.le_refl _) hR
  rw [b] at a
  have e := a.2.2
  simp only [List.length_nil] at e
  exact ⟨a.2.1, by show F'.length = R.length; omega⟩
theorem fwP_p {M : Nat → Nat → Int} {n : Nat} {W F : List Nat} (h : fwP M n W = some F) (hW : ∀ i, i ∈ W → i < n) : (∀ i, i ∈ F → i < n) ∧ F.length ≤ W.length := by
  unfold fwP at h
  obtain ⟨R, h1, h2⟩ := Option.bind_eq_some_iff.mp h
  have a := shoP_p h1 (fun i hi => by cases hi) hW
  have b := foP_p h2 a.1
  simp only [List.length_nil] at a
  exact ⟨b.1, by omega⟩
end
section
/-! what turns a root, on either side -/
def mG (n : Nat) (f : Int → Int) : Nat → Nat → Int := clM n (mxz f)
abbrev bdd (n : Int) (f : Int → Int) : Prop := ∀ j, 0 ≤ j → j < n → -1000000000000 ≤ f j ∧ f j ≤ 1000000000000
/-- number a of a root as it is turned -/
theorem tvc_rfx {mt v : Int → Int} {n a : Int} (hn : 0 ≤ n ∧ n ≤ 6) (a0 : 0 ≤ a) (a1 : a < n) : tvc mt v a n = rfx (mG n.toNat mt) n.toNat (vC n.toNat v) a.toNat a.toNat := by
  unfold tvc rfx prg
  rw [if_pos rfl]
  have e1 : vC n.toNat v a.toNat = v a := by unfold vC; rw [if_pos (by omega), Int.toNat_of_nonneg a0]
  have e2 : sm n.toNat (fun k => mt (6 * a + (k : Int)) * v (k : Int)) = sm n.toNat (fun j => mG n.toNat mt a.toNat j * vC n.toNat v j) := sm_congr (fun j hj => by
    unfold mG clM vC mxz
    rw [if_pos ⟨by omega, hj⟩, if_pos hj, Int.toNat_of_nonneg a0])
  rw [e1, e2]
  omega
theorem sm_abs {n : Nat} {f : Nat → Int} {c : Int} (h : ∀ i, i < n → -c ≤ f i ∧ f i ≤ c) : -(n * c) ≤ sm n f ∧ sm n f ≤ n * c := by
  induction n with
  | zero => simp [sm]
  | succ n ih =>
    have h1 := ih (fun i hi => h i (by omega))
    have h2 := h n (by omega)
    rw [sm]
    have e : ((n + 1 : Nat) : Int) * c = n * c + c := by rw [Int.natCast_add, Int.add_mul]; simp
    omega
theorem tvc_bd {mt v : Int → Int} {n a : Int} (hn : 0 ≤ n ∧ n ≤ 6) (a0 : 0 ≤ a) (a1 : a < n) (hm : ∀ j, 0 ≤ j → j < n → 0 ≤ mt (6 * a + j) ∧ mt (6 * a + j) ≤ 4) (hb : bdd n v) : -25000000000000 ≤ tvc mt v a n ∧ tvc mt v a n ≤ 25000000000000 := by
  unfold tvc
  have h1 := sm_abs (n := n.toNat) (f := fun k => mt (6 * a + (k : Int)) * v (k : Int)) (c := 4000000000000) (fun i hi => by
    have h2 := hm (i : Int) (by omega) (by omega)
    have h3 := hb (i : Int) (by omega) (by omega)
    show _ ≤ mt (6 * a + (i : Int)) * v (i : Int) ∧ mt (6 * a + (i : Int)) * v (i : Int) ≤ _
    generalize mt (6 * a + (i : Int)) = m at *
    generalize v (i : Int) = z at *
    rcases (show m = 0 ∨ m = 1 ∨ m = 2 ∨ m = 3 ∨ m = 4 by omega) with e | e | e | e | e <;> subst e <;> omega)
  have h2 := hb a a0 a1
  omega
/-- one turn -/
theorem turn_C {mt v v' : Int → Int} {n a : Int} (hn : 0 ≤ n ∧ n ≤ 6) (a0 : 0 ≤ a) (a1 : a < n) (hm : ∀ j, 0 ≤ j → j < n → 0 ≤ mt (6 * a + j) ∧ mt (6 * a + j) ≤ 4) (hb : bdd n v) (hv : v' a = tvc mt v a n) (ho : ∀ j, j ≠ a → v' j = v j) : vC n.toNat v' = rfx (mG n.toNat mt) n.toNat (vC n.toNat v) a.toNat ∧ nl (tvc mt v a n) = rfx (mG n.toNat mt) n.toNat (vC n.toNat v) a.toNat a.toNat ∧ (¬ grt (rfx (mG n.toNat mt) n.toNat (vC n.toNat v) a.toNat a.toNat) → bdd n v') := by
  have hr := tvc_rfx (mt := mt) (v := v) hn a0 a1
  have hbd := tvc_bd hn a0 a1 hm hb
  refine ⟨?_, by rw [nl_e (by omega), hr], fun hg => ?_⟩
  · funext j
    by_cases hj : j < n.toNat
    · by_cases e : j = a.toNat
      · subst e
        rw [← hr, ← hv]
        unfold vC
        rw [if_pos hj, Int.toNat_of_nonneg a0]
      · have e1 : rfx (mG n.toNat mt) n.toNat (vC n.toNat v) a.toNat j = vC n.toNat v j := by unfold rfx; rw [if_neg e]
        rw [e1]
        unfold vC
        rw [if_pos hj, if_pos hj, ho _ (by omega)]
    · have e1 : rfx (mG n.toNat mt) n.toNat (vC n.toNat v) a.toNat j = vC n.toNat v j := by unfold rfx; rw [if_neg (by omega)]
      rw [e1]
      unfold vC
      rw [if_neg hj, if_neg hj]
  · intro j j0 j1
    by_cases e : j = a
    · rw [e, hv, hr]
      exact Decidable.not_not.mp hg
    · rw [ho j e]
      exact hb j j0 j1
theorem own_C {v : Int → Int} {n a : Int} (hn : 0 ≤ n ∧ n ≤ 6) (a0 : 0 ≤ a) (hb : bdd n v) : (∀ j, 0 ≤ j → j < n → nl (v j) = if j = a then 1 else 0) ↔ isO n.toNat (vC n.toNat v) a.toNat := by
  constructor
  · intro h j hj
    have h1 := h (j : Int) (by omega) (by omega)
    rw [nl_e (by have := hb (j : Int) (by omega) (by omega); omega)] at h1
    unfold vC ownV
    rw [if_pos hj, h1]
    by_cases e : (j : Int) = a
    · rw [if_pos e, if_pos (by omega)]
    · rw [if_neg e, if_neg (by omega)]
  · intro h j j0 j1
    have h1 := h j.toNat (by omega)
    unfold vC ownV at h1
    rw [if_pos (by omega), Int.toNat_of_nonneg j0] at h1
    rw [nl_e (by have := hb j j0 j1; omega), h1]
    by_cases e : j = a
    · rw [if_pos e, if_pos (by omega)]
    · rw [if_neg e, if_neg (by omega)]
theorem vC_own {v : Int → Int} {n a : Int} (hn : 0 ≤ n ∧ n ≤ 6) (a0 : 0 ≤ a) (a1 : a < n) (h : ∀ j, 0 ≤ j → j < n → v j = if j = a then 1 else 0) : vC n.toNat v = ownV a.toNat ∧ bdd n v := by
  refine ⟨?_, fun j j0 j1 => by rw [h j j0 j1]; split <;> omega⟩
  funext j
  unfold vC ownV
  by_cases hj : j < n.toNat
  · rw [if_pos hj, h _ (by omega) (by omega)]
    by_cases e : (j : Int) = a
    · rw [if_pos e, if_pos (by omega)]
    · rw [if_neg e, if_neg (by omega)]
  · rw [if_neg hj, if_neg (by omega)]
/-- what is left to be turned from behind comes to B -/
def BhT (mt f : Int → Int) (m n : Int) (v : Int → Int) (B x : Int) : Prop := bdd n v ∧ bhd (mG n.toNat mt) n.toNat (wl f m.toNat) (x + 1).toNat (vC n.toNat v) = B
def AhT (mt f : Int → Int) (m n : Int) (v : Int → Int) (B x : Int) : Prop := bdd n v ∧ ahd (mG n.toNat mt) n.toNat ((wl f m.toNat).drop x.toNat) x.toNat (vC n.toNat v) = B
section BA
variable {mt f v v' : Int → Int} {m n B x a : Int}
theorem BhT.st (hn : 0 ≤ n ∧ n ≤ 6) (m0 : 0 ≤ m) (a0 : 0 ≤ a) (a1 : a < n) (h : ∀ j, 0 ≤ j → j < n → v j = if j = a then 1 else 0) : BhT mt f m n v (bh (mG n.toNat mt) n.toNat (wl f m.toNat) a.toNat) (m - 1) := by
  obtain ⟨h1, h2⟩ := vC_own hn a0 a1 h
  refine ⟨h2, ?_⟩
  rw [h1, show (m - 1 + 1).toNat = m.toNat by omega]
  unfold bh
  rw [wl_len]
theorem AhT.st (hn : 0 ≤ n ∧ n ≤ 6) (a0 : 0 ≤ a) (a1 : a < n) (h : ∀ j, 0 ≤ j → j < n → v j = if j = a then 1 else 0) : AhT mt f m n v (ah (mG n.toNat mt) n.toNat (wl f m.toNat) a.toNat) 0 := by
  obtain ⟨h1, h2⟩ := vC_own hn a0 a1 h
  refine ⟨h2, ?_⟩
  rw [h1]
  rfl
theorem BhT.end' (h : BhT mt f m n v B x) (hx : x = -1) : B = -1 := by
  have h2 := h.2
  rw [hx] at h2
  exact h2.symm
theorem AhT.end' (h : AhT mt f m n v B x) (hx : m ≤ x) : B = -1 := by
  have h2 := h.2
  rw [List.drop_eq_nil_of_le (by rw [wl_len]; omega)] at h2
  exact h2.symm
theorem BhT.hit (h : BhT mt f m n v B x) (hn : 0 ≤ n ∧ n ≤ 6) (hw : WV f m n) (x0 : 0 ≤ x) (x1 : x < m) (ho : ∀ j, 0 ≤ j → j < n → nl (v j) = if j = f x then 1 else 0) : B = x := by
  obtain ⟨h1, h2⟩ := h
  have hr := hw x x0 x1
  rw [show (x + 1).toNat = x.toNat + 1 by omega, bhd, wl_get f (by omega), Int.toNat_of_nonneg x0, if_pos ((own_C hn hr.1 h1).mp ho)] at h2
  omega
theorem AhT.hit (h : AhT mt f m n v B x) (hn : 0 ≤ n ∧ n ≤ 6) (hw : WV f m n) (x0 : 0 ≤ x) (x1 : x < m) (ho : ∀ j, 0 ≤ j → j < n → nl (v j) = if j = f x then 1 else 0) : B = x := by
  obtain ⟨h1, h2⟩ := h
  have hr := hw x x0 x1
  rw [wl_drop f (by omega), ahd, Int.toNat_of_nonneg x0, if_pos ((own_C hn hr.1 h1).mp ho)] at h2
  omega
theorem BhT.go (h : BhT mt f m n v B x) (hn : 0 ≤ n ∧ n ≤ 6) (hw : WV f m n) (x0 : 0 ≤ x) (x1 : x < m) (hm : ∀ i j, 0 ≤ i → i < n → 0 ≤ j → j < n → 0 ≤ mt (6 * i + j) ∧ mt (6 * i + j) ≤ 4) (hno : ¬ ∀ j, 0 ≤ j → j < n → nl (v j) = if j = f x then 1 else 0) (hv : v' (f x) = tvc mt v (f x) n) (ho : ∀ j, j ≠ f x → v' j = v j) : (¬ (-1000000000000 ≤ nl (tvc mt v (f x) n) ∧ nl (tvc mt v (f x) n) ≤ 1000000000000) ∧ B = -4) ∨ ((-1000000000000 ≤ nl (tvc mt v (f x) n) ∧ nl (tvc mt v (f x) n) ≤ 1000000000000) ∧ BhT mt f m n v' B (x - 1)) := by
  obtain ⟨h1, h2⟩ := h
  have hr := hw x x0 x1
  obtain ⟨t1, t2, t3⟩ := turn_C hn hr.1 hr.2 (fun j a b => hm _ j hr.1 hr.2 a b) h1 hv ho
  rw [show (x + 1).toNat = x.toNat + 1 by omega, bhd, wl_get f (by omega), Int.toNat_of_nonneg x0, if_neg (fun q => hno ((own_C hn hr.1 h1).mpr q))] at h2
  rw [t2]
  split at h2
  · rename_i hg
    exact Or.inl ⟨hg, h2.symm⟩
  · rename_i hg
    refine Or.inr ⟨Decidable.not_not.mp hg, t3 hg, ?_⟩
    rw [t1, show (x - 1 + 1).toNat = x.toNat by omega]
    exact h2
theorem AhT.go (h : AhT mt f m n v B x) (hn : 0 ≤ n ∧ n ≤ 6) (hw : WV f m n) (x0 : 0 ≤ x) (x1 : x < m) (hm : ∀ i j, 0 ≤ i → i < n → 0 ≤ j → j < n → 0 ≤ mt (6 * i + j) ∧ mt (6 * i + j) ≤ 4) (hno : ¬ ∀ j, 0 ≤ j → j < n → nl (v j) = if j = f x then 1 else 0) (hv : v' (f x) = tvc mt v (f x) n) (ho : ∀ j, j ≠ f x → v' j = v j) : (¬ (-1000000000000 ≤ nl (tvc mt v (f x) n) ∧ nl (tvc mt v (f x) n) ≤ 1000000000000) ∧ B = -4) ∨ ((-1000000000000 ≤ nl (tvc mt v (f x) n) ∧ nl (tvc mt v (f x) n) ≤ 1000000000000) ∧ AhT mt f m n v' B (x + 1)) := by
  obtain ⟨h1, h2⟩ := h
  have hr := hw x x0 x1
  obtain ⟨t1, t2, t3⟩ := turn_C hn hr.1 hr.2 (fun j a b => hm _ j hr.1 hr.2 a b) h1 hv ho
  rw [wl_drop f (by omega), ahd, Int.toNat_of_nonneg x0, if_neg (fun q => hno ((own_C hn hr.1 h1).mpr q))] at h2
  rw [t2]
  split at h2
  · rename_i hg
    exact Or.inl ⟨hg, h2.symm⟩
  · rename_i hg
    refine Or.inr ⟨Decidable.not_not.mp hg, t3 hg, ?_⟩
    rw [t1, show (x + 1).toNat = x.toNat + 1 by omega]
    exact h2
end BA
/-- a letter goes, a letter comes -/
theorem wl_del {f f' : Int → Int} {m k : Int} (k0 : 0 ≤ k) (k1 : k < m) (h1 : ∀ j, 0 ≤ j → j < k → f' j = f j) (h2 : ∀ j, k ≤ j → j < m - 1 → f' j = f (j + 1)) : wl f' (m - 1).toNat = (wl f m.toNat).eraseIdx k.toNat := by
  apply List.ext_getElem
  · rw [wl_len, List.length_eraseIdx_of_lt (by rw [wl_len]; omega), wl_len]
    omega
  · intro i g1 g2
    rw [wl_len] at g1
    rw [List.getElem_eraseIdx]
    split
    · rename_i hi
      simp only [wl, List.getElem_map, List.getElem_range]
      rw [h1 _ (by omega) (by omega)]
    · rename_i hi
      simp only [wl, List.getElem_map, List.getElem_range]
      rw [h2 _ (by omega) (by omega)]
      rfl
theorem wl_add {f f' : Int → Int} {m z : Int} (m0 : 0 ≤ m) (ho : ∀ j, 0 ≤ j → j < m → f' j = f j) (hv : f' m = z) : wl f' (m + 1).toNat = wl f m.toNat ++ [z.toNat] := by
  rw [show (m + 1).toNat = m.toNat + 1 by omega]
  unfold wl
  rw [List.range_succ, List.map_append, List.map_cons, List.map_nil, Int.toNat_of_nonneg m0, hv]
  congr 1
  exact List.map_congr_left (fun i hi => by rw [ho _ (by omega) (by have := List.mem_range.mp hi; omega)])
theorem wl_eq {f g : Int → Int} {m m' : Int} (hm : m' = m) (h : ∀ j, 0 ≤ j → j < m → g j = f j) : wl g m'.toNat = wl f m.toNat := by
  subst hm
  exact wl_congr (fun k hk => h _ (by omega) (by omega))
theorem wl_WV {f : Int → Int} {m n : Int} (h : WV f m n) : ∀ i, i ∈ wl f m.toNat → i < n.toNat := wl_mem (fun k hk => by
  have := h (k : Int) (by omega) (by omega)
  omega)
/-! the reference's set and rows -/
def rn (S : wSt) : Nat := (S 30 0 0).toNat
def rM (S : wSt) : Nat → Nat → Int := mG (rn S) (S 42 0)
def rR (S : wSt) : List Nat := wl (S 47 0) (S 30 0 8).toNat
def rF (S : wSt) : List Nat := wl (S 49 0) (S 30 0 10).toNat
def rV (S : wSt) : List Nat := wl (S 51 0) (S 30 0 12).toNat
def rW (S : wSt) : List Nat := wl (S 53 0) (S 30 0 14).toNat
def rP (S : wSt) (s : Int) : List Nat := wl (fun j => S 45 0 (100 * s + j)) (S 46 0 s).toNat
theorem rn_eq {S W : wSt} (h : W 30 0 0 = S 30 0 0) : rn W = rn S := by unfold rn; rw [h]
theorem rM_eq {S W : wSt} (h : W 30 0 0 = S 30 0 0) (h2 : ∀ j, W 42 0 j = S 42 0 j) : rM W = rM S := by
  unfold rM rn
  rw [h, show W 42 0 = S 42 0 from funext h2]
theorem tvp_tvc {S W : wSt} {a : Int} (hR : RI S) (a0 : 0 ≤ a) (a1 : a < S 30 0 0) (h0 : W 30 0 0 = S 30 0 0) (h2 : ∀ j, W 42 0 j = S 42 0 j) : tvp W a (W 30 0 0) = tvc (S 42 0) (W 55 0) a (S 30 0 0) := by
  have hn := hR.n
  unfold tvp tvc
  rw [h0]
  have e : sm (S 30 0 0).toNat (tvf W a) = sm (S 30 0 0).toNat (fun k => S 42 0 (6 * a + (k : Int)) * W 55 0 (k : Int)) := sm_congr (fun j hj => by
    unfold tvf
    by_cases e : (j : Int) = a
    · rw [if_pos e, e, hR.set.2.2.2.1 a a0 (by omega)]; omega
    · rw [if_neg e, h2])
  rw [e]
  omega
section BR
variable {S W W' : wSt} {f : Int → Int} {m B x : Int}
theorem BhT.goR (h : BhT (S 42 0) f m (S 30 0 0) (W 55 0) B x) (hR : RI S) (hw : WV f m (S 30 0 0)) (x0 : 0 ≤ x) (x1 : x < m) (h0 : W 30 0 0 = S 30 0 0) (h2 : ∀ j, W 42 0 j = S 42 0 j) (h16 : W 30 0 16 = 0) (hno : ¬ ∀ j, 0 ≤ j → j < W 30 0 0 → nl (W 55 0 j) = if j = f x then 1 else 0) (hv : W' 55 0 (f x) = tvp W (f x) (W 30 0 0)) (ho : ∀ j, j ≠ f x → W' 55 0 j = W 55 0 j) (hg : W' 30 0 16 = bz (ni (W 30 0 16) ≠ 0 ∨ ¬ (-1000000000000 ≤ nl (tvp W (f x) (W 30 0 0)) ∧ nl (tvp W (f x) (W 30 0 0)) ≤ 1000000000000))) : (W' 30 0 16 = 1 ∧ B = -4) ∨ (W' 30 0 16 = 0 ∧ BhT (S 42 0) f m (S 30 0 0) (W' 55 0) B (x - 1)) := by
  have hr := hw x x0 x1
  have hn := hR.n
  rw [tvp_tvc hR hr.1 hr.2 h0 h2] at hv hg
  rw [h0] at hno
  have z0 : ni (W 30 0 16) = 0 := by rw [h16]; rfl
  rcases h.go hn hw x0 x1 (fun i j a b c d => hR.mt i j a (by omega) c (by omega)) hno hv ho with q | q
  · exact Or.inl ⟨by rw [hg]; exact bz_t (Or.inr q.1), q.2⟩
  · exact Or.inr ⟨by rw [hg]; exact bz_f (fun z => z.elim (fun z => z z0) (fun z => z q.1)), q.2⟩
theorem AhT.goR (h : AhT (S 42 0) f m (S 30 0 0) (W 55 0) B x) (hR : RI S) (hw : WV f m (S 30 0 0)) (x0 : 0 ≤ x) (x1 : x < m) (h0 : W 30 0 0 = S 30 0 0) (h2 : ∀ j, W 42 0 j = S 42 0 j) (h16 : W 30 0 16 = 0) (hno : ¬ ∀ j, 0 ≤ j → j < W 30 0 0 → nl (W 55 0 j) = if j = f x then 1 else 0) (hv : W' 55 0 (f x) = tvp W (f x) (W 30 0 0)) (ho : ∀ j, j ≠ f x → W' 55 0 j = W 55 0 j) (hg : W' 30 0 16 = bz (ni (W 30 0 16) ≠ 0 ∨ ¬ (-1000000000000 ≤ nl (tvp W (f x) (W 30 0 0)) ∧ nl (tvp W (f x) (W 30 0 0)) ≤ 1000000000000))) : (W' 30 0 16 = 1 ∧ B = -4) ∨ (W' 30 0 16 = 0 ∧ AhT (S 42 0) f m (S 30 0 0) (W' 55 0) B (x + 1)) := by
  have hr := hw x x0 x1
  have hn := hR.n
  rw [tvp_tvc hR hr.1 hr.2 h0 h2] at hv hg
  rw [h0] at hno
  have z0 : ni (W 30 0 16) = 0 := by rw [h16]; rfl
  rcases h.go hn hw x0 x1 (fun i j a b c d => hR.mt i j a (by omega) c (by omega)) hno hv ho with q | q
  · exact Or.inl ⟨by rw [hg]; exact bz_t (Or.inr q.1), q.2⟩
  · exact Or.inr ⟨by rw [hg]; exact bz_f (fun z => z.elim (fun z => z z0) (fun z => z q.1)), q.2⟩
theorem BhT.hitR (h : BhT (S 42 0) f m (S 30 0 0) (W 55 0) B x) (hR : RI S) (hw : WV f m (S 30 0 0)) (x0 : 0 ≤ x) (x1 : x < m) (h0 : W 30 0 0 = S 30 0 0) (ho : ∀ j, 0 ≤ j → j < W 30 0 0 → nl (W 55 0 j) = if j = f x then 1 else 0) : B = x := h.hit hR.n hw x0 x1 (by rw [h0] at ho; exact ho)
theorem AhT.hitR (h : AhT (S 42 0) f m (S 30 0 0) (W 55 0) B x) (hR : RI S) (hw : WV f m (S 30 0 0)) (x0 : 0 ≤ x) (x1 : x < m) (h0 : W 30 0 0 = S 30 0 0) (ho : ∀ j, 0 ≤ j → j < W 30 0 0 → nl (W 55 0 j) = if j = f x then 1 else 0) : B = x := h.hit hR.n hw x0 x1 (by rw [h0] at ho; exact ho)
end BR
theorem shoP_go {M : Nat → Nat → Int} {n : Nat} {f : Int → Int} {m x : Int} {R : List Nat} {T : Option (List Nat)} (h : shoP M n R ((wl f m.toNat).drop x.toNat) = T) (x0 : 0 ≤ x) (x1 : x < m) : (bh M n R (f x).toNat = -4 → T = none) ∧ (bh M n R (f x).toNat = -1 → shoP M n (R ++ [(f x).toNat]) ((wl f m.toNat).drop (x + 1).toNat) = T) ∧ (0 ≤ bh M n R (f x).toNat → shoP M n (R.eraseIdx (bh M n R (f x).toNat).toNat) ((wl f m.toNat).drop (x + 1).toNat) = T) := by
  rw [wl_drop f (by omega), shoP, Int.toNat_of_nonneg x0] at h
  rw [show (x + 1).toNat = x.toNat + 1 by omega]
  refine ⟨fun q => ?_, fun q => ?_, fun q => ?_⟩
  · rw [if_pos q] at h; exact h.symm
  · rw [if_neg (by omega), if_pos q] at h; exact h
  · rw [if_neg (by omega), if_neg (by omega)] at h; exact h
theorem shoP_end {M : Nat → Nat → Int} {n : Nat} {f : Int → Int} {m x : Int} {R : List Nat} {T : Option (List Nat)} (h : shoP M n R ((wl f m.toNat).drop x.toNat) = T) (hx : m ≤ x) : T = some R := by
  rw [List.drop_eq_nil_of_le (by rw [wl_len]; omega), shoP] at h
  exact h.symm
/-! the form, letter by letter -/
def fmS (M : Nat → Nat → Int) (n : Nat) (R F : List Nat) : Option (List Nat) := (frm M n aJ R.length R F).map (fun q => q.2)
theorem fmS_nil (M : Nat → Nat → Int) (n : Nat) {R F : List Nat} (h : R.length = 0) : fmS M n R F = some F := by
  rw [List.eq_nil_of_length_eq_zero h]
  rfl
theorem fmS_great {M : Nat → Nat → Int} {n : Nat} {R F : List Nat} (h : 0 < R.length) (h4 : (ldn M n aJ R n).2 = -4) : fmS M n R F = none := by
  unfold fmS
  rw [show R.length = (R.length - 1) + 1 by omega, frm, if_pos h4]
  rfl
theorem fmS_go {M : Nat → Nat → Int} {n : Nat} {R F : List Nat} (h0 : 0 ≤ (ldn M n aJ R n).2) : fmS M n (R.eraseIdx (ldn M n aJ R n).2.toNat) (F ++ [(ldn M n aJ R n).1]) = fmS M n R F := by
  have hp := ldn_pl (M := M) (n := n) (J := aJ) (R := R) (by omega) (by omega)
  unfold fmS
  rw [List.length_eraseIdx_of_lt (by omega)]
  conv => rhs; rw [show R.length = (R.length - 1) + 1 by omega, frm, if_neg (by omega), if_neg (by omega)]
/-- s is the last that was asked; r its place, or -1; g: great -/
def LdR (M : Nat → Nat → Int) (n : Nat) (J : Nat → Bool) (R : List Nat) (D : Nat × Int) (s : Nat) (r g : Int) : Prop := (0 ≤ r ∧ g = 0 ∧ D = (s, r)) ∨ (r = -1 ∧ g = 1 ∧ D.2 = -4) ∨ (r = -1 ∧ g = 0 ∧ ldn M n J R (n - (s + 1)) = D)
theorem LdR.mk2 {M : Nat → Nat → Int} {n : Nat} {J : Nat → Bool} {R : List Nat} {D : Nat × Int} {s : Nat} {r g : Int} (h : ldn M n J R (n - s) = D) (hs : s < n) (hJ : J s = true) (hp : (ah M n R s = -4 ∧ r = -1 ∧ g = 1) ∨ (ah M n R s ≠ -4 ∧ r = ah M n R s ∧ g = 0)) : LdR M n J R D s r g := by
  have hr := ah_r M n R s
  rw [show n - s = (n - (s + 1)) + 1 by omega, ldn, show n - (n - (s + 1) + 1) = s by omega, if_pos hJ] at h
  unfold LdR
  rcases hp with ⟨a, b, c⟩ | ⟨a, b, c⟩
  · rw [if_neg (by omega)] at h
    exact Or.inr (Or.inl ⟨b, c, by rw [← h]; exact a⟩)
  · by_cases e : ah M n R s = -1
    · rw [if_pos e] at h
      exact Or.inr (Or.inr ⟨by omega, c, h⟩)
    · rw [if_neg e] at h
      exact Or.inl ⟨by omega, c, by rw [← h, b]⟩
theorem LdR.no {M : Nat → Nat → Int} {n : Nat} {R : List Nat} {s : Nat} {r g : Int} (h : LdR M n aJ R (ldn M n aJ R n) s r g) (hs : n ≤ s + 1) (hl : 0 < R.length) (hR : ∀ i, i ∈ R → i < n) : (0 ≤ r ∧ g = 0 ∧ ldn M n aJ R n = (s, r)) ∨ (r = -1 ∧ g = 1 ∧ (ldn M n aJ R n).2 = -4) := by
  rcases h with h | h | h
  · exact Or.inl h
  · exact Or.inr h
  · have h2 := h.2.2
    rw [show n - (s + 1) = 0 by omega, ldn] at h2
    cases R with
    | nil => simp at hl
    | cons c t =>
      have := ldn_hd (M := M) (n := n) (c := c) (t := t) (hR c List.mem_cons_self)
      rw [← h2] at this
      exact absurd rfl this
section FW
variable {M : Nat → Nat → Int} {n : Nat} {W R F : List Nat}
theorem fwP_n1 (h : shoP M n [] W = none) : fwP M n W = none := by unfold fwP; rw [h]; rfl
theorem fwP_n2 (h : shoP M n [] W = some R) (h2 : foP M n R = none) : fwP M n W = none := by unfold fwP; rw [h]; exact h2
theorem fwP_s (h : shoP M n [] W = some R) (h2 : foP M n R = some F) : fwP M n W = some F := by unfold fwP; rw [h]; exact h2
end FW
end
section
/-! the class's set and words -/
def kn (S : wSt) : Nat := (S 3 16 2).toNat
def kM (S : wSt) : Nat → Nat → Int := mG (kn S) (S 5 16)
def kP (S : wSt) (p : Int) : List Nat := wl (S 2 p) (S 1 p 1).toNat
theorem kn_eq {S W : wSt} (h : W 3 16 2 = S 3 16 2) : kn W = kn S := by unfold kn; rw [h]
theorem kM_eq {S W : wSt} (h : W 3 16 2 = S 3 16 2) (h2 : ∀ j, W 5 16 j = S 5 16 j) : kM W = kM S := by
  unfold kM kn
  rw [h, show W 5 16 = S 5 16 from funext h2]
theorem kP_eq {S W : wSt} {p : Int} (h : W 1 p 1 = S 1 p 1) (h2 : ∀ j, W 2 p j = S 2 p j) : kP W p = kP S p := wl_eq h (fun j _ _ => h2 j)
theorem kP_len {S : wSt} {p : Int} (h : 0 ≤ S 1 p 1) : ((kP S p).length : Int) = S 1 p 1 := by unfold kP; rw [wl_len]; omega
theorem own6 {v : Int → Int} {n c : Int} (hn : n ≤ 6) (c1 : c < n) (hz : ∀ j, n ≤ j → j < 6 → v j = 0) : (∀ j, 0 ≤ j → j < 6 → nl (v j) = if j = c then 1 else 0) ↔ ∀ j, 0 ≤ j → j < n → nl (v j) = if j = c then 1 else 0 := by
  constructor
  · intro h j j0 j1
    exact h j j0 (by omega)
  · intro h j j0 j1
    by_cases e : j < n
    · exact h j j0 e
    · rw [hz j (by omega) j1, if_neg (by omega)]
      rfl
section BC
variable {kd mt f v v' : Int → Int} {m n B x : Int}
theorem BhT.goC (h : BhT mt f m n v B x) (hs : sOK n kd mt) (hw : WV f m n) (x0 : 0 ≤ x) (x1 : x < m) (hz : ∀ j, n ≤ j → j < 6 → v j = 0) (hno : ¬ ∀ j, 0 ≤ j → j < 6 → nl (v j) = if j = f x then 1 else 0) (hv : v' (f x) = tvc mt v (f x) n) (ho : ∀ j, j ≠ f x → v' j = v j) : (¬ (-1000000000000 ≤ nl (tvc mt v (f x) n) ∧ nl (tvc mt v (f x) n) ≤ 1000000000000) ∧ B = -4) ∨ ((-1000000000000 ≤ nl (tvc mt v (f x) n) ∧ nl (tvc mt v (f x) n) ≤ 1000000000000) ∧ BhT mt f m n v' B (x - 1)) := h.go hs.1 hw x0 x1 (fun i j a b c d => hs.2.2.1 i j a (by have := hs.1; omega) c (by have := hs.1; omega)) (fun q => hno ((own6 hs.1.2 (hw x x0 x1).2 hz).mpr q)) hv ho
theorem AhT.goC (h : AhT mt f m n v B x) (hs : sOK n kd mt) (hw : WV f m n) (x0 : 0 ≤ x) (x1 : x < m) (hz : ∀ j, n ≤ j → j < 6 → v j = 0) (hno : ¬ ∀ j, 0 ≤ j → j < 6 → nl (v j) = if j = f x then 1 else 0) (hv : v' (f x) = tvc mt v (f x) n) (ho : ∀ j, j ≠ f x → v' j = v j) : (¬ (-1000000000000 ≤ nl (tvc mt v (f x) n) ∧ nl (tvc mt v (f x) n) ≤ 1000000000000) ∧ B = -4) ∨ ((-1000000000000 ≤ nl (tvc mt v (f x) n) ∧ nl (tvc mt v (f x) n) ≤ 1000000000000) ∧ AhT mt f m n v' B (x + 1)) := h.go hs.1 hw x0 x1 (fun i j a b c d => hs.2.2.1 i j a (by have := hs.1; omega) c (by have := hs.1; omega)) (fun q => hno ((own6 hs.1.2 (hw x x0 x1).2 hz).mpr q)) hv ho
theorem BhT.hitC (h : BhT mt f m n v B x) (hs : sOK n kd mt) (hw : WV f m n) (x0 : 0 ≤ x) (x1 : x < m) (hz : ∀ j, n ≤ j → j < 6 → v j = 0) (ho : ∀ j, 0 ≤ j → j < 6 → nl (v j) = if j = f x then 1 else 0) : B = x := h.hit hs.1 hw x0 x1 ((own6 hs.1.2 (hw x x0 x1).2 hz).mp ho)
theorem AhT.hitC (h : AhT mt f m n v B x) (hs : sOK n kd mt) (hw : WV f m n) (x0 : 0 ≤ x) (x1 : x < m) (hz : ∀ j, n ≤ j → j < 6 → v j = 0) (ho : ∀ j, 0 ≤ j → j < 6 → nl (v j) = if j = f x then 1 else 0) : B = x := h.hit hs.1 hw x0 x1 ((own6 hs.1.2 (hw x x0 x1).2 hz).mp ho)
end BC
/-- the bits of b -/
def bJ (b : Int) : Nat → Bool := fun s => decide (i_and (i_shr b (s : Int)) 1 = 1)
theorem bJ_t {b s : Int} (s0 : 0 ≤ s) (h' : ¬ i_and (i_shr b s) 1 ≠ 1) : bJ b s.toNat = true := by unfold bJ; rw [Int.toNat_of_nonneg s0]; exact decide_eq_true (Decidable.not_not.mp h')
theorem bJ_f {b s : Int} (s0 : 0 ≤ s) (h : i_and (i_shr b s) 1 ≠ 1) : ¬ bJ b s.toNat = true := by unfold bJ; rw [Int.toNat_of_nonneg s0]; exact fun q => h (of_decide_eq_true q)
theorem bJ_63 {s : Nat} (h : s < 6) : bJ 63 s = aJ s := by
  rcases (show s = 0 ∨ s = 1 ∨ s = 2 ∨ s = 3 ∨ s = 4 ∨ s = 5 by omega) with e | e | e | e | e | e <;> subst e <;> rfl
theorem ldn_J {M : Nat → Nat → Int} {n : Nat} {J J' : Nat → Bool} {R : List Nat} (h : ∀ s, s < n → J s = J' s) : ∀ f, f ≤ n → ldn M n J R f = ldn M n J' R f
  | 0, _ => rfl
  | f + 1, hf => by
    rw [ldn, ldn, h _ (by omega), ldn_J h f (by omega)]
theorem frm_J {M : Nat → Nat → Int} {n : Nat} {J J' : Nat → Bool} (h : ∀ s, s < n → J s = J' s) : ∀ (f : Nat) (R F : List Nat), frm M n J f R F = frm M n J' f R F
  | 0, _, _ => rfl
  | f + 1, R, F => by
    rw [frm, frm, ldn_J h n (Nat.le_refl _), frm_J h f]
theorem ldn_s {M : Nat → Nat → Int} {n : Nat} {J : Nat → Bool} {R : List Nat} {D : Nat × Int} {s : Int} (h : ldn M n J R (n - s.toNat) = D) (s0 : 0 ≤ s) (s1 : s.toNat < n) : (¬ J s.toNat = true → ldn M n J R (n - (s + 1).toNat) = D) ∧ (J s.toNat = true → ah M n R s.toNat = -1 → ldn M n J R (n - (s + 1).toNat) = D) ∧ (J s.toNat = true → ah M n R s.toNat ≠ -1 → D = (s.toNat, ah M n R s.toNat)) := by
  rw [show n - s.toNat = (n - (s.toNat + 1)) + 1 by omega, ldn, show n - (n - (s.toNat + 1) + 1) = s.toNat by omega] at h
  rw [show (s + 1).toNat = s.toNat + 1 by omega]
  refine ⟨fun q => ?_, fun q q2 => ?_, fun q q2 => ?_⟩
  · rw [if_neg q] at h; exact h
  · rw [if_pos q, if_pos q2] at h; exact h
  · rw [if_pos q, if_neg q2] at h; exact h.symm
/-- the least mirror of the last f that R takes from behind; -1: none -/
def lup (M : Nat → Nat → Int) (n : Nat) (R : List Nat) : Nat → Int
  | 0 => -1
  | f + 1 => if bh M n R (n - (f + 1)) = -1 then ((n - (f + 1) : Nat) : Int) else lup M n R f
theorem lup_s {M : Nat → Nat → Int} {n : Nat} {R : List Nat} {D : Int} {s : Int} (h : lup M n R (n - s.toNat) = D) (s0 : 0 ≤ s) (s1 : s.toNat < n) : (bh M n R s.toNat = -1 → D = s) ∧ (bh M n R s.toNat ≠ -1 → lup M n R (n - (s + 1).toNat) = D) := by
  rw [show n - s.toNat = (n - (s.toNat + 1)) + 1 by omega, lup, show n - (n - (s.toNat + 1) + 1) = s.toNat by omega] at h
  rw [show (s + 1).toNat = s.toNat + 1 by omega]
  refine ⟨fun q => ?_, fun q => ?_⟩
  · rw [if_pos q] at h; omega
  · rw [if_neg q] at h; exact h
/-- what the first x letters of a word do to a root -/
def tbd (M : Nat → Nat → Int) (n : Nat) (R : List Nat) : Nat → (Nat → Int) → Option (Nat → Int)
  | 0, v => some v
  | x + 1, v => if grt (rfx M n v (R.getD x 0) (R.getD x 0)) then none else tbd M n R x (rfx M n v (R.getD x 0))
/-- what is left to be done comes to B -/
def TbT (mt f : Int → Int) (m n : Int) (v : Int → Int) (B : Option (Nat → Int)) (x : Int) : Prop := bdd n v ∧ tbd (mG n.toNat mt) n.toNat (wl f m.toNat) (x + 1).toNat (vC n.toNat v) = B
theorem TbT.end' {mt f v : Int → Int} {m n x : Int} {B : Option (Nat → Int)} (h : TbT mt f m n v B x) (hx : x = -1) : B = some (vC n.toNat v) ∧ bdd n v := by
  obtain ⟨h1, h2⟩ := h
  rw [hx] at h2
  exact ⟨h2.symm, h1⟩
theorem TbT.go {kd mt f v v' : Int → Int} {m n x : Int} {B : Option (Nat → Int)} (h : TbT mt f m n v B x) (hs : sOK n kd mt) (hw : WV f m n) (x0 : 0 ≤ x) (x1 : x < m) (hv : v' (f x) = tvc mt v (f x) n) (ho : ∀ j, j ≠ f x → v' j = v j) : (¬ (-1000000000000 ≤ nl (tvc mt v (f x) n) ∧ nl (tvc mt v (f x) n) ≤ 1000000000000) ∧ B = none) ∨ ((-1000000000000 ≤ nl (tvc mt v (f x) n) ∧ nl (tvc mt v (f x) n) ≤ 1000000000000) ∧ TbT mt f m n v' B (x - 1)) := by
  obtain ⟨h1, h2⟩ := h
  have hr := hw x x0 x1
  obtain ⟨t1, t2, t3⟩ := turn_C hs.1 hr.1 hr.2 (fun j a b => hs.2.2.1 _ j hr.1 (by have := hs.1; omega) a (by have := hs.1; omega)) h1 hv ho
  rw [show (x + 1).toNat = x.toNat + 1 by omega, tbd, wl_get f (by omega), Int.toNat_of_nonneg x0] at h2
  rw [t2]
  split at h2
  · rename_i hg
    exact Or.inl ⟨hg, h2.symm⟩
  · rename_i hg
    refine Or.inr ⟨Decidable.not_not.mp hg, t3 hg, ?_⟩
    rw [t1, show (x - 1 + 1).toNat = x.toNat by omega]
    exact h2
theorem TbT.st {mt f v : Int → Int} {m n : Int} (hb : bdd n v) (m0 : 0 ≤ m) : TbT mt f m n v (tbd (mG n.toNat mt) n.toNat (wl f m.toNat) m.toNat (vC n.toNat v)) (m - 1) := ⟨hb, by rw [show (m - 1 + 1).toNat = m.toNat by omega]⟩
theorem frm_s {M : Nat → Nat → Int} {n : Nat} {J : Nat → Bool} {R F : List Nat} {x : Int} {T : Option (List Nat × List Nat)} (h : frm M n J x.toNat R F = T) (x0 : 0 < x) : ((ldn M n J R n).2 = -4 → T = none) ∧ ((ldn M n J R n).2 = -1 → T = some (R, F)) ∧ (0 ≤ (ldn M n J R n).2 → frm M n J (x - 1).toNat (R.eraseIdx (ldn M n J R n).2.toNat) (F ++ [(ldn M n J R n).1]) = T) := by
  rw [show x.toNat = (x - 1).toNat + 1 by omega, frm] at h
  refine ⟨fun q => ?_, fun q => ?_, fun q => ?_⟩
  · rw [if_pos q] at h; exact h.symm
  · rw [if_neg (by omega), if_pos q] at h; exact h.symm
  · rw [if_neg (by omega), if_neg (by omega)] at h; exact h
theorem frm_0 {M : Nat → Nat → Int} {n : Nat} {J : Nat → Bool} {R F : List Nat} {x : Int} {T : Option (List Nat × List Nat)} (h : frm M n J x.toNat R F = T) (x0 : x ≤ 0) : T = some (R, F) := by
  rw [show x.toNat = 0 by omega, frm] at h
  exact h.symm
theorem ldn_0 {M : Nat → Nat → Int} {n : Nat} {J : Nat → Bool} {R : List Nat} {D : Nat × Int} {s : Nat} (h : ldn M n J R (n - s) = D) (hs : n ≤ s) : D.2 = -1 := by
  rw [show n - s = 0 by omega, ldn] at h
  rw [← h]
end
section
/-! what the calls on words answer, and what they leave in the slots -/
abbrev wS : Type := Int → List Nat
def upw (w : wS) (s : Int) (l : List Nat) : wS := fun t => if t = s then l else w t
def fStore (c : Int) (w : wS) : Option (List Nat) → Int × wS
  | none => (-4, w)
  | some l => ((l.length : Int), upw w c l)
def fClear (a : Int) (w : wS) : Int × wS := if (0 ≤ a ∧ a < 8) then (((w a).length : Int), upw w a []) else (-1, w)
def fPut (n : Nat) (a b : Int) (w : wS) : Int × wS := if (0 ≤ a ∧ a < 8) ∧ (0 ≤ b ∧ b < n) then (if ((w a).length : Int) = 100 then (-3, w) else (((w a).length : Int) + 1, upw w a (w a ++ [b.toNat]))) else (-1, w)
def fAt (a k : Int) (w : wS) : Int := if (0 ≤ a ∧ a < 8) ∧ -1 ≤ k ∧ k < (w a).length then (if k = -1 then ((w a).length : Int) else (((w a).getD k.toNat 0 : Nat) : Int)) else -1
def fTimes (a b c : Int) (w : wS) : Int × wS := if (0 ≤ a ∧ a < 8) ∧ (0 ≤ b ∧ b < 8) ∧ (0 ≤ c ∧ c < 8) then (if ((w a).length : Int) + (w b).length > 100 then (-3, w) else fStore c w (some (w a ++ w b))) else (-1, w)
def fBack (a b : Int) (w : wS) : Int × wS := if (0 ≤ a ∧ a < 8) ∧ (0 ≤ b ∧ b < 8) then fStore b w (some (w a).reverse) else (-1, w)
def fWithout (K : Nat → Int) (a b : Int) (w : wS) : Int × wS := if (0 ≤ a ∧ a < 8) ∧ (0 ≤ b ∧ b < 8) then fStore b w (some ((w a).filter (fun s => decide (K s ≠ 2)))) else (-1, w)
def fCut (a k : Int) (w : wS) : Int × wS := if (0 ≤ a ∧ a < 8) ∧ 0 ≤ k ∧ k < ((w a).length : Int) - 1 then (if (w a).getD k.toNat 0 ≠ (w a).getD (k + 1).toNat 0 then (-2, w) else (((w a).length : Int) - 2, upw w a (((w a).eraseIdx k.toNat).eraseIdx k.toNat))) else (-1, w)
def mtA (M : Nat → Nat → Int) (p q : Nat) : Int := mAt p q (M p q) (M q p)
def chg (L : List Nat) (k m p q : Nat) : List Nat := (List.range L.length).map (fun j => if k ≤ j ∧ j < k + m then (if (j - k) % 2 = 0 then q else p) else L.getD j 0)
def fChange (M : Nat → Nat → Int) (a k : Int) (w : wS) : Int × wS := if (0 ≤ a ∧ a < 8) ∧ 0 ≤ k ∧ k < ((w a).length : Int) - 1 then (if mtA M ((w a).getD k.toNat 0) ((w a).getD (k + 1).toNat 0) < 2 ∨ k + mtA M ((w a).getD k.toNat 0) ((w a).getD (k + 1).toNat 0) > (w a).length ∨ ¬ (∀ j : Nat, j < (mtA M ((w a).getD k.toNat 0) ((w a).getD (k + 1).toNat 0)).toNat → (w a).getD (k.toNat + j) 0 = if j % 2 = 0 then (w a).getD k.toNat 0 else (w a).getD (k + 1).toNat 0) then (-2, w) else (mtA M ((w a).getD k.toNat 0) ((w a).getD (k + 1).toNat 0), upw w a (chg (w a) k.toNat (mtA M ((w a).getD k.toNat 0) ((w a).getD (k + 1).toNat 0)).toNat ((w a).getD k.toNat 0) ((w a).getD (k + 1).toNat 0)))) else (-1, w)
def fShorten (M : Nat → Nat → Int) (n : Nat) (a b : Int) (w : wS) : Int × wS := if (0 ≤ a ∧ a < 8) ∧ (0 ≤ b ∧ b < 8) then fStore b w (shoP M n [] (w a)) else (-1, w)
def fForm (M : Nat → Nat → Int) (n : Nat) (a b : Int) (w : wS) : Int × wS := if (0 ≤ a ∧ a < 8) ∧ (0 ≤ b ∧ b < 8) then fStore b w (fwP M n (w a)) else (-1, w)
def likP (A B : Option (List Nat)) : Int := match A, B with
  | some x, some y => if x = y then 1 else 0
  | _, _ => -4
def fSame (M : Nat → Nat → Int) (n : Nat) (a b : Int) (w : wS) : Int := if (0 ≤ a ∧ a < 8) ∧ (0 ≤ b ∧ b < 8) then likP (fwP M n (w a)) (fwP M n (w b)) else -1
def dnP (M : Nat → Nat → Int) (n : Nat) (u : Int) (R : List Nat) (s : Nat) : Int := if u = 0 then bh M n R s else ah M n R s
def dnsP (M : Nat → Nat → Int) (n : Nat) (u : Int) (R : List Nat) : Nat → Int → Int
  | 0, t => t
  | f + 1, t => if dnP M n u R (n - (f + 1)) = -4 then -4 else if 0 ≤ dnP M n u R (n - (f + 1)) then dnsP M n u R f (i_or t (i_shl 1 ((n - (f + 1) : Nat) : Int))) else dnsP M n u R f t
def fDowns (M : Nat → Nat → Int) (n : Nat) (a u : Int) (w : wS) : Int := if (0 ≤ a ∧ a < 8) then (match shoP M n [] (w a) with
  | none => -4
  | some R => dnsP M n u R n 0) else -1
def fDoes (M : Nat → Nat → Int) (n : Nat) (a i j : Int) (w : wS) : Int := if (0 ≤ a ∧ a < 8) ∧ (0 ≤ i ∧ i < n) ∧ (0 ≤ j ∧ j < n) then (match tbd M n (w a) (w a).length (ownV i.toNat) with
  | none => -10000000000004
  | some v => v j.toNat) else -10000000000001
/-- which of R's letters the last x letters of W take away -/
def blw (M : Nat → Nat → Int) (n : Nat) (W : List Nat) : Nat → List Nat → Option (List Nat)
  | 0, R => some R
  | x + 1, R => if bh M n R (W.getD x 0) = -4 then none else if 0 ≤ bh M n R (W.getD x 0) then blw M n W x (R.eraseIdx (bh M n R (W.getD x 0)).toNat) else blw M n W x R
def fBelow (M : Nat → Nat → Int) (n : Nat) (a b : Int) (w : wS) : Int := if (0 ≤ a ∧ a < 8) ∧ (0 ≤ b ∧ b < 8) then (match shoP M n [] (w a), shoP M n [] (w b) with
  | some R, some W => (match blw M n W W.length R with
    | some Q => if Q.length = 0 then 1 else 0
    | none => -4)
  | _, _ => -4) else -1
def fWay (M : Nat → Nat → Int) (n : Nat) (a b c : Int) (w : wS) : Int × wS := if (0 ≤ a ∧ a < 8) ∧ (0 ≤ b ∧ b < 8) ∧ (0 ≤ c ∧ c < 8) then (if ((w a).length : Int) + (w b).length > 100 then (-3, w) else fStore c w (fwP M n ((w a).reverse ++ w b))) else (-1, w)
/-- the part's letters go from R, and the rest -/
def ptP (M : Nat → Nat → Int) (n : Nat) (J : Nat → Bool) (W : List Nat) : Option (List Nat × List Nat) := (shoP M n [] W).bind (fun R => (frm M n J R.length R []).bind (fun q => (fwP M n q.2).bind (fun A => (fwP M n q.1).map (fun B => (A, B)))))
def fParts (M : Nat → Nat → Int) (n : Nat) (J : Nat → Bool) (a c d : Int) (w : wS) : Int × wS := if (0 ≤ a ∧ a < 8) ∧ (0 ≤ c ∧ c < 8) ∧ (0 ≤ d ∧ d < 8) ∧ c ≠ d then (match ptP M n J (w a) with
  | none => (-4, w)
  | some (A, B) => ((A.length : Int), upw (upw w d B) c A)) else (-1, w)
/-- the images of the mirrors' own roots, each turned by the word once more; none: great; n: how many are left -/
def ordI (M : Nat → Nat → Int) (n : Nat) (W : List Nat) (V : Nat → Nat → Int) : Nat → Option (Nat → Nat → Int)
  | 0 => some V
  | i + 1 => (ordI M n W V i).bind (fun V' => (tbd M n W W.length (V i)).map (fun v => fun k => if k = i then v else V' k))
def ordP (M : Nat → Nat → Int) (n : Nat) (W : List Nat) : Nat → (Nat → Nat → Int) → Int
  | 0, _ => -2
  | f + 1, V => match ordI M n W V n with
    | none => -4
    | some V' => if ∀ i, i < n → ∀ j, j < n → V' i j = ownV i j then ((30 - f : Nat) : Int) else ordP M n W f V'
def fOrder (M : Nat → Nat → Int) (n : Nat) (a : Int) (w : wS) : Int := if (0 ≤ a ∧ a < 8) then ordP M n (w a) 30 ownV else -1
def clK (n : Nat) (kd : Int → Int) : Nat → Int := fun s => if s < n then kd (s : Int) else 0
/-! the slots of the reference -/
def rSl (S : wSt) : wS := fun s => if (0 ≤ s ∧ s < 8) then rP S s else []
def rK (S : wSt) : Nat → Int := clK (rn S) (S 41 0)
theorem rSl_len {S : wSt} (hR : RI S) {a : Int} (a0 : 0 ≤ a) (a1 : a < 8) : ((rSl S a).length : Int) = S 46 0 a := by
  have h := hR.ln a a0 a1
  unfold rSl rP
  rw [if_pos ⟨a0, a1⟩, wl_len]
  omega
theorem rSl_get {S : wSt} {a k : Int} (a0 : 0 ≤ a) (a1 : a < 8) (k0 : 0 ≤ k) (k1 : k < S 46 0 a) : (rSl S a).getD k.toNat 0 = (S 45 0 (100 * a + k)).toNat := by
  unfold rSl rP
  rw [if_pos ⟨a0, a1⟩, wl_get _ (by omega), Int.toNat_of_nonneg k0]
theorem rSl_lt {S : wSt} (hR : RI S) {a : Int} (a0 : 0 ≤ a) (a1 : a < 8) : ∀ i, i ∈ rSl S a → i < rn S := by
  unfold rSl rP
  rw [if_pos ⟨a0, a1⟩]
  exact wl_WV (fun k k0 k1 => hR.lt a k a0 a1 k0 k1)
theorem rSl_fr {S W : wSt} (h : ∀ j, W 45 0 j = S 45 0 j) (h2 : ∀ j, W 46 0 j = S 46 0 j) : rSl W = rSl S := by
  funext s
  unfold rSl rP
  rw [h2, show W 45 0 = S 45 0 from funext h]
theorem rSl_at {S : wSt} {a : Int} (a0 : 0 ≤ a) (a1 : a < 8) : rSl S a = rP S a := if_pos ⟨a0, a1⟩
theorem rSl_no {S : wSt} {s : Int} (h : ¬ (0 ≤ s ∧ s < 8)) : rSl S s = [] := if_neg h
theorem rSl_st {S W : wSt} (hR : RI S) {a m : Int} {f : Int → Int} (a0 : 0 ≤ a) (a1 : a < 8) (h1 : W 46 0 a = m) (h2 : ∀ s, s ≠ a → W 46 0 s = S 46 0 s) (h3 : ∀ j, 0 ≤ j → j < m → W 45 0 (100 * a + j) = f j) (h4 : ∀ j, ¬ (100 * a ≤ j ∧ j < 100 * a + 100) → W 45 0 j = S 45 0 j) : rSl W = upw (rSl S) a (wl f m.toNat) := by
  funext s
  show rSl W s = if s = a then wl f m.toNat else rSl S s
  by_cases e : s = a
  · subst e
    rw [if_pos rfl, rSl_at a0 a1]
    unfold rP
    rw [h1]
    exact wl_congr (fun k hk => h3 _ (by omega) (by omega))
  · rw [if_neg e]
    by_cases hs : 0 ≤ s ∧ s < 8
    · rw [rSl_at hs.1 hs.2, rSl_at hs.1 hs.2]
      unfold rP
      rw [h2 s e]
      have hl := hR.ln s hs.1 hs.2
      exact wl_congr (fun k hk => h4 _ (by omega))
    · rw [rSl_no hs, rSl_no hs]
theorem upw_same (w : wS) (a : Int) : upw w a (w a) = w := by
  funext t
  unfold upw
  split
  · rename_i e; rw [e]
  · rfl
theorem rM_c {S : wSt} {i j : Int} (hR : RI S) (i0 : 0 ≤ i) (i1 : i < S 30 0 0) (j0 : 0 ≤ j) (j1 : j < S 30 0 0) : rM S i.toNat j.toNat = S 42 0 (6 * i + j) := by
  unfold rM mG clM rn
  rw [if_pos ⟨by omega, by omega⟩]
  unfold mxz
  rw [Int.toNat_of_nonneg i0, Int.toNat_of_nonneg j0]
theorem wl_app {f g : Int → Int} {m k : Int} (m0 : 0 ≤ m) (k0 : 0 ≤ k) {h : Int → Int} (h1 : ∀ j, 0 ≤ j → j < m → h j = f j) (h2 : ∀ j, 0 ≤ j → j < k → h (m + j) = g j) : wl h (m + k).toNat = wl f m.toNat ++ wl g k.toNat := by
  apply List.ext_getElem
  · rw [wl_len, List.length_append, wl_len, wl_len]
    omega
  · intro i g1 g2
    rw [wl_len] at g1
    rw [List.getElem_append]
    split
    · rename_i hi
      rw [wl_len] at hi
      simp only [wl, List.getElem_map, List.getElem_range]
      rw [h1 _ (by omega) (by omega)]
    · rename_i hi
      rw [wl_len] at hi
      simp only [wl, List.getElem_map, List.getElem_range]
      have h3 := h2 ((i : Int) - m) (by omega) (by omega)
      rw [show m + ((i : Int) - m) = i by omega] at h3
      rw [h3, List.length_map, List.length_range]
      congr 2
      omega
theorem wl_rev {f h : Int → Int} {m : Int} (h1 : ∀ j, 0 ≤ j → j < m → h j = f (m - 1 - j)) : wl h m.toNat = (wl f m.toNat).reverse := by
  apply List.ext_getElem
  · rw [wl_len, List.length_reverse, wl_len]
  · intro i g1 g2
    rw [wl_len] at g1
    rw [List.getElem_reverse]
    simp only [wl, List.getElem_map, List.getElem_range, List.length_map, List.length_range]
    rw [h1 _ (by omega) (by omega)]
    congr 2
    omega
theorem rSl_tR {S W : wSt} (f : Fr tR S W) : rSl W = rSl S := rSl_fr (fun j => f 45 0 j (by unfold tR; omega)) (fun j => f 46 0 j (by unfold tR; omega))
theorem ld_rW {S W : wSt} {a : Int} (a0 : 0 ≤ a) (a1 : a < 8) (q : W 30 0 14 = S 46 0 a) (h : ∀ j, 0 ≤ j → j < S 46 0 a → W 53 0 j = S 45 0 (100 * a + j)) : rW W = rSl S a := by
  rw [rSl_at a0 a1]
  exact wl_eq q h
theorem lm_rW {S W : wSt} (hR : RI S) {a : Int} (a0 : 0 ≤ a) (a1 : a < 8) (m0 : 0 ≤ S 30 0 14) (q : W 30 0 14 = S 30 0 14 + S 46 0 a) (h2 : ∀ j, 0 ≤ j → j < S 30 0 14 → W 53 0 j = S 53 0 j) (h : ∀ j, 0 ≤ j → j < S 46 0 a → W 53 0 (S 30 0 14 + j) = S 45 0 (100 * a + j)) : rW W = rW S ++ rSl S a := by
  rw [rSl_at a0 a1]
  unfold rW rP
  rw [q]
  exact wl_app m0 (hR.ln a a0 a1).1 h2 h
theorem lb_rW {S W : wSt} {a : Int} (a0 : 0 ≤ a) (a1 : a < 8) (q : W 30 0 14 = S 46 0 a) (h : ∀ j, 0 ≤ j → j < S 46 0 a → W 53 0 j = S 45 0 (100 * a + (S 46 0 a - 1 - j))) : rW W = (rSl S a).reverse := by
  rw [rSl_at a0 a1]
  unfold rW rP
  rw [q]
  exact wl_rev (f := fun j => S 45 0 (100 * a + j)) h
theorem st_f {S W : wSt} {a r : Int} {w : wS} (hR : RI S) (a0 : 0 ≤ a) (a1 : a < 8) (m0 : 0 ≤ S 30 0 14) (m1 : S 30 0 14 ≤ 100) (h : r = S 30 0 14 ∧ RI W ∧ Fr fV S W ∧ W 46 0 a = S 30 0 14 ∧ (∀ s, s ≠ a → W 46 0 s = S 46 0 s) ∧ (∀ j, 0 ≤ j → j < S 30 0 14 → W 45 0 (100 * a + j) = S 53 0 j) ∧ ∀ j, ¬ (100 * a ≤ j ∧ j < 100 * a + S 30 0 14) → W 45 0 j = S 45 0 j) (e : rSl S = w) {l : List Nat} (hl : rW S = l) : fStore a w (some l) = (r, rSl W) := by
  obtain ⟨h1, -, -, h4, h5, h6, h7⟩ := h
  rw [rSl_st hR a0 a1 h4 h5 h6 (fun j hj => h7 j (by omega)), e]
  show (((l.length : Nat) : Int), upw w a l) = _
  rw [← hl]
  unfold rW
  rw [wl_len, h1, Int.toNat_of_nonneg m0]
theorem take_s {l : List Nat} {x : Nat} (h : x < l.length) : l.take (x + 1) = l.take x ++ [l.getD x 0] := by
  rw [List.take_succ, List.getD_eq_getElem?_getD, List.getElem?_eq_getElem h]
  rfl
theorem wl_del2 {f f' : Int → Int} {m k : Int} (k0 : 0 ≤ k) (k1 : k + 1 < m) (h1 : ∀ j, 0 ≤ j → j < k → f' j = f j) (h2 : ∀ j, k ≤ j → j < m - 2 → f' j = f (j + 2)) : wl f' (m - 2).toNat = ((wl f m.toNat).eraseIdx k.toNat).eraseIdx k.toNat := by
  rw [← wl_del (f' := fun j => if j < k then f j else f (j + 1)) k0 (by omega) (fun j _ hj => if_pos hj) (fun j hj _ => if_neg (by omega)), ← wl_del (f' := f') k0 (by omega) (fun j j0 hj => by rw [if_pos hj]; exact h1 j j0 hj) (fun j hj hj2 => by rw [if_neg (by omega), h2 j hj (by omega)]; congr 1; omega)]
  congr 1
  omega
theorem i_or_0 {t : Int} (h : -2147483648 ≤ t ∧ t ≤ 2147483647) : i_or t 0 = t := by
  unfold i_or
  rw [show Int32.ofInt 0 = 0 from rfl, Int32.or_zero]
  exact kw_ti h
end
