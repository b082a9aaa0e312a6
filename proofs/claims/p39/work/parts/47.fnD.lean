section
/-! the images of the mirrors' own roots -/
def imG (n : Nat) (rows : Nat → Int → Int) : Nat → Nat → Int := fun k => if k < n then vC n (rows k) else ownV k
theorem imG_own {n : Nat} {rows : Nat → Int → Int} (h : ∀ k : Nat, k < n → ∀ j : Nat, j < n → rows k (j : Int) = if j = k then 1 else 0) : imG n rows = ownV := by
  funext k j
  unfold imG
  by_cases e : k < n
  · rw [if_pos e]
    unfold vC ownV
    by_cases e2 : j < n
    · rw [if_pos e2, h k e j e2]
    · rw [if_neg e2, if_neg (by omega)]
  · rw [if_neg e]
theorem imG_at {n : Nat} {rows : Nat → Int → Int} {k : Nat} (hk : k < n) : imG n rows k = vC n (rows k) := if_pos hk
theorem imG_eq {n : Nat} {rows rows' : Nat → Int → Int} (h : ∀ k : Nat, k < n → ∀ j : Nat, j < n → rows' k (j : Int) = rows k (j : Int)) : imG n rows' = imG n rows := by
  funext k j
  unfold imG
  by_cases e : k < n
  · rw [if_pos e, if_pos e]
    unfold vC
    by_cases e2 : j < n
    · rw [if_pos e2, if_pos e2, h k e j e2]
    · rw [if_neg e2, if_neg e2]
  · rw [if_neg e, if_neg e]
theorem imG_upd {n i : Nat} {rows rows' : Nat → Int → Int} {v : Nat → Int} (hi : i < n) (h : ∀ k : Nat, k < n → k ≠ i → ∀ j : Nat, j < n → rows' k (j : Int) = rows k (j : Int)) (hv : vC n (rows' i) = v) : imG n rows' = fun k => if k = i then v else imG n rows k := by
  funext k
  by_cases e : k = i
  · subst e
    rw [if_pos rfl, imG_at hi, hv]
  · rw [if_neg e]
    unfold imG
    by_cases e2 : k < n
    · rw [if_pos e2, if_pos e2]
      funext j
      unfold vC
      by_cases e3 : j < n
      · rw [if_pos e3, if_pos e3, h k e2 e j e3]
      · rw [if_neg e3, if_neg e3]
    · rw [if_neg e2, if_neg e2]
section OI
variable {M : Nat → Nat → Int} {n : Nat} {W : List Nat} {V V' : Nat → Nat → Int}
theorem ordI_s {i : Nat} {v : Nat → Int} (h : ordI M n W V i = some V') (ht : tbd M n W W.length (V i) = some v) : ordI M n W V (i + 1) = some (fun k => if k = i then v else V' k) := by
  rw [ordI, h, ht]
  rfl
theorem ordI_n {i : Nat} (h : ordI M n W V i = some V') (ht : tbd M n W W.length (V i) = none) : ordI M n W V (i + 1) = none := by
  rw [ordI, h, ht]
  rfl
theorem ordI_none {i m : Nat} (h : ordI M n W V i = none) (hm : i ≤ m) : ordI M n W V m = none := by
  induction m with
  | zero => rw [show i = 0 by omega] at h; exact h
  | succ m ih =>
    by_cases e : i = m + 1
    · rw [← e]; exact h
    · rw [ordI, ih (by omega)]
      rfl
theorem ordI_ge : ∀ {i : Nat} {V' : Nat → Nat → Int}, ordI M n W V i = some V' → ∀ k, i ≤ k → V' k = V k
  | 0, V', h, k, _ => by
    rw [ordI] at h
    cases h
    rfl
  | i + 1, V', h, k, hk => by
    rw [ordI] at h
    obtain ⟨V1, h1, h2⟩ := Option.bind_eq_some_iff.mp h
    obtain ⟨v, h3, h4⟩ := Option.map_eq_some_iff.mp h2
    rw [← h4]
    show (if k = i then v else V1 k) = V k
    rw [if_neg (by omega)]
    exact ordI_ge h1 k (by omega)
theorem ordP_s {m T : Int} (h : ordP M n W (31 - m).toNat V = T) (m0 : 1 ≤ m) (m1 : m ≤ 30) : (ordI M n W V n = none → T = -4) ∧ ∀ V', ordI M n W V n = some V' → ((∀ k, k < n → ∀ j, j < n → V' k j = ownV k j) → T = m) ∧ ((¬ ∀ k, k < n → ∀ j, j < n → V' k j = ownV k j) → ordP M n W (31 - (m + 1)).toNat V' = T) := by
  rw [show (31 - m).toNat = (31 - (m + 1)).toNat + 1 by omega, ordP] at h
  refine ⟨fun q => ?_, fun V' q => ⟨fun q2 => ?_, fun q2 => ?_⟩⟩
  · rw [q] at h
    exact h.symm
  · rw [q] at h
    simp only [] at h
    rw [if_pos q2] at h
    omega
  · rw [q] at h
    simp only [] at h
    rw [if_neg q2] at h
    exact h
theorem ordP_e {m T : Int} (h : ordP M n W (31 - m).toNat V = T) (m1 : 31 ≤ m) : T = -2 := by
  rw [show (31 - m).toNat = 0 by omega, ordP] at h
  exact h.symm
end OI
theorem z_st {P P' : Nat → Prop} {i : Nat} {z : Int} (h : z = 1 ↔ ∀ k, k < i → P k) (hs : ∀ k, k < i → (P k ↔ P' k)) : (z = 1 ∧ P' i) ↔ ∀ k, k < i + 1 → P' k := by
  constructor
  · rintro ⟨a, b⟩ k hk
    by_cases e : k = i
    · subst e; exact b
    · exact (hs k (by omega)).mp (h.mp a k (by omega))
  · intro q
    exact ⟨h.mpr (fun k hk => (hs k hk).mpr (q k (by omega))), q i (by omega)⟩
/-- the reference's images -/
def rIm (S W : wSt) : Nat → Nat → Int := imG (rn S) (fun k j => W 57 0 (6 * (k : Int) + j))
end
section
end
section
/-! the parts of a word -/
def pbt (K : Nat → Int) (n : Nat) : Nat → Int → Int
  | 0, t => t
  | f + 1, t => pbt K n f (if K (n - (f + 1)) = 0 then i_or t (i_shl 1 ((n - (f + 1) : Nat) : Int)) else t)
def ptB (K : Nat → Int) (n : Nat) (b : Int) : Int := if b = -1 then pbt K n n 0 else b
theorem pbt_s {K : Nat → Int} {n : Nat} {i z T : Int} (h : pbt K n (n - i.toNat) z = T) (i0 : 0 ≤ i) (i1 : i.toNat < n) : pbt K n (n - (i + 1).toNat) (if K i.toNat = 0 then i_or z (i_shl 1 i) else z) = T := by
  rw [show n - i.toNat = (n - (i.toNat + 1)) + 1 by omega, pbt, show n - (n - (i.toNat + 1) + 1) = i.toNat by omega, Int.toNat_of_nonneg i0] at h
  rw [show (i + 1).toNat = i.toNat + 1 by omega]
  exact h
theorem pbt_e {K : Nat → Int} {n : Nat} {i z T : Int} (h : pbt K n (n - i.toNat) z = T) (i1 : n ≤ i.toNat) : T = z := by
  rw [show n - i.toNat = 0 by omega, pbt] at h
  exact h.symm
theorem ldn_nilR (M : Nat → Nat → Int) (n : Nat) (J : Nat → Bool) : ∀ f, ldn M n J [] f = (n, -1)
  | 0 => rfl
  | f + 1 => by
    rw [ldn, ldn_nilR M n J f]
    split
    · rw [if_pos (by unfold ah; rw [ahd])]
    · rfl
/-- the walk down, its s at n - f -/
def frs (M : Nat → Nat → Int) (n : Nat) (J : Nat → Bool) (f : Nat) (R F : List Nat) : Option (List Nat × List Nat) := if (ldn M n J R f).2 = -4 then none else if (ldn M n J R f).2 = -1 then some (R, F) else frm M n J (R.length - 1) (R.eraseIdx (ldn M n J R f).2.toNat) (F ++ [(ldn M n J R f).1])
theorem frs_frm (M : Nat → Nat → Int) (n : Nat) (J : Nat → Bool) (R F : List Nat) : frs M n J n R F = frm M n J R.length R F := by
  unfold frs
  by_cases e : R.length = 0
  · rw [List.eq_nil_of_length_eq_zero e, ldn_nilR]
    rfl
  · conv => rhs; rw [show R.length = (R.length - 1) + 1 by omega, frm]
theorem frs_s {M : Nat → Nat → Int} {n : Nat} {J : Nat → Bool} {R F : List Nat} {s : Int} {T : Option (List Nat × List Nat)} (h : frs M n J (n - s.toNat) R F = T) (s0 : 0 ≤ s) (s1 : s.toNat < n) : (¬ J s.toNat = true → frs M n J (n - (s + 1).toNat) R F = T) ∧ (J s.toNat = true → ah M n R s.toNat = -1 → frs M n J (n - (s + 1).toNat) R F = T) ∧ (J s.toNat = true → ah M n R s.toNat = -4 → T = none) ∧ (J s.toNat = true → 0 ≤ ah M n R s.toNat → frs M n J (n - (0 : Int).toNat) (R.eraseIdx (ah M n R s.toNat).toNat) (F ++ [s.toNat]) = T) := by
  have hl := ldn_s (M := M) (n := n) (J := J) (R := R) (D := ldn M n J R (n - s.toNat)) rfl s0 s1
  refine ⟨fun q => ?_, fun q q2 => ?_, fun q q2 => ?_, fun q q2 => ?_⟩
  · rw [← h]; unfold frs; rw [hl.1 q]
  · rw [← h]; unfold frs; rw [hl.2.1 q q2]
  · have h3 := hl.2.2 q (by omega)
    unfold frs at h
    rw [h3, if_pos q2] at h
    exact h.symm
  · have h3 := hl.2.2 q (by omega)
    have hr := ah_r M n R s.toNat
    unfold frs at h
    rw [h3, if_neg (by show ¬ ah M n R s.toNat = -4; omega), if_neg (by show ¬ ah M n R s.toNat = -1; omega)] at h
    rw [show n - (0 : Int).toNat = n from rfl, frs_frm, List.length_eraseIdx_of_lt (by omega)]
    exact h
theorem frs_e {M : Nat → Nat → Int} {n : Nat} {J : Nat → Bool} {R F : List Nat} {s : Int} {T : Option (List Nat × List Nat)} (h : frs M n J (n - s.toNat) R F = T) (s1 : n ≤ s.toNat) : T = some (R, F) := by
  unfold frs at h
  rw [show n - s.toNat = 0 by omega, ldn] at h
  exact h.symm
section PP
variable {M : Nat → Nat → Int} {n : Nat} {J : Nat → Bool} {W R R' F' A B : List Nat}
theorem ptP_n1 (h : shoP M n [] W = none) : ptP M n J W = none := by unfold ptP; rw [h]; rfl
theorem ptP_n2 (h : shoP M n [] W = some R) (h2 : frm M n J R.length R [] = none) : ptP M n J W = none := by unfold ptP; rw [h]; show Option.bind (frm M n J R.length R []) _ = none; rw [h2]; rfl
theorem ptP_n3 (h : shoP M n [] W = some R) (h2 : frm M n J R.length R [] = some (R', F')) (h3 : fwP M n F' = none) : ptP M n J W = none := by unfold ptP; rw [h]; show Option.bind (frm M n J R.length R []) _ = none; rw [h2]; show Option.bind (fwP M n F') _ = none; rw [h3]; rfl
theorem ptP_n4 (h : shoP M n [] W = some R) (h2 : frm M n J R.length R [] = some (R', F')) (h3 : fwP M n F' = some A) (h4 : fwP M n R' = none) : ptP M n J W = none := by unfold ptP; rw [h]; show Option.bind (frm M n J R.length R []) _ = none; rw [h2]; show Option.bind (fwP M n F') _ = none; rw [h3]; show Option.map _ (fwP M n R') = none; rw [h4]; rfl
theorem ptP_s (h : shoP M n [] W = some R) (h2 : frm M n J R.length R [] = some (R', F')) (h3 : fwP M n F' = some A) (h4 : fwP M n R' = some B) : ptP M n J W = some (A, B) := by unfold ptP; rw [h]; show Option.bind (frm M n J R.length R []) _ = _; rw [h2]; show Option.bind (fwP M n F') _ = _; rw [h3]; show Option.map _ (fwP M n R') = _; rw [h4]; rfl
end PP
theorem st_rSl {S W : wSt} {a r : Int} (hR : RI S) (a0 : 0 ≤ a) (a1 : a < 8) (m1 : S 30 0 14 ≤ 100) (h : r = S 30 0 14 ∧ RI W ∧ Fr fV S W ∧ W 46 0 a = S 30 0 14 ∧ (∀ s, s ≠ a → W 46 0 s = S 46 0 s) ∧ (∀ j, 0 ≤ j → j < S 30 0 14 → W 45 0 (100 * a + j) = S 53 0 j) ∧ ∀ j, ¬ (100 * a ≤ j ∧ j < 100 * a + S 30 0 14) → W 45 0 j = S 45 0 j) : rSl W = upw (rSl S) a (rW S) := by
  obtain ⟨-, -, -, h4, h5, h6, h7⟩ := h
  exact rSl_st hR a0 a1 h4 h5 h6 (fun j hj => h7 j (by omega))
end
