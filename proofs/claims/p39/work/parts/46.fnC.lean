section
theorem dns_s {M : Nat → Nat → Int} {n : Nat} {u : Int} {R : List Nat} {s z T : Int} (h : dnsP M n u R (n - s.toNat) z = T) (s0 : 0 ≤ s) (s1 : s.toNat < n) : (dnP M n u R s.toNat = -4 → T = -4) ∧ (dnP M n u R s.toNat = -1 → dnsP M n u R (n - (s + 1).toNat) z = T) ∧ (0 ≤ dnP M n u R s.toNat → dnsP M n u R (n - (s + 1).toNat) (i_or z (i_shl 1 s)) = T) := by
  rw [show n - s.toNat = (n - (s.toNat + 1)) + 1 by omega, dnsP, show n - (n - (s.toNat + 1) + 1) = s.toNat by omega, Int.toNat_of_nonneg s0] at h
  rw [show (s + 1).toNat = s.toNat + 1 by omega]
  refine ⟨fun q => ?_, fun q => ?_, fun q => ?_⟩
  · rw [if_pos q] at h; exact h.symm
  · rw [if_neg (by omega), if_neg (by omega)] at h; exact h
  · rw [if_neg (by omega), if_pos q] at h; exact h
theorem dns_e {M : Nat → Nat → Int} {n : Nat} {u : Int} {R : List Nat} {s z T : Int} (h : dnsP M n u R (n - s.toNat) z = T) (s1 : n ≤ s.toNat) : T = z := by
  rw [show n - s.toNat = 0 by omega, dnsP] at h
  exact h.symm
theorem dnP_r (M : Nat → Nat → Int) (n : Nat) (u : Int) (R : List Nat) (s : Nat) : dnP M n u R s = -4 ∨ dnP M n u R s = -1 ∨ (0 ≤ dnP M n u R s ∧ dnP M n u R s < R.length) := by
  unfold dnP
  split
  · have := bh_r M n R s; omega
  · exact ah_r M n R s
theorem TbT.goR {S W W' : wSt} {f : Int → Int} {m x : Int} {B : Option (Nat → Int)} (h : TbT (S 42 0) f m (S 30 0 0) (W 55 0) B x) (hR : RI S) (hw : WV f m (S 30 0 0)) (x0 : 0 ≤ x) (x1 : x < m) (h0 : W 30 0 0 = S 30 0 0) (h2 : ∀ j, W 42 0 j = S 42 0 j) (h16 : W 30 0 16 = 0) (hv : W' 55 0 (f x) = tvp W (f x) (W 30 0 0)) (ho : ∀ j, j ≠ f x → W' 55 0 j = W 55 0 j) (hg : W' 30 0 16 = bz (ni (W 30 0 16) ≠ 0 ∨ ¬ (-1000000000000 ≤ nl (tvp W (f x) (W 30 0 0)) ∧ nl (tvp W (f x) (W 30 0 0)) ≤ 1000000000000))) : (W' 30 0 16 = 1 ∧ B = none) ∨ (W' 30 0 16 = 0 ∧ TbT (S 42 0) f m (S 30 0 0) (W' 55 0) B (x - 1)) := by
  have hr := hw x x0 x1
  rw [tvp_tvc hR hr.1 hr.2 h0 h2] at hv hg
  have z0 : ni (W 30 0 16) = 0 := by rw [h16]; rfl
  rcases h.go hR.set hw x0 x1 hv ho with q | q
  · exact Or.inl ⟨by rw [hg]; exact bz_t (Or.inr q.1), q.2⟩
  · exact Or.inr ⟨by rw [hg]; exact bz_f (fun z => z.elim (fun z => z z0) (fun z => z q.1)), q.2⟩
theorem blw_s {M : Nat → Nat → Int} {n : Nat} {f : Int → Int} {m x : Int} {R : List Nat} {T : Option (List Nat)} (h : blw M n (wl f m.toNat) (x + 1).toNat R = T) (x0 : 0 ≤ x) (x1 : x < m) : (bh M n R (f x).toNat = -4 → T = none) ∧ (bh M n R (f x).toNat = -1 → blw M n (wl f m.toNat) (x - 1 + 1).toNat R = T) ∧ (0 ≤ bh M n R (f x).toNat → blw M n (wl f m.toNat) (x - 1 + 1).toNat (R.eraseIdx (bh M n R (f x).toNat).toNat) = T) := by
  rw [show (x + 1).toNat = x.toNat + 1 by omega, blw, wl_get f (by omega), Int.toNat_of_nonneg x0] at h
  rw [show (x - 1 + 1).toNat = x.toNat by omega]
  refine ⟨fun q => ?_, fun q => ?_, fun q => ?_⟩
  · rw [if_pos q] at h; exact h.symm
  · rw [if_neg (by omega), if_neg (by omega)] at h; exact h
  · rw [if_neg (by omega), if_pos q] at h; exact h
theorem blw_e {M : Nat → Nat → Int} {n : Nat} {W : List Nat} {x : Int} {R : List Nat} {T : Option (List Nat)} (h : blw M n W (x + 1).toNat R = T) (hx : x = -1) : T = some R := by
  rw [hx] at h
  exact h.symm
theorem mAt_c {S : wSt} (hR : RI S) {p q : Int} (p0 : 0 ≤ p) (p1 : p < S 30 0 0) (q0 : 0 ≤ q) (q1 : q < S 30 0 0) : mtA (rM S) p.toNat q.toNat = mAt p q (S 42 0 (6 * p + q)) (S 42 0 (6 * q + p)) := by
  unfold mtA
  rw [rM_c hR p0 p1 q0 q1, rM_c hR q0 q1 p0 p1, Int.toNat_of_nonneg p0, Int.toNat_of_nonneg q0]
theorem wl_chg {f f' : Int → Int} {L : List Nat} {len k m : Int} {p q : Int} (hL : L = wl f len.toNat) (k0 : 0 ≤ k) (m0 : 0 ≤ m) (h1 : ∀ j, 0 ≤ j → j < len → ¬ (k ≤ j ∧ j < k + m) → f' j = f j) (h2 : ∀ y, 0 ≤ y → y < m → f' (k + y) = if y % 2 = 0 then q else p) : wl f' len.toNat = chg L k.toNat m.toNat p.toNat q.toNat := by
  subst hL
  unfold chg
  rw [wl_len]
  unfold wl
  refine List.map_congr_left (fun i hi => ?_)
  have hi := List.mem_range.mp hi
  by_cases e : k.toNat ≤ i ∧ i < k.toNat + m.toNat
  · rw [if_pos e]
    have h3 := h2 ((i : Int) - k) (by omega) (by omega)
    rw [show k + ((i : Int) - k) = i by omega] at h3
    rw [h3]
    by_cases e2 : (i - k.toNat) % 2 = 0
    · rw [if_pos e2, if_pos (by omega)]
    · rw [if_neg e2, if_neg (by omega)]
  · rw [if_neg e, h1 _ (by omega) (by omega) (by omega)]
    rw [List.getD_eq_getElem?_getD, List.getElem?_map, List.getElem?_range hi]
    rfl
theorem likP_y {A B : List Nat} (h : A = B) : likP (some A) (some B) = 1 := if_pos h
theorem likP_n {A B : List Nat} (h : ¬ A = B) : likP (some A) (some B) = 0 := if_neg h
end
section
end
