/-! pictures of what methods do to the world -/
/-- n places of cell i of kind k hold v -/
def fiS (S : wSt) (k : Nat) (i n v : Int) : wSt := fun k' i' j' => if k' = k ∧ i' = i ∧ 0 ≤ j' ∧ j' < n then v else S k' i' j'
theorem fiS_0 (S : wSt) (k : Nat) (i v : Int) : fiS S k i 0 v = S := by
  funext k' i' j'
  exact if_neg (fun h => by omega)
theorem fiS_s (S : wSt) (k : Nat) (i n v : Int) (hn : 0 ≤ n) : ups (fiS S k i n v) k i n v = fiS S k i (n + 1) v := by
  funext k' i' j'
  simp only [ups, fiS]
  by_cases h : k' = k ∧ i' = i
  · by_cases h2 : j' = n
    · rw [if_pos ⟨h.1, h.2, h2⟩, if_pos ⟨h.1, h.2, by omega, by omega⟩]
    · rw [if_neg (fun q => h2 q.2.2)]
      by_cases h3 : 0 ≤ j' ∧ j' < n
      · rw [if_pos ⟨h.1, h.2, h3⟩, if_pos ⟨h.1, h.2, by omega, by omega⟩]
      · rw [if_neg (fun q => h3 q.2.2), if_neg (fun q => h3 ⟨q.2.2.1, by omega⟩)]
  · rw [if_neg (fun q => h ⟨q.1, q.2.1⟩), if_neg (fun q => h ⟨q.1, q.2.1⟩), if_neg (fun q => h ⟨q.1, q.2.1⟩)]
/-- the first n slots' words are empty -/
def wzS (S : wSt) (n : Int) : wSt := fun k i j => if k = 1 ∧ 0 ≤ i ∧ i < n ∧ j = 1 then 0 else S k i j
theorem wzS_0 (S : wSt) : wzS S 0 = S := by
  funext k i j
  exact if_neg (fun h => by omega)
theorem wzS_s (S : wSt) (n : Int) (hn : 0 ≤ n) : ups (wzS S n) 1 n 1 0 = wzS S (n + 1) := by
  funext k i j
  simp only [ups, wzS]
  by_cases h : k = 1 ∧ i = n ∧ j = 1
  · rw [if_pos h, if_pos ⟨h.1, by omega, by omega, h.2.2⟩]
  · rw [if_neg h]
    by_cases h3 : k = 1 ∧ 0 ≤ i ∧ i < n ∧ j = 1
    · rw [if_pos h3, if_pos ⟨h3.1, by omega, by omega, h3.2.2.2⟩]
    · rw [if_neg h3, if_neg (fun q => h3 ⟨q.1, q.2.1, by
        have : ¬ i = n := fun e => h ⟨q.1, e, q.2.2.2⟩
        omega, q.2.2.2⟩)]
def anS (S : wSt) : wSt := ups (ups (ups (ups (wzS S 8) 12 0 4 0) 12 0 5 0) 16 0 4 0) 16 0 5 0
/-- set j comes to set i -/
def teS (S : wSt) (i j : Int) : wSt := ups (cpS (cpS S 4 j 0 4 i 0 6) 5 j 0 5 i 0 36) 3 i 2 (S 3 j 2)
/-- word b comes to word a -/
def tkS (S : wSt) (a b : Int) : wSt := ups (cpS S 2 b 0 2 a 0 (S 1 b 1)) 1 a 1 (S 1 b 1)
def apS (S : wSt) (a b : Int) : wSt := ups (cpS S 2 b 0 2 a (S 1 a 1) (S 1 b 1)) 1 a 1 (S 1 a 1 + S 1 b 1)
def kpS (S : wSt) : wSt := ups (ups (teS S (S 8 0 1) 16) 8 0 1 ((S 8 0 1 + 1) % 16)) 8 0 2 (if S 8 0 2 < 16 then S 8 0 2 + 1 else S 8 0 2)
/-- nothing of the other side is touched -/
def sM (S S' : wSt) : Prop := ∀ k : Nat, 30 ≤ k → S' k = S k
theorem sM_rfl (S : wSt) : sM S S := fun _ _ => rfl
theorem sM_up {S S1 : wSt} {k : Nat} {i j z : Int} (hk : k < 30) (h : sM S S1) : sM S (ups S1 k i j z) := fun k' h' => by rw [ups_k S1 i j z (by omega)]; exact h k' h'
theorem sM_cp {S S1 : wSt} {k0 : Nat} {i0 sp : Int} {k1 : Nat} {i1 dp n : Int} (hk : k1 < 30) (h : sM S S1) : sM S (cpS S1 k0 i0 sp k1 i1 dp n) := fun k' h' => by
  funext i
  rw [cpS_ki S1 (by omega)]
  exact congrFun (h k' h') i
theorem sM_wz {S S1 : wSt} {n : Int} (h : sM S S1) : sM S (wzS S1 n) := fun k' h' => by
  funext i j
  simp only [wzS]
  rw [if_neg (by omega)]
  exact congrFun (congrFun (h k' h') i) j
theorem sM_fi {S S1 : wSt} {k : Nat} {i n v : Int} (hk : k < 30) (h : sM S S1) : sM S (fiS S1 k i n v) := fun k' h' => by
  funext i' j'
  simp only [fiS]
  rw [if_neg (by omega)]
  exact congrFun (congrFun (h k' h') i') j'
theorem sM_an {S S1 : wSt} (h : sM S S1) : sM S (anS S1) := sM_up (by decide) (sM_up (by decide) (sM_up (by decide) (sM_up (by decide) (sM_wz h))))
theorem sM_te {S S1 : wSt} {i j : Int} (h : sM S S1) : sM S (teS S1 i j) := sM_up (by decide) (sM_cp (by decide) (sM_cp (by decide) h))
theorem sM_tk {S S1 : wSt} {a b : Int} (h : sM S S1) : sM S (tkS S1 a b) := sM_up (by decide) (sM_cp (by decide) h)
theorem sM_ap {S S1 : wSt} {a b : Int} (h : sM S S1) : sM S (apS S1 a b) := sM_up (by decide) (sM_cp (by decide) h)
theorem sM_kp {S S1 : wSt} (h : sM S S1) : sM S (kpS S1) := sM_up (by decide) (sM_up (by decide) (sM_te h))
section KX
variable {E : wE} {g : wG} {nL : Nat} {S : wSt} {pc : Nat} {lv : List (Nat × Value)} {st : List Value}
theorem kw_chi {z z' : Int} (h : z = z') (kk : Wk E g nL S pc lv (vi z' :: st)) : Wk E g nL S pc lv (vi z :: st) := h ▸ kk
theorem kw_chl {z z' : Int} (h : z = z') (kk : Wk E g nL S pc lv (vl z' :: st)) : Wk E g nL S pc lv (vl z :: st) := h ▸ kk
theorem kw_chS {S' : wSt} (h : S = S') (kk : Wk E g nL S' pc lv st) : Wk E g nL S pc lv st := h ▸ kk
end KX
theorem kw_rem {a b : Int} (ha : 0 ≤ a) (ha2 : a < 2147483648) (hb : 0 < b) (hb2 : b < 2147483648) : Int32.ofInt a - Int32.ofInt a / Int32.ofInt b * Int32.ofInt b = Int32.ofInt (a % b) := by
  have h := pk_rem (a := a.toNat) (d := b.toNat) (by omega) (by omega) (by omega)
  have ea : nI a.toNat = Int32.ofInt a := by rw [nI, ← Int32.ofInt_eq_ofNat, Int.toNat_of_nonneg ha]
  have eb : nI b.toNat = Int32.ofInt b := by rw [nI, ← Int32.ofInt_eq_ofNat, Int.toNat_of_nonneg (by omega)]
  have er : nI (a.toNat % b.toNat) = Int32.ofInt (a % b) := by
    rw [nI, ← Int32.ofInt_eq_ofNat]
    congr 1
    rw [Int.natCast_emod, Int.toNat_of_nonneg ha, Int.toNat_of_nonneg (by omega)]
  rw [ea, eb, er] at h
  exact h
theorem kw_irem {E : wE} {g : wG} {cc : ByteArray} {own : String} {Ts : List Cond} {nL : Nat} {rm : Room} {S : wSt} {pc q : Nat} {lv : List (Nat × Value)} {st : List Value} {a b : Int} (hC : Cx E g cc own Ts nL rm) (hd : decode cc pc = .ok (.irem, 1)) (hq : pc + 1 = q) (ha : 0 ≤ a ∧ a < 2147483648) (hb9 : 0 < b ∧ b < 2147483648) (kk : Wk E g nL S q lv (vi (a % b) :: st)) : Wk E g nL S pc lv (vi b :: vi a :: st) := by
  obtain ⟨p, l, e, R, s, m, args, below, meth, c, A, H0, cells, slots, Q⟩ := E
  obtain ⟨hx, hb, hml, hown, hts, hK, hR, hD, hA, hc1, hc2⟩ := hC
  subst hq
  intro H locs ls hP hS hl
  have h := kk H locs ls hP hS hl
  rw [vi, ← kw_rem ha.1 ha.2 hb9.1 hb9.2] at h
  refine lv_irem hx hb hd (fun h9 => ?_) h
  have := (kw_eqI (a := b) (b := 0) (by omega) (by omega)).mp h9
  omega

theorem xi_r (x : Int32) : -2147483648 ≤ x.toInt ∧ x.toInt ≤ 2147483647 := by
  have h1 := Int32.le_toInt x
  have h2 := Int32.toInt_lt x
  omega
theorem vi_x (x : Int32) : vi x.toInt = .int x := by unfold vi; rw [Int32.ofInt_toInt]
theorem vl_x (x : Int64) : vl x.toInt = .long x := by unfold vl; rw [Int64.ofInt_toInt]
theorem xl_r (x : Int64) : -9223372036854775808 ≤ x.toInt ∧ x.toInt ≤ 9223372036854775807 := by
  have h1 := Int64.le_toInt x
  have h2 := Int64.toInt_lt x
  omega
/-- what the machine holds of a whole number -/
def nl (z : Int) : Int := (Int64.ofInt z).toInt
def ni (z : Int) : Int := (Int32.ofInt z).toInt
theorem nl_r (z : Int) : -9223372036854775808 ≤ nl z ∧ nl z ≤ 9223372036854775807 := xl_r _
theorem ni_r (z : Int) : -2147483648 ≤ ni z ∧ ni z ≤ 2147483647 := xi_r _
theorem nl_e {z : Int} (h : -9223372036854775808 ≤ z ∧ z ≤ 9223372036854775807) : nl z = z := kw_tl h
theorem ni_e {z : Int} (h : -2147483648 ≤ z ∧ z ≤ 2147483647) : ni z = z := kw_ti h
theorem vl_nl (z : Int) : vl (nl z) = vl z := by unfold nl; rw [vl_x]; rfl
theorem vi_ni (z : Int) : vi (ni z) = vi z := by unfold ni; rw [vi_x]; rfl
def i_shl (a y : Int) : Int := (Int32.ofInt a <<< (Int32.ofInt y &&& 31)).toInt
def i_shr (a y : Int) : Int := (Int32.ofInt a >>> (Int32.ofInt y &&& 31)).toInt
def i_and (a y : Int) : Int := (Int32.ofInt a &&& Int32.ofInt y).toInt
def i_or (a y : Int) : Int := (Int32.ofInt a ||| Int32.ofInt y).toInt
def i_b (a : Int) : Int := ((Int32.ofInt a).toInt8.toInt32).toInt
def l_shl (a y : Int) : Int := (Int64.ofInt a <<< ((Int32.ofInt y).toInt64 &&& 63)).toInt
def l_shr (a y : Int) : Int := (Int64.ofInt a >>> ((Int32.ofInt y).toInt64 &&& 63)).toInt
section GX
variable {E : wE} {g : wG} {cc : ByteArray} {own : String} {Ts : List Cond} {nL : Nat} {rm : Room} {S : wSt} {pc q : Nat} {lv : List (Nat × Value)} {st : List Value}
theorem kw_nrl {z : Int} (kk : Wk E g nL S pc lv (vl (nl z) :: st)) : Wk E g nL S pc lv (vl z :: st) := by rw [vl_nl] at kk; exact kk
theorem kw_nri {z : Int} (kk : Wk E g nL S pc lv (vi (ni z) :: st)) : Wk E g nL S pc lv (vi z :: st) := by rw [vi_ni] at kk; exact kk
theorem kw_ishlX {a y : Int} (hC : Cx E g cc own Ts nL rm) (hd : decode cc pc = .ok (.ishl, 1)) (hq : pc + 1 = q) (kk : Wk E g nL S q lv (vi (i_shl a y) :: st)) : Wk E g nL S pc lv (vi y :: vi a :: st) := by
  obtain ⟨p, l, e, R, s, m, args, below, meth, c, A, H0, cells, slots, Q⟩ := E
  obtain ⟨hx, hb, hml, hown, hts, hK, hR, hD, hA, hc1, hc2⟩ := hC
  subst hq
  intro H locs ls hP hS hl
  have h := kk H locs ls hP hS hl
  rw [i_shl, vi_x] at h
  exact lv_ishl hx hb hd h
theorem kw_ishrX {a y : Int} (hC : Cx E g cc own Ts nL rm) (hd : decode cc pc = .ok (.ishr, 1)) (hq : pc + 1 = q) (kk : Wk E g nL S q lv (vi (i_shr a y) :: st)) : Wk E g nL S pc lv (vi y :: vi a :: st) := by
  obtain ⟨p, l, e, R, s, m, args, below, meth, c, A, H0, cells, slots, Q⟩ := E
  obtain ⟨hx, hb, hml, hown, hts, hK, hR, hD, hA, hc1, hc2⟩ := hC
  subst hq
  intro H locs ls hP hS hl
  have h := kk H locs ls hP hS hl
  rw [i_shr, vi_x] at h
  exact lv_ishr hx hb hd h
theorem kw_iandX {a y : Int} (hC : Cx E g cc own Ts nL rm) (hd : decode cc pc = .ok (.iand, 1)) (hq : pc + 1 = q) (kk : Wk E g nL S q lv (vi (i_and a y) :: st)) : Wk E g nL S pc lv (vi y :: vi a :: st) := by
  obtain ⟨p, l, e, R, s, m, args, below, meth, c, A, H0, cells, slots, Q⟩ := E
  obtain ⟨hx, hb, hml, hown, hts, hK, hR, hD, hA, hc1, hc2⟩ := hC
  subst hq
  intro H locs ls hP hS hl
  have h := kk H locs ls hP hS hl
  rw [i_and, vi_x] at h
  exact lv_iand hx hb hd h
theorem kw_iorX {a y : Int} (hC : Cx E g cc own Ts nL rm) (hd : decode cc pc = .ok (.ior, 1)) (hq : pc + 1 = q) (kk : Wk E g nL S q lv (vi (i_or a y) :: st)) : Wk E g nL S pc lv (vi y :: vi a :: st) := by
  obtain ⟨p, l, e, R, s, m, args, below, meth, c, A, H0, cells, slots, Q⟩ := E
  obtain ⟨hx, hb, hml, hown, hts, hK, hR, hD, hA, hc1, hc2⟩ := hC
  subst hq
  intro H locs ls hP hS hl
  have h := kk H locs ls hP hS hl
  rw [i_or, vi_x] at h
  exact lv_ior hx hb hd h
theorem kw_i2bX {a : Int} (hC : Cx E g cc own Ts nL rm) (hd : decode cc pc = .ok (.i2b, 1)) (hq : pc + 1 = q) (kk : Wk E g nL S q lv (vi (i_b a) :: st)) : Wk E g nL S pc lv (vi a :: st) := by
  obtain ⟨p, l, e, R, s, m, args, below, meth, c, A, H0, cells, slots, Q⟩ := E
  obtain ⟨hx, hb, hml, hown, hts, hK, hR, hD, hA, hc1, hc2⟩ := hC
  subst hq
  intro H locs ls hP hS hl
  have h := kk H locs ls hP hS hl
  rw [i_b, vi_x] at h
  exact lv_i2b hx hb hd rfl h
theorem kw_lshlZ {a y : Int} (hC : Cx E g cc own Ts nL rm) (hd : decode cc pc = .ok (.lshl, 1)) (hq : pc + 1 = q) (kk : Wk E g nL S q lv (vl (l_shl a y) :: st)) : Wk E g nL S pc lv (vi y :: vl a :: st) := by
  obtain ⟨p, l, e, R, s, m, args, below, meth, c, A, H0, cells, slots, Q⟩ := E
  obtain ⟨hx, hb, hml, hown, hts, hK, hR, hD, hA, hc1, hc2⟩ := hC
  subst hq
  intro H locs ls hP hS hl
  have h := kk H locs ls hP hS hl
  rw [l_shl, vl_x] at h
  exact lv_lshl hx hb hd rfl h
theorem kw_lshrZ {a y : Int} (hC : Cx E g cc own Ts nL rm) (hd : decode cc pc = .ok (.lshr, 1)) (hq : pc + 1 = q) (kk : Wk E g nL S q lv (vl (l_shr a y) :: st)) : Wk E g nL S pc lv (vi y :: vl a :: st) := by
  obtain ⟨p, l, e, R, s, m, args, below, meth, c, A, H0, cells, slots, Q⟩ := E
  obtain ⟨hx, hb, hml, hown, hts, hK, hR, hD, hA, hc1, hc2⟩ := hC
  subst hq
  intro H locs ls hP hS hl
  have h := kk H locs ls hP hS hl
  rw [l_shr, vl_x] at h
  exact lv_lshr hx hb hd rfl h
end GX
/-- only what T names has changed -/
def Fr (T : Nat → Int → Int → Prop) (S S' : wSt) : Prop := ∀ k i j, ¬ T k i j → S' k i j = S k i j
theorem Fr.rfl (T : Nat → Int → Int → Prop) (S : wSt) : Fr T S S := fun _ _ _ _ => Eq.refl _
theorem Fr.trans {T : Nat → Int → Int → Prop} {S S1 S2 : wSt} (h : Fr T S S1) (h1 : Fr T S1 S2) : Fr T S S2 := fun k i j n => (h1 k i j n).trans (h k i j n)
theorem Fr.mono {T T' : Nat → Int → Int → Prop} {S S' : wSt} (h : Fr T S S') (ht : ∀ k i j, T k i j → T' k i j) : Fr T' S S' := fun k i j n => h k i j (fun q => n (ht k i j q))
theorem Fr.ups {T : Nat → Int → Int → Prop} {S S' : wSt} (h : Fr T S S') {k : Nat} {i j z : Int} (ht : T k i j) : Fr T S (ups S' k i j z) := fun k' i' j' n => (ups_n S' z (fun q => n (by rw [q.1, q.2.1, q.2.2]; exact ht))).trans (h k' i' j' n)
theorem Fr.fi {T : Nat → Int → Int → Prop} {S S' : wSt} (h : Fr T S S') {k : Nat} {i n z : Int} (ht : ∀ j, T k i j) : Fr T S (fiS S' k i n z) := fun k' i' j' nn => by
  unfold fiS
  rw [if_neg (fun q => nn (by rw [q.1, q.2.1]; exact ht _))]
  exact h k' i' j' nn
theorem Fr.cp {T : Nat → Int → Int → Prop} {S S' : wSt} (h : Fr T S S') {k0 k1 : Nat} {i0 sp i1 dp n : Int} (ht : ∀ j, T k1 i1 j) : Fr T S (cpS S' k0 i0 sp k1 i1 dp n) := fun k' i' j' nn => by
  rw [cpS_ki S' (fun q => nn (by rw [q.1, q.2]; exact ht _))]
  exact h k' i' j' nn
theorem kw_hv {E : wE} {g : wG} {nL : Nat} {pc : Nat} {lv : List (Nat × Value)} {st : List Value} {T : Nat → Int → Int → Prop} {S0 S : wSt} {k : Nat} {i j z : Int} (h : Fr T S0 S) (ht : T k i j) (kk : ∀ S' : wSt, Fr T S0 S' → S' k i j = z → (∀ k' i' j', ¬ (k' = k ∧ i' = i ∧ j' = j) → S' k' i' j' = S k' i' j') → Wk E g nL S' pc lv st) : Wk E g nL (ups S k i j z) pc lv st := kk _ (h.ups ht) (ups_s S k i j z) (fun _ _ _ hn => ups_n S z hn)
/-- m letters of a row are mirrors -/
def WV (f : Int → Int) (m n : Int) : Prop := ∀ k, 0 ≤ k → k < m → 0 ≤ f k ∧ f k < n
/-- a set of mirrors as it must be -/
def sOK (n : Int) (kd mt : Int → Int) : Prop := (0 ≤ n ∧ n ≤ 6) ∧ (∀ i, 0 ≤ i → i < 6 → 0 ≤ kd i ∧ kd i ≤ 2) ∧ (∀ i j, 0 ≤ i → i < 6 → 0 ≤ j → j < 6 → 0 ≤ mt (6 * i + j) ∧ mt (6 * i + j) ≤ 4) ∧ (∀ i, 0 ≤ i → i < 6 → mt (6 * i + i) = 0) ∧ (∀ i j, 0 ≤ i → i < 6 → 0 ≤ j → j < 6 → mt (6 * i + j) = 0 → mt (6 * j + i) = 0) ∧ (∀ i j, 0 ≤ i → i < 6 → 0 ≤ j → j < 6 → mt (6 * i + j) * mt (6 * j + i) ≤ 4)
def mxz (f : Int → Int) : Nat → Nat → Int := fun i j => f (6 * (i : Int) + (j : Int))
theorem sOK.mok {n : Int} {kd mt : Int → Int} (h : sOK n kd mt) : MOk (mxz mt) n.toNat := by
  obtain ⟨h0, -, h2, h3, h4, h5⟩ := h
  exact ⟨fun i hi => h3 i (by omega) (by omega), fun i j hi hj => (h2 i j (by omega) (by omega) (by omega) (by omega)).1, fun i j hi hj => (h2 i j (by omega) (by omega) (by omega) (by omega)).2, fun i j hi hj => h4 i j (by omega) (by omega) (by omega) (by omega), fun i j hi hj => h5 i j (by omega) (by omega) (by omega) (by omega)⟩
theorem sOK.congr {n n' : Int} {kd kd' mt mt' : Int → Int} (h : sOK n kd mt) (hn : n' = n) (hk : ∀ i, 0 ≤ i → i < 6 → kd' i = kd i) (hm : ∀ j, 0 ≤ j → j < 36 → mt' j = mt j) : sOK n' kd' mt' := by
  obtain ⟨h0, h1, h2, h3, h4, h5⟩ := h
  subst hn
  refine ⟨h0, fun i a b => by rw [hk i a b]; exact h1 i a b, fun i j a b c d => by rw [hm _ (by omega) (by omega)]; exact h2 i j a b c d, fun i a b => by rw [hm _ (by omega) (by omega)]; exact h3 i a b, fun i j a b c d => by rw [hm _ (by omega) (by omega), hm _ (by omega) (by omega)]; exact h4 i j a b c d, fun i j a b c d => by rw [hm _ (by omega) (by omega), hm _ (by omega) (by omega)]; exact h5 i j a b c d⟩

/-- what of the reference lasts is as it must be -/
def RI (S : wSt) : Prop := sOK (S 30 0 0) (S 41 0) (S 42 0) ∧ (0 ≤ S 30 0 4 ∧ S 30 0 4 ≤ 16) ∧ (∀ q, 0 ≤ q → q < S 30 0 4 → sOK (S 43 0 (43 * q)) (fun j => S 43 0 (43 * q + 1 + j)) (fun j => S 43 0 (43 * q + 7 + j))) ∧ (∀ s, 0 ≤ s → s < 8 → 0 ≤ S 46 0 s ∧ S 46 0 s ≤ 100) ∧ (∀ s k, 0 ≤ s → s < 8 → 0 ≤ k → k < S 46 0 s → 0 ≤ S 45 0 (100 * s + k) ∧ S 45 0 (100 * s + k) < S 30 0 0) ∧ (∀ l, 0 ≤ l → l < 4 → -1 ≤ S 69 0 l ∧ S 69 0 l ≤ 2) ∧ (∀ l, 0 ≤ l → l < 4 → 0 ≤ S 70 0 l ∧ S 70 0 l ≤ 40) ∧ (∀ j, 0 ≤ j → j < 160 → -9223372036854775808 ≤ S 71 0 j ∧ S 71 0 j ≤ 9223372036854775807)
section RR
variable {S : wSt}
theorem RI.set (h : RI S) : sOK (S 30 0 0) (S 41 0) (S 42 0) := h.1
theorem RI.n (h : RI S) : 0 ≤ S 30 0 0 ∧ S 30 0 0 ≤ 6 := h.1.1
theorem RI.c (h : RI S) : 0 ≤ S 30 0 4 ∧ S 30 0 4 ≤ 16 := h.2.1
theorem RI.kp (h : RI S) : ∀ q, 0 ≤ q → q < S 30 0 4 → sOK (S 43 0 (43 * q)) (fun j => S 43 0 (43 * q + 1 + j)) (fun j => S 43 0 (43 * q + 7 + j)) := h.2.2.1
theorem RI.kd (h : RI S) : ∀ i, 0 ≤ i → i < 6 → 0 ≤ S 41 0 i ∧ S 41 0 i ≤ 2 := h.1.2.1
theorem RI.mt (h : RI S) : ∀ i j, 0 ≤ i → i < 6 → 0 ≤ j → j < 6 → 0 ≤ S 42 0 (6 * i + j) ∧ S 42 0 (6 * i + j) ≤ 4 := h.1.2.2.1
theorem RI.ln (h : RI S) : ∀ s, 0 ≤ s → s < 8 → 0 ≤ S 46 0 s ∧ S 46 0 s ≤ 100 := h.2.2.2.1
theorem RI.lt (h : RI S) : ∀ s k, 0 ≤ s → s < 8 → 0 ≤ k → k < S 46 0 s → 0 ≤ S 45 0 (100 * s + k) ∧ S 45 0 (100 * s + k) < S 30 0 0 := h.2.2.2.2.1
theorem RI.la (h : RI S) : ∀ l, 0 ≤ l → l < 4 → -1 ≤ S 69 0 l ∧ S 69 0 l ≤ 2 := h.2.2.2.2.2.1
theorem RI.sz (h : RI S) : ∀ l, 0 ≤ l → l < 4 → 0 ≤ S 70 0 l ∧ S 70 0 l ≤ 40 := h.2.2.2.2.2.2.1
theorem RI.it (h : RI S) : ∀ j, 0 ≤ j → j < 160 → -9223372036854775808 ≤ S 71 0 j ∧ S 71 0 j ≤ 9223372036854775807 := h.2.2.2.2.2.2.2
end RR
/-- what of the reference does not last -/
def tR (k : Nat) (_ j : Int) : Prop := 30 ≤ k ∧ ¬ (k = 30 ∧ (j = 0 ∨ j = 4)) ∧ k ≠ 41 ∧ k ≠ 42 ∧ k ≠ 43 ∧ k ≠ 45 ∧ k ≠ 46 ∧ k ≠ 69 ∧ k ≠ 70 ∧ k ≠ 71
/-- the words too -/
def tW (k : Nat) (_ j : Int) : Prop := 30 ≤ k ∧ ¬ (k = 30 ∧ (j = 0 ∨ j = 4)) ∧ k ≠ 41 ∧ k ≠ 42 ∧ k ≠ 43 ∧ k ≠ 69 ∧ k ≠ 70 ∧ k ≠ 71
theorem tR_tW {S S' : wSt} (h : Fr tR S S') : Fr tW S S' := h.mono (fun k i j q => by unfold tR at q; unfold tW; omega)
theorem RI.fr {S S' : wSt} (h : RI S) (f : Fr tR S S') : RI S' := by
  have e0 : S' 30 0 0 = S 30 0 0 := f 30 0 0 (by unfold tR; omega)
  have e4 : S' 30 0 4 = S 30 0 4 := f 30 0 4 (by unfold tR; omega)
  have e41 : S' 41 0 = S 41 0 := funext fun j => f 41 0 j (by unfold tR; omega)
  have e42 : S' 42 0 = S 42 0 := funext fun j => f 42 0 j (by unfold tR; omega)
  have e43 : S' 43 0 = S 43 0 := funext fun j => f 43 0 j (by unfold tR; omega)
  have e45 : S' 45 0 = S 45 0 := funext fun j => f 45 0 j (by unfold tR; omega)
  have e46 : S' 46 0 = S 46 0 := funext fun j => f 46 0 j (by unfold tR; omega)
  have e69 : S' 69 0 = S 69 0 := funext fun j => f 69 0 j (by unfold tR; omega)
  have e70 : S' 70 0 = S 70 0 := funext fun j => f 70 0 j (by unfold tR; omega)
  have e71 : S' 71 0 = S 71 0 := funext fun j => f 71 0 j (by unfold tR; omega)
  unfold RI
  rw [e0, e4, e41, e42, e43, e45, e46, e69, e70, e71]
  exact h

