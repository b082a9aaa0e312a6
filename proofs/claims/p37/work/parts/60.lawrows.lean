def sv (xs : Nat → Int32) (n : Nat) : Int := (xs n).toInt
theorem sv_r (xs : Nat → Int32) (n : Nat) : -2147483648 ≤ sv xs n ∧ sv xs n ≤ 2147483647 := by
  have h1 := Int32.le_toInt (xs n)
  have h2 := Int32.toInt_lt (xs n)
  unfold sv
  omega
theorem vi_sv (xs : Nat → Int32) (n : Nat) : vi (sv xs n) = .int (xs n) := by unfold vi sv; rw [Int32.ofInt_toInt]
theorem lg_cmp_self (x : Int64) : lg_cmp x x = 0 := by
  unfold lg_cmp
  rw [if_neg (by rw [gt_iff_lt, Int64.lt_iff_toInt_lt]; omega), if_pos rfl]
def Lx (E : wE) (b L : Nat) (xs : Nat → Int32) : Prop := match E with
  | (_, _, _, _, s, _, _, _, _, _, A, H0, _, _, _) => va_X b L xs s H0 ∧ b < H0.size ∧ ¬ A b
section LW
variable {E : wE} {g : wG} {cc : ByteArray} {own : String} {Ts : List Cond} {nL : Nat} {rm : Room} {S : wSt} {pc q : Nat} {lv : List (Nat × Value)} {st : List Value} {b L : Nat} {xs : Nat → Int32}
theorem kw_rload_n {k : Fin 4} {a : Nat} (hC : Cx E g cc own Ts nL rm) (hd : decode cc pc = .ok (.aload_n k, 1)) (hq : pc + 1 = q) (j : Nat) (hj : lv[j]? = some ((k : Nat), .ref a)) (kk : Wk E g nL S q lv (.ref a :: st)) : Wk E g nL S pc lv (st) := by
  obtain ⟨p, l, e, R, s, m, args, below, meth, c, A, H0, cells, slots, Q⟩ := E
  obtain ⟨hx, hb, hml, hown, hts, hK, hR, hD, hA, hc1, hc2⟩ := hC
  subst hq
  intro H locs ls hP hS hl
  exact lv_aload_n hx hb hd rfl (lv_at hl j hj) (kk H locs ls hP hS hl)
theorem kw_slen (hC : Cx E g cc own Ts nL rm) (hd : decode cc pc = .ok (.arraylength, 1)) (hq : pc + 1 = q) (hX : Lx E b L xs) (kk : Wk E g nL S q lv (vi (L : Int) :: st)) : Wk E g nL S pc lv (.ref b :: st) := by
  obtain ⟨p, l, e, R, s, m, args, below, meth, c, A, H0, cells, slots, Q⟩ := E
  obtain ⟨hx, hb, hml, hown, hts, hK, hR, hD, hA, hc1, hc2⟩ := hC
  subst hq
  intro H locs ls hP hS hl
  obtain ⟨x1, x2, x3⟩ := hX
  have h := kk H locs ls hP hS hl
  rw [vi, Int32.ofInt_eq_ofNat] at h
  exact va_slen hx hb x1 x2 x3 hS hd h
theorem kw_sld {z : Int} (hC : Cx E g cc own Ts nL rm) (hd : decode cc pc = .ok (.iaload, 1)) (hq : pc + 1 = q) (hX : Lx E b L xs) (h0 : 0 ≤ z) (h1 : z < L) (hLs : L < 2147483648) (kk : Wk E g nL S q lv (vi (sv xs z.toNat) :: st)) : Wk E g nL S pc lv (vi z :: .ref b :: st) := by
  obtain ⟨p, l, e, R, s, m, args, below, meth, c, A, H0, cells, slots, Q⟩ := E
  obtain ⟨hx, hb, hml, hown, hts, hK, hR, hD, hA, hc1, hc2⟩ := hC
  subst hq
  intro H locs ls hP hS hl
  obtain ⟨x1, x2, x3⟩ := hX
  have h := kk H locs ls hP hS hl
  rw [vi_sv] at h
  exact va_sld hx hb x1 x2 x3 hS (kw_vpin h0 h1 hLs) hd (by rw [kw_cl h0 (by omega)]; exact h)
theorem kw_and63 {a : Int} (hC : Cx E g cc own Ts nL rm) (hd : decode cc pc = .ok (.iand, 1)) (hq : pc + 1 = q) (kk : ∀ k : Int, 0 ≤ k → k < 64 → Wk E g nL S q lv (vi k :: st)) : Wk E g nL S pc lv (vi 63 :: vi a :: st) := by
  obtain ⟨p, l, e, R, s, m, args, below, meth, c, A, H0, cells, slots, Q⟩ := E
  obtain ⟨hx, hb, hml, hown, hts, hK, hR, hD, hA, hc1, hc2⟩ := hC
  subst hq
  intro H locs ls hP hS hl
  obtain ⟨j, hj, e9⟩ := pk_andE (Int32.ofInt a) (m := 63) 6 (by decide)
  have h := kk (j : Int) (by omega) (by omega) H locs ls hP hS hl
  have e2 : Int32.ofInt a &&& Int32.ofInt 63 = Int32.ofInt (j : Int) := by rw [show Int32.ofInt 63 = 63 from rfl, e9, nI, Int32.ofInt_eq_ofNat]
  rw [vi, ← e2] at h
  exact lv_iand hx hb hd h
theorem kw_icmp_eqS {a off : Int} {tgt : Nat} (hC : Cx E g cc own Ts nL rm) (hd : decode cc pc = .ok (.if_icmp .eq off, 3)) (hq : pc + 3 = q) (ht : (pc : Int) + off = (tgt : Int)) (kk : Wk E g nL S tgt lv st) : Wk E g nL S pc lv (vi a :: vi a :: st) := by
  obtain ⟨p, l, e, R, s, m, args, below, meth, c, A, H0, cells, slots, Q⟩ := E
  obtain ⟨hx, hb, hml, hown, hts, hK, hR, hD, hA, hc1, hc2⟩ := hC
  subst hq
  intro H locs ls hP hS hl
  exact lv_icmp_eq hx hb hd ht (fun _ => kk H locs ls hP hS hl) (fun c9 => absurd rfl c9)
theorem kw_lcmpS {a : Int} (hC : Cx E g cc own Ts nL rm) (hd : decode cc pc = .ok (.lcmp, 1)) (hq : pc + 1 = q) (kk : Wk E g nL S q lv (vi 0 :: st)) : Wk E g nL S pc lv (vl a :: vl a :: st) := by
  obtain ⟨p, l, e, R, s, m, args, below, meth, c, A, H0, cells, slots, Q⟩ := E
  obtain ⟨hx, hb, hml, hown, hts, hK, hR, hD, hA, hc1, hc2⟩ := hC
  subst hq
  intro H locs ls hP hS hl
  have h := kk H locs ls hP hS hl
  rw [show vi 0 = .int (lg_cmp (Int64.ofInt a) (Int64.ofInt a)) by rw [lg_cmp_self]; rfl] at h
  exact W.lcmp hx hb hd h
theorem kw_lshlX {a y : Int} (hC : Cx E g cc own Ts nL rm) (hd : decode cc pc = .ok (.lshl, 1)) (hq : pc + 1 = q) (kk : Wk E g nL S q lv (vl (Int64.ofInt a <<< ((Int32.ofInt y).toInt64 &&& 63)).toInt :: st)) : Wk E g nL S pc lv (vi y :: vl a :: st) := by
  obtain ⟨p, l, e, R, s, m, args, below, meth, c, A, H0, cells, slots, Q⟩ := E
  obtain ⟨hx, hb, hml, hown, hts, hK, hR, hD, hA, hc1, hc2⟩ := hC
  subst hq
  intro H locs ls hP hS hl
  have h := kk H locs ls hP hS hl
  rw [vl_x] at h
  exact lv_lshl hx hb hd rfl h
theorem kw_landX {a y : Int} (hC : Cx E g cc own Ts nL rm) (hd : decode cc pc = .ok (.land, 1)) (hq : pc + 1 = q) (kk : Wk E g nL S q lv (vl (Int64.ofInt a &&& Int64.ofInt y).toInt :: st)) : Wk E g nL S pc lv (vl y :: vl a :: st) := by
  obtain ⟨p, l, e, R, s, m, args, below, meth, c, A, H0, cells, slots, Q⟩ := E
  obtain ⟨hx, hb, hml, hown, hts, hK, hR, hD, hA, hc1, hc2⟩ := hC
  subst hq
  intro H locs ls hP hS hl
  have h := kk H locs ls hP hS hl
  rw [vl_x] at h
  exact lv_land hx hb hd h
theorem kw_lorX {a y : Int} (hC : Cx E g cc own Ts nL rm) (hd : decode cc pc = .ok (.lor, 1)) (hq : pc + 1 = q) (kk : Wk E g nL S q lv (vl (Int64.ofInt a ||| Int64.ofInt y).toInt :: st)) : Wk E g nL S pc lv (vl y :: vl a :: st) := by
  obtain ⟨p, l, e, R, s, m, args, below, meth, c, A, H0, cells, slots, Q⟩ := E
  obtain ⟨hx, hb, hml, hown, hts, hK, hR, hD, hA, hc1, hc2⟩ := hC
  subst hq
  intro H locs ls hP hS hl
  have h := kk H locs ls hP hS hl
  rw [vl_x] at h
  exact lv_lor hx hb hd h
abbrev lvI (g : wG) (b : Nat) (i : Int) : List (Nat × Value) := [(3, vi i), (2, vr g 30 0), (1, vr g 0 0), (0, .ref b)]
theorem kw_argI {n i : Int} (hC : Cx E g cc own Ts nL rm) (hX : Lx E b L xs) (hLs : L < 2147483648) (h0 : 0 ≤ i + n) (h1 : i + n < L) (d0 : decode cc pc = .ok (.aload_n 0, 1)) (d1 : decode cc (pc + 1) = .ok (.iload_n 3, 1)) (d2 : decode cc (pc + 2) = .ok (.iconst n, 1)) (d3 : decode cc (pc + 3) = .ok (.iadd, 1)) (d4 : decode cc (pc + 4) = .ok (.iaload, 1)) (kk : Wk E g nL S (pc + 5) (lvI g b i) (vi (sv xs (i + n).toNat) :: st)) : Wk E g nL S pc (lvI g b i) st := by
  refine kw_rload_n hC d0 rfl 3 rfl ?_
  refine kw_iload_n hC d1 rfl 0 rfl ?_
  refine kw_iconst hC d2 rfl ?_
  refine kw_iadd hC d3 rfl ?_
  exact kw_sld hC d4 rfl hX h0 h1 hLs kk
theorem kw_pop2 {v : Value} (hC : Cx E g cc own Ts nL rm) (hd : decode cc pc = .ok (.pop2, 1)) (hq : pc + 1 = q) (hv : v.category = 2) (kk : Wk E g nL S q lv st) : Wk E g nL S pc lv (v :: st) := by
  obtain ⟨p, l, e, R, s, m, args, below, meth, c, A, H0, cells, slots, Q⟩ := E
  obtain ⟨hx, hb, hml, hown, hts, hK, hR, hD, hA, hc1, hc2⟩ := hC
  subst hq
  intro H locs ls hP hS hl
  exact lv_pop2_2 hx hb hd hv (kk H locs ls hP hS hl)
end LW
theorem wc_wk {E : wE} {g : wG} {nL : Nat} {pc : Nat} {lv : List (Nat × Value)} {st : List Value} {h N cells slots : Nat} (hg : g.2.2 = adX h) (hN : h + 128 < N) (hE : E.2.2.2.2.2.2.2.2.2.2.2.2.1 = cells ∧ E.2.2.2.2.2.2.2.2.2.2.2.2.2.1 = slots) (kk : Wk E g nL S0_ pc lv st) : Wc E g nL (czf g) N cells slots pc lv st := by
  obtain ⟨p, l, e, R, s, m, args, below, meth, c, A, H0, cells9, slots9, Q⟩ := E
  obtain ⟨rfl, rfl⟩ := hE
  intro H locs ls hQ hS hl
  refine kk H locs ls (fun k i h0 h1 => hQ.2 k i h0 h1 ?_) hS hl
  have hk : k < 73 := by
    rcases Nat.lt_or_ge k 73 with q | q
    · exact q
    · rw [cn_zz k q] at h1; omega
  have hi := cn_big k hk
  have e1 := of_iv k hk i.toNat (by omega) (by omega)
  rw [Int.toNat_of_nonneg h0] at e1
  have e2 : of_ k i < iv_.length := (List.getElem?_eq_some_iff.mp e1).1
  have e3 : iv_.length = 129 := by decide +kernel
  rw [hg]
  show h + of_ k i < N
  omega
theorem cz_69 (g : wG) : czf g 69 0 = ka_i g 4 (fun j => if 0 ≤ j ∧ j < ((4 : Nat) : Int) then -1 else 0) := by
  show ka_i g 4 (S0_ 69 0) = _
  congr 1
  funext j
  show (if (69 : Nat) = 18 ∧ j = 0 then (1 : Int) else if (69 : Nat) = 69 ∧ 0 ≤ j ∧ j < 4 then -1 else 0) = _
  rw [if_neg (fun q => absurd q.1 (by decide))]
  by_cases h : 0 ≤ j ∧ j < 4
  · rw [if_pos ⟨rfl, h⟩]
    exact (if_pos h).symm
  · rw [if_neg (fun q => h q.2)]
    exact (if_neg h).symm

/-- class and reference, each as it must be, keep x and y -/
def LI (S : wSt) (x : aS) (y : aL) : Prop := CI S ∧ RI S ∧ AC S x ∧ AR S x ∧ LC S y ∧ LR S y
/-- the class has gone ahead -/
def LH (S : wSt) (x x' : aS) (y y' : aL) : Prop := CI S ∧ RI S ∧ AC S x' ∧ AR S x ∧ LC S y' ∧ LR S y
theorem RI.oth {S S' : wSt} (h : RI S) (f : ∀ k i j, 30 ≤ k → S' k i j = S k i j) : RI S' := by
  have e (k : Nat) (hk : 30 ≤ k) : S' k 0 = S k 0 := funext fun j => f k 0 j hk
  unfold RI
  rw [e 30 (by omega), e 41 (by omega), e 42 (by omega), e 43 (by omega), e 45 (by omega), e 46 (by omega), e 69 (by omega), e 70 (by omega), e 71 (by omega)]
  exact h
theorem CI.oth {S S' : wSt} (h : CI S) (f : ∀ k i j, k < 30 → S' k i j = S k i j) : CI S' := by
  have e (k : Nat) (i : Int) (hk : k < 30) : S' k i = S k i := funext fun j => f k i j hk
  obtain ⟨h1, h2, h3, h4, h5, h6, h7, h8⟩ := h
  exact ⟨by rw [e 3 16 (by omega), e 4 16 (by omega), e 5 16 (by omega)]; exact h1, by rw [e 8 0 (by omega)]; exact h2, fun c c0 c1 => by rw [e 3 c (by omega), e 4 c (by omega), e 5 c (by omega)]; exact h3 c c0 c1, fun s s0 s1 => by rw [e 1 s (by omega), e 2 s (by omega), e 3 16 (by omega)]; exact h4 s s0 s1, fun l l0 l1 => by rw [e 6 l (by omega)]; exact h5 l l0 l1, fun l j l0 l1 j0 j1 => by rw [e 7 l (by omega)]; exact h6 l j l0 l1 j0 j1, by unfold RLI; rw [e 12 0 (by omega), e 13 0 (by omega), e 14 0 (by omega), e 15 0 (by omega), e 5 16 (by omega), e 3 16 (by omega)]; exact h7, by unfold FLI; rw [e 16 0 (by omega), e 17 0 (by omega), e 18 0 (by omega), e 3 16 (by omega)]; exact h8⟩
theorem AR.oth {S S' : wSt} {x : aS} (h : AR S x) (f : ∀ k i j, k = 30 ∧ (j = 0 ∨ j = 4) ∨ k = 41 ∨ k = 42 ∨ k = 43 → S' k i j = S k i j) : AR S' x := h.fr (f 30 0 0 (by omega)) (f 30 0 4 (by omega)) (fun j => f 41 0 j (by omega)) (fun j => f 42 0 j (by omega)) (fun j => f 43 0 j (by omega))
theorem LR.oth {S S' : wSt} {y : aL} (h : LR S y) (f : ∀ k i j, k = 69 ∨ k = 70 ∨ k = 71 → S' k i j = S k i j) : LR S' y := h.fr (fun j => f 69 0 j (by omega)) (fun j => f 70 0 j (by omega)) (fun j => f 71 0 j (by omega))
section LI9
variable {S S1 : wSt} {x x' : aS} {y y' : aL}
theorem LI.cw (h : LI S x y) (hc : CI S1) (f : Fr tX S S1) : LH S1 x x y y := ⟨hc, h.2.1.oth (fun k i j q => f k i j (by unfold tX; omega)), h.2.2.1.fr (fun k i j q => f k i j (by unfold tX; omega)), h.2.2.2.1.oth (fun k i j q => f k i j (by unfold tX; omega)), h.2.2.2.2.1.fr (fun k i j q => f k i j (by unfold tX; omega)), h.2.2.2.2.2.oth (fun k i j q => f k i j (by unfold tX; omega))⟩
theorem LI.cs (h : LI S x y) (hc : CI S1) (f : Fr tY S S1) (ha : AC S1 x') : LH S1 x x' y y := ⟨hc, h.2.1.oth (fun k i j q => f k i j (by unfold tY; omega)), ha, h.2.2.2.1.oth (fun k i j q => f k i j (by unfold tY; omega)), h.2.2.2.2.1.fr (fun k i j q => f k i j (by unfold tY; omega)), h.2.2.2.2.2.oth (fun k i j q => f k i j (by unfold tY; omega))⟩
theorem LI.cl (h : LI S x y) (hc : CI S1) (f : Fr tK S S1) (ha : LC S1 y') : LH S1 x x y y' := ⟨hc, h.2.1.oth (fun k i j q => f k i j (by unfold tK; omega)), h.2.2.1.fr (fun k i j q => f k i j (by unfold tK; omega)), h.2.2.2.1.oth (fun k i j q => f k i j (by unfold tK; omega)), ha, h.2.2.2.2.2.oth (fun k i j q => f k i j (by unfold tK; omega))⟩
theorem LI.cn (h : LI S x y) : LH S x x y y := h
theorem LH.rw' (h : LH S x x y y) (hr : RI S1) (f : Fr tW S S1) : LI S1 x y := ⟨h.1.oth (fun k i j q => f k i j (by unfold tW; omega)), hr, h.2.2.1.fr (fun k i j q => f k i j (by unfold tW; omega)), h.2.2.2.1.oth (fun k i j q => f k i j (by unfold tW; omega)), h.2.2.2.2.1.fr (fun k i j q => f k i j (by unfold tW; omega)), h.2.2.2.2.2.oth (fun k i j q => f k i j (by unfold tW; omega))⟩
theorem LH.rs (h : LH S x x' y y) (hr : RI S1) (f : Fr tS S S1) (ha : AR S1 x') : LI S1 x' y := ⟨h.1.oth (fun k i j q => f k i j (by unfold tS; omega)), hr, h.2.2.1.fr (fun k i j q => f k i j (by unfold tS; omega)), ha, h.2.2.2.2.1.fr (fun k i j q => f k i j (by unfold tS; omega)), h.2.2.2.2.2.oth (fun k i j q => f k i j (by unfold tS; omega))⟩
theorem LH.rl (h : LH S x x y y') (hr : RI S1) (f : Fr tL S S1) (ha : LR S1 y') : LI S1 x y' := ⟨h.1.oth (fun k i j q => f k i j (by unfold tL; omega)), hr, h.2.2.1.fr (fun k i j q => f k i j (by unfold tL; omega)), h.2.2.2.1.oth (fun k i j q => f k i j (by unfold tL; omega)), h.2.2.2.2.1.fr (fun k i j q => f k i j (by unfold tL; omega)), ha⟩
end LI9
theorem cOK_0 : cOK 0 (fun _ => 0) (fun _ => 0) := ⟨⟨by omega, fun _ _ _ => by show (0 : Int) ≤ 0 ∧ (0 : Int) ≤ 2; decide, fun _ _ _ _ _ _ => by show (0 : Int) ≤ 0 ∧ (0 : Int) ≤ 4; decide, fun _ _ _ => rfl, fun _ _ _ _ _ _ _ => rfl, fun _ _ _ _ _ _ => by show (0 : Int) * 0 ≤ 4; decide⟩, fun _ _ _ _ _ _ _ => rfl⟩
