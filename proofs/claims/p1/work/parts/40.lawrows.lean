def sv (xs : Nat → Int32) (n : Nat) : Int := (xs n).toInt
theorem sv_r (xs : Nat → Int32) (n : Nat) : -2147483648 ≤ sv xs n ∧ sv xs n ≤ 2147483647 := by
  have h1 := Int32.le_toInt (xs n)
  have h2 := Int32.toInt_lt (xs n)
  unfold sv
  omega
theorem vi_sv (xs : Nat → Int32) (n : Nat) : vi (sv xs n) = .int (xs n) := by unfold vi sv; rw [Int32.ofInt_toInt]
theorem vl_x (x : Int64) : vl x.toInt = .long x := by unfold vl; rw [Int64.ofInt_toInt]
theorem xl_r (x : Int64) : -9223372036854775808 ≤ x.toInt ∧ x.toInt ≤ 9223372036854775807 := by
  have h1 := Int64.le_toInt x
  have h2 := Int64.toInt_lt x
  omega
theorem lg_cmp_self (x : Int64) : lg_cmp x x = 0 := by
  unfold lg_cmp
  rw [if_neg (by rw [gt_iff_lt, Int64.lt_iff_toInt_lt]; omega), if_pos rfl]
theorem nM_sM {S S1 : wSt} (hs : sM S S1) (h : nM S) : nM S1 := ⟨by rw [hs 30 (by decide)]; exact h.1, by rw [hs 30 (by decide)]; exact h.2.1, fun j a b => by rw [hs 46 (by decide)]; exact h.2.2.1 j a b, fun j a b => by rw [hs 69 (by decide)]; exact h.2.2.2 j a b⟩
def Lx (E : wE) (b L : Nat) (xs : Nat → Int32) : Prop := match E with
  | (_, _, _, _, s, _, _, _, _, _, A, H0, _, _, _) => va_X b L xs s H0 ∧ b < H0.size ∧ ¬ A b
section LW
variable {E : wE} {g : wG} {cc : ByteArray} {own : String} {Ts : List Cond} {nL : Nat} {rm : Room} {S : wSt} {pc q : Nat} {lv : List (Nat × Value)} {st : List Value} {b L : Nat} {xs : Nat → Int32}
theorem kw_rload_n {k : Fin 4} {a : Nat} (hC : Cx E g cc own Ts nL rm) (hd : decode cc pc = .ok (.aload_n k, 1)) (hq : pc + 1 = q) (j : Nat) (hj : lv[j]? = some ((k : Nat), .ref a)) (kk : Wk E g nL S q lv (.ref a :: st)) : Wk E g nL S pc lv (st) := by
  obtain ⟨p, l, e, R, s, m, args, below, meth, c, A, H0, cells, slots, Q⟩ := E
  obtain ⟨hx, hb, hml, hown, hts, hK, hR, hD, hA, hc1, hc2⟩ := hC
  subst hq
  intro H locs ls hP hS hl
  exact lv_aload_n hx hb hd rfl (lv_at hl j hj) (kk H locs ls hP hS hl)
theorem kw_slen (hC : Cx E g cc own Ts nL rm) (hd : decode cc pc = .ok (.arraylength, 1)) (hq : pc + 1 = q) (hX : Lx E b L xs) (kk : Wk E g nL S q lv (vi (L : Int) :: st)) : Wk E g nL S pc lv (.ref b :: st) := by
  obtain ⟨p, l, e, R, s, m, args, below, meth, c, A, H0, cells, slots, Q⟩ := E
  obtain ⟨hx, hb, hml, hown, hts, hK, hR, hD, hA, hc1, hc2⟩ := hC
  subst hq
  intro H locs ls hP hS hl
  obtain ⟨x1, x2, x3⟩ := hX
  have h := kk H locs ls hP hS hl
  rw [vi, Int32.ofInt_eq_ofNat] at h
  exact va_slen hx hb x1 x2 x3 hS hd h
theorem kw_sld {z : Int} (hC : Cx E g cc own Ts nL rm) (hd : decode cc pc = .ok (.iaload, 1)) (hq : pc + 1 = q) (hX : Lx E b L xs) (h0 : 0 ≤ z) (h1 : z < L) (hLs : L < 2147483648) (kk : Wk E g nL S q lv (vi (sv xs z.toNat) :: st)) : Wk E g nL S pc lv (vi z :: .ref b :: st) := by
  obtain ⟨p, l, e, R, s, m, args, below, meth, c, A, H0, cells, slots, Q⟩ := E
  obtain ⟨hx, hb, hml, hown, hts, hK, hR, hD, hA, hc1, hc2⟩ := hC
  subst hq
  intro H locs ls hP hS hl
  obtain ⟨x1, x2, x3⟩ := hX
  have h := kk H locs ls hP hS hl
  rw [vi_sv] at h
  exact va_sld hx hb x1 x2 x3 hS (kw_vpin h0 h1 hLs) hd (by rw [kw_cl h0 (by omega)]; exact h)
theorem kw_and63 {a : Int} (hC : Cx E g cc own Ts nL rm) (hd : decode cc pc = .ok (.iand, 1)) (hq : pc + 1 = q) (kk : ∀ k : Int, 0 ≤ k → k < 64 → Wk E g nL S q lv (vi k :: st)) : Wk E g nL S pc lv (vi 63 :: vi a :: st) := by
  obtain ⟨p, l, e, R, s, m, args, below, meth, c, A, H0, cells, slots, Q⟩ := E
  obtain ⟨hx, hb, hml, hown, hts, hK, hR, hD, hA, hc1, hc2⟩ := hC
  subst hq
  intro H locs ls hP hS hl
  obtain ⟨j, hj, e9⟩ := pk_andE (Int32.ofInt a) (m := 63) 6 (by decide)
  have h := kk (j : Int) (by omega) (by omega) H locs ls hP hS hl
  have e2 : Int32.ofInt a &&& Int32.ofInt 63 = Int32.ofInt (j : Int) := by rw [show Int32.ofInt 63 = 63 from rfl, e9, nI, Int32.ofInt_eq_ofNat]
  rw [vi, ← e2] at h
  exact lv_iand hx hb hd h
theorem kw_icmp_eqS {a off : Int} {tgt : Nat} (hC : Cx E g cc own Ts nL rm) (hd : decode cc pc = .ok (.if_icmp .eq off, 3)) (hq : pc + 3 = q) (ht : (pc : Int) + off = (tgt : Int)) (kk : Wk E g nL S tgt lv st) : Wk E g nL S pc lv (vi a :: vi a :: st) := by
  obtain ⟨p, l, e, R, s, m, args, below, meth, c, A, H0, cells, slots, Q⟩ := E
  obtain ⟨hx, hb, hml, hown, hts, hK, hR, hD, hA, hc1, hc2⟩ := hC
  subst hq
  intro H locs ls hP hS hl
  exact lv_icmp_eq hx hb hd ht (fun _ => kk H locs ls hP hS hl) (fun c9 => absurd rfl c9)
theorem kw_lcmpS {a : Int} (hC : Cx E g cc own Ts nL rm) (hd : decode cc pc = .ok (.lcmp, 1)) (hq : pc + 1 = q) (kk : Wk E g nL S q lv (vi 0 :: st)) : Wk E g nL S pc lv (vl a :: vl a :: st) := by
  obtain ⟨p, l, e, R, s, m, args, below, meth, c, A, H0, cells, slots, Q⟩ := E
  obtain ⟨hx, hb, hml, hown, hts, hK, hR, hD, hA, hc1, hc2⟩ := hC
  subst hq
  intro H locs ls hP hS hl
  have h := kk H locs ls hP hS hl
  rw [show vi 0 = .int (lg_cmp (Int64.ofInt a) (Int64.ofInt a)) by rw [lg_cmp_self]; rfl] at h
  exact W.lcmp hx hb hd h
theorem kw_lshlX {a y : Int} (hC : Cx E g cc own Ts nL rm) (hd : decode cc pc = .ok (.lshl, 1)) (hq : pc + 1 = q) (kk : Wk E g nL S q lv (vl (Int64.ofInt a <<< ((Int32.ofInt y).toInt64 &&& 63)).toInt :: st)) : Wk E g nL S pc lv (vi y :: vl a :: st) := by
  obtain ⟨p, l, e, R, s, m, args, below, meth, c, A, H0, cells, slots, Q⟩ := E
  obtain ⟨hx, hb, hml, hown, hts, hK, hR, hD, hA, hc1, hc2⟩ := hC
  subst hq
  intro H locs ls hP hS hl
  have h := kk H locs ls hP hS hl
  rw [vl_x] at h
  exact lv_lshl hx hb hd rfl h
theorem kw_landX {a y : Int} (hC : Cx E g cc own Ts nL rm) (hd : decode cc pc = .ok (.land, 1)) (hq : pc + 1 = q) (kk : Wk E g nL S q lv (vl (Int64.ofInt a &&& Int64.ofInt y).toInt :: st)) : Wk E g nL S pc lv (vl y :: vl a :: st) := by
  obtain ⟨p, l, e, R, s, m, args, below, meth, c, A, H0, cells, slots, Q⟩ := E
  obtain ⟨hx, hb, hml, hown, hts, hK, hR, hD, hA, hc1, hc2⟩ := hC
  subst hq
  intro H locs ls hP hS hl
  have h := kk H locs ls hP hS hl
  rw [vl_x] at h
  exact lv_land hx hb hd h
theorem kw_lorX {a y : Int} (hC : Cx E g cc own Ts nL rm) (hd : decode cc pc = .ok (.lor, 1)) (hq : pc + 1 = q) (kk : Wk E g nL S q lv (vl (Int64.ofInt a ||| Int64.ofInt y).toInt :: st)) : Wk E g nL S pc lv (vl y :: vl a :: st) := by
  obtain ⟨p, l, e, R, s, m, args, below, meth, c, A, H0, cells, slots, Q⟩ := E
  obtain ⟨hx, hb, hml, hown, hts, hK, hR, hD, hA, hc1, hc2⟩ := hC
  subst hq
  intro H locs ls hP hS hl
  have h := kk H locs ls hP hS hl
  rw [vl_x] at h
  exact lv_lor hx hb hd h
abbrev lvL (g : wG) (b : Nat) : List (Nat × Value) := [(3, vi 0), (2, vr g 30 0), (1, vr g 0 0), (0, .ref b)]
theorem kw_arg {n : Int} {k : Nat} (hC : Cx E g cc own Ts nL rm) (hX : Lx E b L xs) (hLs : L < 2147483648) (h0 : n = (k : Int)) (h1 : k < L) (d0 : decode cc pc = .ok (.aload_n 0, 1)) (d1 : decode cc (pc + 1) = .ok (.iload_n 3, 1)) (d2 : decode cc (pc + 2) = .ok (.iconst n, 1)) (d3 : decode cc (pc + 3) = .ok (.iadd, 1)) (d4 : decode cc (pc + 4) = .ok (.iaload, 1)) (kk : Wk E g nL S (pc + 5) (lvL g b) (vi (sv xs k) :: st)) : Wk E g nL S pc (lvL g b) st := by
  refine kw_rload_n hC d0 rfl 3 rfl ?_
  refine kw_iload_n hC d1 rfl 0 rfl ?_
  refine kw_iconst hC d2 rfl ?_
  refine kw_iadd hC d3 rfl ?_
  refine kw_sld hC d4 rfl hX (by omega) (by omega) hLs ?_
  rw [show ((0 : Int) + n).toNat = k by omega]
  exact kk
end LW
theorem wc_wk {E : wE} {g : wG} {nL : Nat} {pc : Nat} {lv : List (Nat × Value)} {st : List Value} {h N cells slots : Nat} (hg : g.2.2 = adX h) (hN : h + 128 < N) (hE : E.2.2.2.2.2.2.2.2.2.2.2.2.1 = cells ∧ E.2.2.2.2.2.2.2.2.2.2.2.2.2.1 = slots) (kk : Wk E g nL S0_ pc lv st) : Wc E g nL (czf g) N cells slots pc lv st := by
  obtain ⟨p, l, e, R, s, m, args, below, meth, c, A, H0, cells9, slots9, Q⟩ := E
  obtain ⟨rfl, rfl⟩ := hE
  intro H locs ls hQ hS hl
  refine kk H locs ls (fun k i h0 h1 => hQ.2 k i h0 h1 ?_) hS hl
  have hk : k < 73 := by
    rcases Nat.lt_or_ge k 73 with q | q
    · exact q
    · rw [cn_zz k q] at h1; omega
  have hi := cn_big k hk
  have e1 := of_iv k hk i.toNat (by omega) (by omega)
  rw [Int.toNat_of_nonneg h0] at e1
  have e2 : of_ k i < iv_.length := (List.getElem?_eq_some_iff.mp e1).1
  have e3 : iv_.length = 129 := by decide +kernel
  rw [hg]
  show h + of_ k i < N
  omega
theorem nC_S0 : nC S0_ := ⟨rfl, fun i _ _ => rfl, fun i _ _ => ⟨rfl, rfl⟩, ⟨rfl, rfl⟩, ⟨rfl, rfl, fun j _ _ => rfl⟩, ⟨rfl, rfl, rfl⟩⟩
theorem nM_S0 : nM S0_ := ⟨rfl, rfl, fun j _ _ => rfl, fun j h0 h1 => by
  show (if (69 : Nat) = 18 ∧ j = 0 then (1 : Int) else if (69 : Nat) = 69 ∧ 0 ≤ j ∧ j < 4 then -1 else 0) = -1
  rw [if_neg (fun q => absurd q.1 (by decide)), if_pos ⟨rfl, h0, h1⟩]⟩
theorem cz_69 (g : wG) : czf g 69 0 = ka_i g 4 (fun j => if 0 ≤ j ∧ j < ((4 : Nat) : Int) then -1 else 0) := by
  show ka_i g 4 (S0_ 69 0) = _
  congr 1
  funext j
  show (if (69 : Nat) = 18 ∧ j = 0 then (1 : Int) else if (69 : Nat) = 69 ∧ 0 ≤ j ∧ j < 4 then -1 else 0) = _
  rw [if_neg (fun q => absurd q.1 (by decide))]
  by_cases h : 0 ≤ j ∧ j < 4
  · rw [if_pos ⟨rfl, h⟩]
    exact (if_pos h).symm
  · rw [if_neg (fun q => h q.2)]
    exact (if_neg h).symm

