/-! whole numbers within an int, a long -/
theorem kw_ti {a : Int} (h : -2147483648 ≤ a ∧ a ≤ 2147483647) : (Int32.ofInt a).toInt = a := Int32.toInt_ofInt_of_le (by have := h.1; omega) (by have := h.2; omega)
theorem kw_tl {a : Int} (h : -9223372036854775808 ≤ a ∧ a ≤ 9223372036854775807) : (Int64.ofInt a).toInt = a := Int64.toInt_ofInt_of_le (by have := h.1; omega) (by have := h.2; omega)
theorem kw_z : (-2147483648 : Int) ≤ 0 ∧ (0 : Int) ≤ 2147483647 := by decide
theorem kw_eqI {a b : Int} (ha : -2147483648 ≤ a ∧ a ≤ 2147483647) (hb : -2147483648 ≤ b ∧ b ≤ 2147483647) : Int32.ofInt a = Int32.ofInt b ↔ a = b := by rw [← Int32.toInt_inj, kw_ti ha, kw_ti hb]
theorem kw_neI {a b : Int} (ha : -2147483648 ≤ a ∧ a ≤ 2147483647) (hb : -2147483648 ≤ b ∧ b ≤ 2147483647) : ¬ Int32.ofInt a = Int32.ofInt b ↔ a ≠ b := not_congr (kw_eqI ha hb)
theorem kw_ltI {a b : Int} (ha : -2147483648 ≤ a ∧ a ≤ 2147483647) (hb : -2147483648 ≤ b ∧ b ≤ 2147483647) : Int32.ofInt a < Int32.ofInt b ↔ a < b := by rw [Int32.lt_iff_toInt_lt, kw_ti ha, kw_ti hb]
theorem kw_leI {a b : Int} (ha : -2147483648 ≤ a ∧ a ≤ 2147483647) (hb : -2147483648 ≤ b ∧ b ≤ 2147483647) : Int32.ofInt a ≤ Int32.ofInt b ↔ a ≤ b := by rw [Int32.le_iff_toInt_le, kw_ti ha, kw_ti hb]
theorem kw_b {n : Int} (h : -128 ≤ n ∧ n ≤ 127) : (Int8.ofInt n).toInt32 = Int32.ofInt n := by
  apply Int32.toInt_inj.mp
  rw [Int8.toInt_toInt32, Int8.toInt_ofInt_of_le (by have := h.1; omega) (by have := h.2; omega), kw_ti (by have := h.1; have := h.2; omega)]
theorem kw_h {n : Int} (h : -32768 ≤ n ∧ n ≤ 32767) : (Int16.ofInt n).toInt32 = Int32.ofInt n := by
  apply Int32.toInt_inj.mp
  rw [Int16.toInt_toInt32, Int16.toInt_ofInt_of_le (by have := h.1; omega) (by have := h.2; omega), kw_ti (by have := h.1; have := h.2; omega)]
noncomputable def bz (P : Prop) : Int := @ite _ P (Classical.propDecidable P) 1 0
theorem bz_t {P : Prop} (h : P) : bz P = 1 := if_pos h
theorem bz_f {P : Prop} (h : ¬ P) : bz P = 0 := if_neg h
theorem bz_r (P : Prop) : bz P = 0 ∨ bz P = 1 := (Classical.em P).elim (fun h => Or.inr (bz_t h)) (fun h => Or.inl (bz_f h))
theorem bz_in (P : Prop) : 0 ≤ bz P ∧ bz P ≤ 1 := by rcases bz_r P with h | h <;> omega
theorem bz_c {P Q : Prop} (h : P ↔ Q) : bz P = bz Q := by rw [propext h]
def cz (a b : Int) : Int := if b < a then 1 else if a = b then 0 else -1
theorem cz_in (a b : Int) : -1 ≤ cz a b ∧ cz a b ≤ 1 := by unfold cz; split; omega; split <;> omega
theorem cz_r (a b : Int) : -2147483648 ≤ cz a b ∧ cz a b ≤ 2147483647 := by have := cz_in a b; omega
theorem cz_lt (a b : Int) : cz a b < 0 ↔ a < b := by unfold cz; split; omega; split <;> omega
theorem cz_le (a b : Int) : cz a b ≤ 0 ↔ a ≤ b := by unfold cz; split; omega; split <;> omega
theorem cz_eq (a b : Int) : cz a b = 0 ↔ a = b := by unfold cz; split; omega; split <;> omega
theorem cz_ge (a b : Int) : 0 ≤ cz a b ↔ b ≤ a := by unfold cz; split; omega; split <;> omega
theorem cz_gt (a b : Int) : 0 < cz a b ↔ b < a := by unfold cz; split; omega; split <;> omega
theorem cz_ne (a b : Int) : cz a b ≠ 0 ↔ a ≠ b := not_congr (cz_eq a b)
theorem kw_cz {a b : Int} (ha : -9223372036854775808 ≤ a ∧ a ≤ 9223372036854775807) (hb : -9223372036854775808 ≤ b ∧ b ≤ 9223372036854775807) : lg_cmp (Int64.ofInt a) (Int64.ofInt b) = Int32.ofInt (cz a b) := by
  unfold lg_cmp cz
  have e1 : (Int64.ofInt a > Int64.ofInt b) ↔ b < a := by
    rw [gt_iff_lt, Int64.lt_iff_toInt_lt, kw_tl ha, kw_tl hb]
  have e2 : (Int64.ofInt a = Int64.ofInt b) ↔ a = b := by
    rw [← Int64.toInt_inj, kw_tl ha, kw_tl hb]
  by_cases h1 : b < a
  · rw [if_pos (e1.mpr h1), if_pos h1]; rfl
  · rw [if_neg (fun q => h1 (e1.mp q)), if_neg h1]
    by_cases h2 : a = b
    · rw [if_pos (e2.mpr h2), if_pos h2]; rfl
    · rw [if_neg (fun q => h2 (e2.mp q)), if_neg h2]; rfl
theorem kw_cl {z : Int} (h0 : 0 ≤ z) (h1 : z < 2147483648) : (Int32.ofInt z).toNatClampNeg = z.toNat := Int32.toNatClampNeg_ofInt_of_le (by omega) (by omega)
theorem kw_vpin {z : Int} {n : Nat} (h0 : 0 ≤ z) (h1 : z < n) (hn : n < 2147483648) : vp_in (Int32.ofInt z) n := by
  unfold vp_in
  rw [kw_cl h0 (by omega), Int32.lt_iff_toInt_lt, kw_ti (by omega), Int32.toInt_zero]
  omega
/-! WORLDS BY NAMES: a cell is named by its kind and its number; what is in it is a row of whole numbers. S k i j: place j of cell i of kind k. -/
abbrev wSt : Type := Nat → Int → Int → Int
abbrev wG : Type := va_G × (Nat → ClassId) × (Nat → Int → Nat)
def vi (z : Int) : Value := .int (Int32.ofInt z)
def vl (z : Int) : Value := .long (Int64.ofInt z)
def vr (g : wG) (k : Nat) (i : Int) : Value := .ref (g.2.2 k i)
def ka_i (g : wG) (n : Nat) (r : Int → Int) : va_E := .inl (g.2.1 0, n, .inl (fun j => Int32.ofInt (r (j : Int))))
def ka_l (g : wG) (n : Nat) (r : Int → Int) : va_E := .inl (g.2.1 1, n, .inr (.inl (fun j => Int64.ofInt (r (j : Int)))))
def ka_r (g : wG) (t n k : Nat) : va_E := .inl (g.2.1 t, n, .inr (.inr (.inr (.inr (fun j => some (g.2.2 k (j : Int)))))))
def cx (g : wG) (k : Nat) (i : Int) (r : Int → Int) : va_E := match k with
  | 0 => .inr (7, [vr g 3 16, vr g 8 0, vr g 20 0, vr g 21 0, vr g 10 0, vr g 12 0, vr g 16 0, vr g 1 8, vr g 1 9, vr g 1 10, vr g 22 0, vr g 23 0])
  | 1 => .inr (6, [vr g 2 i, vi (r 1)])
  | 2 => ka_i g 100 r
  | 3 => .inr (3, [vr g 4 i, vr g 5 i, vi (r 2)])
  | 4 => ka_i g 6 r
  | 5 => ka_i g 36 r
  | 6 => .inr (2, [vr g 7 i, vi (r 1), vi (r 2), vi (r 3)])
  | 7 => ka_l g 40 r
  | 8 => .inr (1, [vr g 9 0, vi (r 1), vi (r 2)])
  | 9 => ka_r g 4 16 3
  | 10 => .inr (5, [vr g 3 16, vr g 11 0, vr g 1 11])
  | 11 => ka_l g 6 r
  | 12 => .inr (4, [vr g 3 16, vr g 13 0, vr g 14 0, vr g 15 0, vi (r 4), vi (r 5)])
  | 13 => ka_l g 400 r
  | 14 => ka_l g 400 r
  | 15 => ka_i g 42 r
  | 16 => .inr (0, [vr g 3 16, vr g 17 0, vr g 18 0, vr g 19 0, vi (r 4), vi (r 5)])
  | 17 => ka_i g 3600 r
  | 18 => ka_i g 13 r
  | 19 => ka_l g 6 r
  | 20 => ka_r g 2 8 1
  | 21 => ka_r g 3 4 6
  | 22 => ka_l g 6 r
  | 23 => ka_r g 5 6 24
  | 24 => ka_l g 6 r
  | 30 => .inr (8, [vi (r 0), vr g 41 0, vr g 42 0, vr g 43 0, vi (r 4), vr g 45 0, vr g 46 0, vr g 47 0, vi (r 8), vr g 49 0, vi (r 10), vr g 51 0, vi (r 12), vr g 53 0, vi (r 14), vr g 55 0, vi (r 16), vr g 57 0, vr g 58 0, vr g 59 0, vi (r 20), vi (r 21), vr g 62 0, vi (r 23), vr g 64 0, vr g 65 0, vi (r 26), vr g 67 0, vr g 68 0, vr g 69 0, vr g 70 0, vr g 71 0, vr g 72 0])
  | 41 => ka_i g 6 r
  | 42 => ka_i g 36 r
  | 43 => ka_i g 688 r
  | 45 => ka_i g 800 r
  | 46 => ka_i g 8 r
  | 47 => ka_i g 200 r
  | 49 => ka_i g 200 r
  | 51 => ka_i g 200 r
  | 53 => ka_i g 200 r
  | 55 => ka_l g 6 r
  | 57 => ka_l g 36 r
  | 58 => ka_l g 2520 r
  | 59 => ka_i g 420 r
  | 62 => ka_i g 12000 r
  | 64 => ka_i g 6 r
  | 65 => ka_i g 3612 r
  | 67 => ka_i g 3612 r
  | 68 => ka_i g 200 r
  | 69 => ka_i g 4 r
  | 70 => ka_i g 4 r
  | 71 => ka_l g 160 r
  | 72 => ka_l g 40 r
  | _ => .inr (0, [])
def cn (k : Nat) : Int := match k with
  | 0 => 1
  | 1 => 12
  | 2 => 12
  | 3 => 17
  | 4 => 17
  | 5 => 17
  | 6 => 4
  | 7 => 4
  | 8 => 1
  | 9 => 1
  | 10 => 1
  | 11 => 1
  | 12 => 1
  | 13 => 1
  | 14 => 1
  | 15 => 1
  | 16 => 1
  | 17 => 1
  | 18 => 1
  | 19 => 1
  | 20 => 1
  | 21 => 1
  | 22 => 1
  | 23 => 1
  | 24 => 6
  | 30 => 1
  | 41 => 1
  | 42 => 1
  | 43 => 1
  | 45 => 1
  | 46 => 1
  | 47 => 1
  | 49 => 1
  | 51 => 1
  | 53 => 1
  | 55 => 1
  | 57 => 1
  | 58 => 1
  | 59 => 1
  | 62 => 1
  | 64 => 1
  | 65 => 1
  | 67 => 1
  | 68 => 1
  | 69 => 1
  | 70 => 1
  | 71 => 1
  | 72 => 1
  | _ => 0
theorem cx_0 (g : wG) (i : Int) (r : Int → Int) : cx g 0 i r = .inr (7, [vr g 3 16, vr g 8 0, vr g 20 0, vr g 21 0, vr g 10 0, vr g 12 0, vr g 16 0, vr g 1 8, vr g 1 9, vr g 1 10, vr g 22 0, vr g 23 0]) := rfl
theorem cn_0 : cn 0 = 1 := rfl
theorem cx_1 (g : wG) (i : Int) (r : Int → Int) : cx g 1 i r = .inr (6, [vr g 2 i, vi (r 1)]) := rfl
theorem cn_1 : cn 1 = 12 := rfl
theorem cx_2 (g : wG) (i : Int) (r : Int → Int) : cx g 2 i r = ka_i g 100 r := rfl
theorem cn_2 : cn 2 = 12 := rfl
theorem cx_3 (g : wG) (i : Int) (r : Int → Int) : cx g 3 i r = .inr (3, [vr g 4 i, vr g 5 i, vi (r 2)]) := rfl
theorem cn_3 : cn 3 = 17 := rfl
theorem cx_4 (g : wG) (i : Int) (r : Int → Int) : cx g 4 i r = ka_i g 6 r := rfl
theorem cn_4 : cn 4 = 17 := rfl
theorem cx_5 (g : wG) (i : Int) (r : Int → Int) : cx g 5 i r = ka_i g 36 r := rfl
theorem cn_5 : cn 5 = 17 := rfl
theorem cx_6 (g : wG) (i : Int) (r : Int → Int) : cx g 6 i r = .inr (2, [vr g 7 i, vi (r 1), vi (r 2), vi (r 3)]) := rfl
theorem cn_6 : cn 6 = 4 := rfl
theorem cx_7 (g : wG) (i : Int) (r : Int → Int) : cx g 7 i r = ka_l g 40 r := rfl
theorem cn_7 : cn 7 = 4 := rfl
theorem cx_8 (g : wG) (i : Int) (r : Int → Int) : cx g 8 i r = .inr (1, [vr g 9 0, vi (r 1), vi (r 2)]) := rfl
theorem cn_8 : cn 8 = 1 := rfl
theorem cx_9 (g : wG) (i : Int) (r : Int → Int) : cx g 9 i r = ka_r g 4 16 3 := rfl
theorem cn_9 : cn 9 = 1 := rfl
theorem cx_10 (g : wG) (i : Int) (r : Int → Int) : cx g 10 i r = .inr (5, [vr g 3 16, vr g 11 0, vr g 1 11]) := rfl
theorem cn_10 : cn 10 = 1 := rfl
theorem cx_11 (g : wG) (i : Int) (r : Int → Int) : cx g 11 i r = ka_l g 6 r := rfl
theorem cn_11 : cn 11 = 1 := rfl
theorem cx_12 (g : wG) (i : Int) (r : Int → Int) : cx g 12 i r = .inr (4, [vr g 3 16, vr g 13 0, vr g 14 0, vr g 15 0, vi (r 4), vi (r 5)]) := rfl
theorem cn_12 : cn 12 = 1 := rfl
theorem cx_13 (g : wG) (i : Int) (r : Int → Int) : cx g 13 i r = ka_l g 400 r := rfl
theorem cn_13 : cn 13 = 1 := rfl
theorem cx_14 (g : wG) (i : Int) (r : Int → Int) : cx g 14 i r = ka_l g 400 r := rfl
theorem cn_14 : cn 14 = 1 := rfl
theorem cx_15 (g : wG) (i : Int) (r : Int → Int) : cx g 15 i r = ka_i g 42 r := rfl
theorem cn_15 : cn 15 = 1 := rfl
theorem cx_16 (g : wG) (i : Int) (r : Int → Int) : cx g 16 i r = .inr (0, [vr g 3 16, vr g 17 0, vr g 18 0, vr g 19 0, vi (r 4), vi (r 5)]) := rfl
theorem cn_16 : cn 16 = 1 := rfl
theorem cx_17 (g : wG) (i : Int) (r : Int → Int) : cx g 17 i r = ka_i g 3600 r := rfl
theorem cn_17 : cn 17 = 1 := rfl
theorem cx_18 (g : wG) (i : Int) (r : Int → Int) : cx g 18 i r = ka_i g 13 r := rfl
theorem cn_18 : cn 18 = 1 := rfl
theorem cx_19 (g : wG) (i : Int) (r : Int → Int) : cx g 19 i r = ka_l g 6 r := rfl
theorem cn_19 : cn 19 = 1 := rfl
theorem cx_20 (g : wG) (i : Int) (r : Int → Int) : cx g 20 i r = ka_r g 2 8 1 := rfl
theorem cn_20 : cn 20 = 1 := rfl
theorem cx_21 (g : wG) (i : Int) (r : Int → Int) : cx g 21 i r = ka_r g 3 4 6 := rfl
theorem cn_21 : cn 21 = 1 := rfl
theorem cx_22 (g : wG) (i : Int) (r : Int → Int) : cx g 22 i r = ka_l g 6 r := rfl
theorem cn_22 : cn 22 = 1 := rfl
theorem cx_23 (g : wG) (i : Int) (r : Int → Int) : cx g 23 i r = ka_r g 5 6 24 := rfl
theorem cn_23 : cn 23 = 1 := rfl
theorem cx_24 (g : wG) (i : Int) (r : Int → Int) : cx g 24 i r = ka_l g 6 r := rfl
theorem cn_24 : cn 24 = 6 := rfl
theorem cx_30 (g : wG) (i : Int) (r : Int → Int) : cx g 30 i r = .inr (8, [vi (r 0), vr g 41 0, vr g 42 0, vr g 43 0, vi (r 4), vr g 45 0, vr g 46 0, vr g 47 0, vi (r 8), vr g 49 0, vi (r 10), vr g 51 0, vi (r 12), vr g 53 0, vi (r 14), vr g 55 0, vi (r 16), vr g 57 0, vr g 58 0, vr g 59 0, vi (r 20), vi (r 21), vr g 62 0, vi (r 23), vr g 64 0, vr g 65 0, vi (r 26), vr g 67 0, vr g 68 0, vr g 69 0, vr g 70 0, vr g 71 0, vr g 72 0]) := rfl
theorem cn_30 : cn 30 = 1 := rfl
theorem cx_41 (g : wG) (i : Int) (r : Int → Int) : cx g 41 i r = ka_i g 6 r := rfl
theorem cn_41 : cn 41 = 1 := rfl
theorem cx_42 (g : wG) (i : Int) (r : Int → Int) : cx g 42 i r = ka_i g 36 r := rfl
theorem cn_42 : cn 42 = 1 := rfl
theorem cx_43 (g : wG) (i : Int) (r : Int → Int) : cx g 43 i r = ka_i g 688 r := rfl
theorem cn_43 : cn 43 = 1 := rfl
theorem cx_45 (g : wG) (i : Int) (r : Int → Int) : cx g 45 i r = ka_i g 800 r := rfl
theorem cn_45 : cn 45 = 1 := rfl
theorem cx_46 (g : wG) (i : Int) (r : Int → Int) : cx g 46 i r = ka_i g 8 r := rfl
theorem cn_46 : cn 46 = 1 := rfl
theorem cx_47 (g : wG) (i : Int) (r : Int → Int) : cx g 47 i r = ka_i g 200 r := rfl
theorem cn_47 : cn 47 = 1 := rfl
theorem cx_49 (g : wG) (i : Int) (r : Int → Int) : cx g 49 i r = ka_i g 200 r := rfl
theorem cn_49 : cn 49 = 1 := rfl
theorem cx_51 (g : wG) (i : Int) (r : Int → Int) : cx g 51 i r = ka_i g 200 r := rfl
theorem cn_51 : cn 51 = 1 := rfl
theorem cx_53 (g : wG) (i : Int) (r : Int → Int) : cx g 53 i r = ka_i g 200 r := rfl
theorem cn_53 : cn 53 = 1 := rfl
theorem cx_55 (g : wG) (i : Int) (r : Int → Int) : cx g 55 i r = ka_l g 6 r := rfl
theorem cn_55 : cn 55 = 1 := rfl
theorem cx_57 (g : wG) (i : Int) (r : Int → Int) : cx g 57 i r = ka_l g 36 r := rfl
theorem cn_57 : cn 57 = 1 := rfl
theorem cx_58 (g : wG) (i : Int) (r : Int → Int) : cx g 58 i r = ka_l g 2520 r := rfl
theorem cn_58 : cn 58 = 1 := rfl
theorem cx_59 (g : wG) (i : Int) (r : Int → Int) : cx g 59 i r = ka_i g 420 r := rfl
theorem cn_59 : cn 59 = 1 := rfl
theorem cx_62 (g : wG) (i : Int) (r : Int → Int) : cx g 62 i r = ka_i g 12000 r := rfl
theorem cn_62 : cn 62 = 1 := rfl
theorem cx_64 (g : wG) (i : Int) (r : Int → Int) : cx g 64 i r = ka_i g 6 r := rfl
theorem cn_64 : cn 64 = 1 := rfl
theorem cx_65 (g : wG) (i : Int) (r : Int → Int) : cx g 65 i r = ka_i g 3612 r := rfl
theorem cn_65 : cn 65 = 1 := rfl
theorem cx_67 (g : wG) (i : Int) (r : Int → Int) : cx g 67 i r = ka_i g 3612 r := rfl
theorem cn_67 : cn 67 = 1 := rfl
theorem cx_68 (g : wG) (i : Int) (r : Int → Int) : cx g 68 i r = ka_i g 200 r := rfl
theorem cn_68 : cn 68 = 1 := rfl
theorem cx_69 (g : wG) (i : Int) (r : Int → Int) : cx g 69 i r = ka_i g 4 r := rfl
theorem cn_69 : cn 69 = 1 := rfl
theorem cx_70 (g : wG) (i : Int) (r : Int → Int) : cx g 70 i r = ka_i g 4 r := rfl
theorem cn_70 : cn 70 = 1 := rfl
theorem cx_71 (g : wG) (i : Int) (r : Int → Int) : cx g 71 i r = ka_l g 160 r := rfl
theorem cn_71 : cn 71 = 1 := rfl
theorem cx_72 (g : wG) (i : Int) (r : Int → Int) : cx g 72 i r = ka_l g 40 r := rfl
theorem cn_72 : cn 72 = 1 := rfl
def tysX (g : wG) : List (ClassId × FieldType) := [(g.2.1 0, .int), (g.2.1 1, .long), (g.2.1 2, .object "MirrorBench$Word"), (g.2.1 3, .object "MirrorBench$Leaf"), (g.2.1 4, .object "MirrorBench$Mirrors"), (g.2.1 5, .array .long)]
def nestX : List Cond := [Cond.methodLinkNest RX5 26 yX7_setOwn RX7, Cond.methodLinkNest RX5 38 yX7_isOwn RX7, Cond.methodLinkNest RX0 57 yX7_setOwn RX7, Cond.methodLinkNest RX0 61 yX7_isOwn RX7, Cond.methodLinkNest RX7 11 yX3_init RX7, Cond.methodLinkNest RX1 17 yX3_init RX7, Cond.methodLinkNest RX5 17 yX6_init RX7, Cond.methodLinkNest RX7 58 yX6_init RX7, Cond.methodLinkNest RX7 78 yX2_init RX7]
def wP (g : wG) (S : wSt) (H : Heap) : Prop := ∀ (k : Nat) (i : Int), 0 ≤ i → i < cn k → va_at g.1 vwCl (g.2.2 k i, cx g k i (S k i)) H
def wD (g : wG) : Prop := ∀ (k : Nat) (i : Int) (k' : Nat) (i' : Int), 0 ≤ i → i < cn k → 0 ≤ i' → i' < cn k' → g.2.2 k i = g.2.2 k' i' → k = k' ∧ i = i'
def wA (g : wG) (q : Nat) : Prop := ∃ (k : Nat) (i : Int), 0 ≤ i ∧ i < cn k ∧ q = g.2.2 k i
def wK (g : wG) (s : State) : Prop := va_K g.1 vwCl (tysX g) s ∧ ∀ w ∈ nestX, va_Nw w s
/-- place j of cell i of kind k becomes z -/
def ups (S : wSt) (k : Nat) (i j z : Int) : wSt := fun k' i' j' => if k' = k ∧ i' = i ∧ j' = j then z else S k' i' j'
theorem ups_s (S : wSt) (k : Nat) (i j z : Int) : ups S k i j z k i j = z := if_pos ⟨rfl, rfl, rfl⟩
theorem ups_n (S : wSt) {k k' : Nat} {i i' j j' : Int} (z : Int) (h : ¬ (k' = k ∧ i' = i ∧ j' = j)) : ups S k i j z k' i' j' = S k' i' j' := if_neg h
theorem ups_k (S : wSt) {k k' : Nat} (i j z : Int) (h : k' ≠ k) : ups S k i j z k' = S k' := funext fun i' => funext fun j' => if_neg (fun q => h q.1)
theorem ups_ki (S : wSt) {k k' : Nat} {i i' : Int} (j z : Int) (h : ¬ (k' = k ∧ i' = i)) : ups S k i j z k' i' = S k' i' := funext fun j' => if_neg (fun q => h ⟨q.1, q.2.1⟩)
theorem wP.set {g : wG} {S : wSt} {H H1 : Heap} {k : Nat} {i j z : Int} (h : wP g S H) (hD : wD g) (h0 : 0 ≤ i) (h1 : i < cn k) (he : va_at g.1 vwCl (g.2.2 k i, cx g k i (ups S k i j z k i)) H1) (oq : ∀ q : Nat, q ≠ g.2.2 k i → H1[q]? = H[q]?) : wP g (ups S k i j z) H1 := by
  intro k' i' h0' h1'
  by_cases e : k' = k ∧ i' = i
  · obtain ⟨rfl, rfl⟩ := e
    exact he
  · rw [ups_ki S j z e]
    exact (h k' i' h0' h1').kept (oq _ (fun q => e (hD k' i' k i h0' h1' h0 h1 q)))
abbrev wE : Type := Program × Launch × Env × Room × State × MethodId × Array Value × List Frame × Method × Code × (Nat → Prop) × Heap × Nat × Nat × (State → Prop)
/-- the machine at pc, with these locals and this stack, in the world S, comes to its end -/
def Wk (E : wE) (g : wG) (nL : Nat) (S : wSt) (pc : Nat) (lv : List (Nat × Value)) (st : List Value) : Prop := match E with
  | (p, l, e, R, s, m, args, below, meth, c, A, H0, cells, slots, Q) => ∀ (H : Heap) (locs : List Loc) (ls : Array Slot), wP g S H → va_S A H0 H locs → lv_has ls nL lv → W p l e R s m args below meth c H locs cells slots Q (F0 m pc ls st)
def Cx (E : wE) (g : wG) (cc : ByteArray) (own : String) (Ts : List Cond) (nL : Nat) (rm : Room) : Prop := match E with
  | (p, l, e, R, s, m, args, below, meth, c, A, H0, cells, slots, Q) => p.tables.exec = Jvm.exec ∧ c.code = cc ∧ c.maxLocals = nL ∧ s.vm.findClass own = some m.cls ∧ (∀ w ∈ Ts, w.before args s = true) ∧ wK g s ∧ R = rm ∧ wD g ∧ (∀ q, wA g q → A q) ∧ cells ≤ rm.cells ∧ slots ≤ rm.slots
section KW
variable {E : wE} {g : wG} {cc : ByteArray} {own : String} {Ts : List Cond} {nL : Nat} {rm : Room} {S : wSt} {pc q : Nat} {lv : List (Nat × Value)} {st : List Value}
theorem kw_iconst {n : Int} (hC : Cx E g cc own Ts nL rm) (hd : decode cc pc = .ok (.iconst n, 1)) (hq : pc + 1 = q)  (kk : Wk E g nL S q lv (vi n :: st)) : Wk E g nL S pc lv st := by
  obtain ⟨p, l, e, R, s, m, args, below, meth, c, A, H0, cells, slots, Q⟩ := E
  obtain ⟨hx, hb, hml, hown, hts, hK, hR, hD, hA, hc1, hc2⟩ := hC
  subst hq
  intro H locs ls hP hS hl
  exact lv_iconst hx hb hd rfl (kk H locs ls hP hS hl)
theorem kw_bipush {n : Int} (hC : Cx E g cc own Ts nL rm) (hd : decode cc pc = .ok (.bipush n, 2)) (hq : pc + 2 = q) (hn : -128 ≤ n ∧ n ≤ 127) (kk : Wk E g nL S q lv (vi n :: st)) : Wk E g nL S pc lv st := by
  obtain ⟨p, l, e, R, s, m, args, below, meth, c, A, H0, cells, slots, Q⟩ := E
  obtain ⟨hx, hb, hml, hown, hts, hK, hR, hD, hA, hc1, hc2⟩ := hC
  subst hq
  intro H locs ls hP hS hl
  exact lv_bipush hx hb hd (kw_b hn) (kk H locs ls hP hS hl)
theorem kw_sipush {n : Int} (hC : Cx E g cc own Ts nL rm) (hd : decode cc pc = .ok (.sipush n, 3)) (hq : pc + 3 = q) (hn : -32768 ≤ n ∧ n ≤ 32767) (kk : Wk E g nL S q lv (vi n :: st)) : Wk E g nL S pc lv st := by
  obtain ⟨p, l, e, R, s, m, args, below, meth, c, A, H0, cells, slots, Q⟩ := E
  obtain ⟨hx, hb, hml, hown, hts, hK, hR, hD, hA, hc1, hc2⟩ := hC
  subst hq
  intro H locs ls hP hS hl
  exact lv_sipush hx hb hd (kw_h hn) (kk H locs ls hP hS hl)
theorem kw_lconst {n : Fin 2} {z : Int} (hC : Cx E g cc own Ts nL rm) (hd : decode cc pc = .ok (.lconst n, 1)) (hq : pc + 1 = q) (hz : ((n : Nat) : Int) = z) (kk : Wk E g nL S q lv (vl z :: st)) : Wk E g nL S pc lv st := by
  obtain ⟨p, l, e, R, s, m, args, below, meth, c, A, H0, cells, slots, Q⟩ := E
  obtain ⟨hx, hb, hml, hown, hts, hK, hR, hD, hA, hc1, hc2⟩ := hC
  subst hq
  intro H locs ls hP hS hl
  subst hz
  exact lv_lconst hx hb hd Int64.ofInt_eq_ofNat.symm (kk H locs ls hP hS hl)
theorem kw_ldc2 {index : Nat} {z : Int} (hC : Cx E g cc own Ts nL rm) (hd : decode cc pc = .ok (.ldc2_w index, 3)) (hq : pc + 3 = q) (hw : Cond.constantLong own index (Int64.ofInt z) ∈ Ts) (kk : Wk E g nL S q lv (vl z :: st)) : Wk E g nL S pc lv st := by
  obtain ⟨p, l, e, R, s, m, args, below, meth, c, A, H0, cells, slots, Q⟩ := E
  obtain ⟨hx, hb, hml, hown, hts, hK, hR, hD, hA, hc1, hc2⟩ := hC
  subst hq
  intro H locs ls hP hS hl
  exact lv_ldc2 hx hb hown (hts _ hw) hd (kk H locs ls hP hS hl)
theorem kw_iload_n {k : Fin 4} {z : Int} (hC : Cx E g cc own Ts nL rm) (hd : decode cc pc = .ok (.iload_n k, 1)) (hq : pc + 1 = q) (j : Nat) (hj : lv[j]? = some ((k : Nat), vi z)) (kk : Wk E g nL S q lv (vi z :: st)) : Wk E g nL S pc lv st := by
  obtain ⟨p, l, e, R, s, m, args, below, meth, c, A, H0, cells, slots, Q⟩ := E
  obtain ⟨hx, hb, hml, hown, hts, hK, hR, hD, hA, hc1, hc2⟩ := hC
  subst hq
  intro H locs ls hP hS hl
  exact lv_iload_n hx hb hd rfl (lv_at hl j hj) (kk H locs ls hP hS hl)
theorem kw_iload {k : Nat} {z : Int} (hC : Cx E g cc own Ts nL rm) (hd : decode cc pc = .ok (.iload k, 2)) (hq : pc + 2 = q) (j : Nat) (hj : lv[j]? = some (k, vi z)) (kk : Wk E g nL S q lv (vi z :: st)) : Wk E g nL S pc lv st := by
  obtain ⟨p, l, e, R, s, m, args, below, meth, c, A, H0, cells, slots, Q⟩ := E
  obtain ⟨hx, hb, hml, hown, hts, hK, hR, hD, hA, hc1, hc2⟩ := hC
  subst hq
  intro H locs ls hP hS hl
  exact lv_iload hx hb hd (lv_at hl j hj) (kk H locs ls hP hS hl)
theorem kw_lload_n {k : Fin 4} {z : Int} (hC : Cx E g cc own Ts nL rm) (hd : decode cc pc = .ok (.lload_n k, 1)) (hq : pc + 1 = q) (j : Nat) (hj : lv[j]? = some ((k : Nat), vl z)) (kk : Wk E g nL S q lv (vl z :: st)) : Wk E g nL S pc lv st := by
  obtain ⟨p, l, e, R, s, m, args, below, meth, c, A, H0, cells, slots, Q⟩ := E
  obtain ⟨hx, hb, hml, hown, hts, hK, hR, hD, hA, hc1, hc2⟩ := hC
  subst hq
  intro H locs ls hP hS hl
  exact lv_lload_n hx hb hd rfl (lv_at hl j hj) (kk H locs ls hP hS hl)
theorem kw_lload {k : Nat} {z : Int} (hC : Cx E g cc own Ts nL rm) (hd : decode cc pc = .ok (.lload k, 2)) (hq : pc + 2 = q) (j : Nat) (hj : lv[j]? = some (k, vl z)) (kk : Wk E g nL S q lv (vl z :: st)) : Wk E g nL S pc lv st := by
  obtain ⟨p, l, e, R, s, m, args, below, meth, c, A, H0, cells, slots, Q⟩ := E
  obtain ⟨hx, hb, hml, hown, hts, hK, hR, hD, hA, hc1, hc2⟩ := hC
  subst hq
  intro H locs ls hP hS hl
  exact lv_lload hx hb hd (lv_at hl j hj) (kk H locs ls hP hS hl)
theorem kw_aload_n {k : Fin 4} {k1 : Nat} {i1 : Int} (hC : Cx E g cc own Ts nL rm) (hd : decode cc pc = .ok (.aload_n k, 1)) (hq : pc + 1 = q) (j : Nat) (hj : lv[j]? = some ((k : Nat), vr g k1 i1)) (kk : Wk E g nL S q lv (vr g k1 i1 :: st)) : Wk E g nL S pc lv st := by
  obtain ⟨p, l, e, R, s, m, args, below, meth, c, A, H0, cells, slots, Q⟩ := E
  obtain ⟨hx, hb, hml, hown, hts, hK, hR, hD, hA, hc1, hc2⟩ := hC
  subst hq
  intro H locs ls hP hS hl
  exact lv_aload_n hx hb hd rfl (lv_at hl j hj) (kk H locs ls hP hS hl)
theorem kw_aload {k : Nat} {k1 : Nat} {i1 : Int} (hC : Cx E g cc own Ts nL rm) (hd : decode cc pc = .ok (.aload k, 2)) (hq : pc + 2 = q) (j : Nat) (hj : lv[j]? = some (k, vr g k1 i1)) (kk : Wk E g nL S q lv (vr g k1 i1 :: st)) : Wk E g nL S pc lv st := by
  obtain ⟨p, l, e, R, s, m, args, below, meth, c, A, H0, cells, slots, Q⟩ := E
  obtain ⟨hx, hb, hml, hown, hts, hK, hR, hD, hA, hc1, hc2⟩ := hC
  subst hq
  intro H locs ls hP hS hl
  exact lv_aload hx hb hd (lv_at hl j hj) (kk H locs ls hP hS hl)
theorem kw_istore_n {k : Fin 4} {z : Int} {lv' : List (Nat × Value)} (hC : Cx E g cc own Ts nL rm) (hd : decode cc pc = .ok (.istore_n k, 1)) (hq : pc + 1 = q) (hn : (k : Nat) < nL) (hl' : ((k : Nat), vi z) :: lv.filter (fun q => !(q.1 == (k : Nat)) && !(q.1 + 1 == (k : Nat) && q.2.category == 2)) = lv') (kk : Wk E g nL S q lv' (st)) : Wk E g nL S pc lv (vi z :: st) := by
  obtain ⟨p, l, e, R, s, m, args, below, meth, c, A, H0, cells, slots, Q⟩ := E
  obtain ⟨hx, hb, hml, hown, hts, hK, hR, hD, hA, hc1, hc2⟩ := hC
  subst hq
  intro H locs ls hP hS hl
  exact lv_istore_n hx hb hd rfl hl hn hl' (fun ls2 hl2 => kk H locs ls2 hP hS hl2)
theorem kw_istore {k : Nat} {z : Int} {lv' : List (Nat × Value)} (hC : Cx E g cc own Ts nL rm) (hd : decode cc pc = .ok (.istore k, 2)) (hq : pc + 2 = q) (hn : k < nL) (hl' : (k, vi z) :: lv.filter (fun q => !(q.1 == k) && !(q.1 + 1 == k && q.2.category == 2)) = lv') (kk : Wk E g nL S q lv' (st)) : Wk E g nL S pc lv (vi z :: st) := by
  obtain ⟨p, l, e, R, s, m, args, below, meth, c, A, H0, cells, slots, Q⟩ := E
  obtain ⟨hx, hb, hml, hown, hts, hK, hR, hD, hA, hc1, hc2⟩ := hC
  subst hq
  intro H locs ls hP hS hl
  exact lv_istore hx hb hd hl hn hl' (fun ls2 hl2 => kk H locs ls2 hP hS hl2)
theorem kw_astore_n {k : Fin 4} {k1 : Nat} {i1 : Int} {lv' : List (Nat × Value)} (hC : Cx E g cc own Ts nL rm) (hd : decode cc pc = .ok (.astore_n k, 1)) (hq : pc + 1 = q) (hn : (k : Nat) < nL) (hl' : ((k : Nat), vr g k1 i1) :: lv.filter (fun q => !(q.1 == (k : Nat)) && !(q.1 + 1 == (k : Nat) && q.2.category == 2)) = lv') (kk : Wk E g nL S q lv' (st)) : Wk E g nL S pc lv (vr g k1 i1 :: st) := by
  obtain ⟨p, l, e, R, s, m, args, below, meth, c, A, H0, cells, slots, Q⟩ := E
  obtain ⟨hx, hb, hml, hown, hts, hK, hR, hD, hA, hc1, hc2⟩ := hC
  subst hq
  intro H locs ls hP hS hl
  exact lv_astore_n hx hb hd rfl hl hn hl' (fun ls2 hl2 => kk H locs ls2 hP hS hl2)
theorem kw_astore {k : Nat} {k1 : Nat} {i1 : Int} {lv' : List (Nat × Value)} (hC : Cx E g cc own Ts nL rm) (hd : decode cc pc = .ok (.astore k, 2)) (hq : pc + 2 = q) (hn : k < nL) (hl' : (k, vr g k1 i1) :: lv.filter (fun q => !(q.1 == k) && !(q.1 + 1 == k && q.2.category == 2)) = lv') (kk : Wk E g nL S q lv' (st)) : Wk E g nL S pc lv (vr g k1 i1 :: st) := by
  obtain ⟨p, l, e, R, s, m, args, below, meth, c, A, H0, cells, slots, Q⟩ := E
  obtain ⟨hx, hb, hml, hown, hts, hK, hR, hD, hA, hc1, hc2⟩ := hC
  subst hq
  intro H locs ls hP hS hl
  exact lv_astore hx hb hd hl hn hl' (fun ls2 hl2 => kk H locs ls2 hP hS hl2)
theorem kw_lstore_n {k : Fin 4} {z : Int} {lv' : List (Nat × Value)} (hC : Cx E g cc own Ts nL rm) (hd : decode cc pc = .ok (.lstore_n k, 1)) (hq : pc + 1 = q) (hn : (k : Nat) + 1 < nL) (hl' : ((k : Nat), vl z) :: lv.filter (fun q => !(q.1 == (k : Nat)) && (!(q.1 == (k : Nat) + 1) && !(q.1 + 1 == (k : Nat) && q.2.category == 2))) = lv') (kk : Wk E g nL S q lv' (st)) : Wk E g nL S pc lv (vl z :: st) := by
  obtain ⟨p, l, e, R, s, m, args, below, meth, c, A, H0, cells, slots, Q⟩ := E
  obtain ⟨hx, hb, hml, hown, hts, hK, hR, hD, hA, hc1, hc2⟩ := hC
  subst hq
  intro H locs ls hP hS hl
  exact lv_lstore_n hx hb hd rfl hl hn hl' (fun ls2 hl2 => kk H locs ls2 hP hS hl2)
theorem kw_lstore {k : Nat} {z : Int} {lv' : List (Nat × Value)} (hC : Cx E g cc own Ts nL rm) (hd : decode cc pc = .ok (.lstore k, 2)) (hq : pc + 2 = q) (hn : k + 1 < nL) (hl' : (k, vl z) :: lv.filter (fun q => !(q.1 == k) && (!(q.1 == k + 1) && !(q.1 + 1 == k && q.2.category == 2))) = lv') (kk : Wk E g nL S q lv' (st)) : Wk E g nL S pc lv (vl z :: st) := by
  obtain ⟨p, l, e, R, s, m, args, below, meth, c, A, H0, cells, slots, Q⟩ := E
  obtain ⟨hx, hb, hml, hown, hts, hK, hR, hD, hA, hc1, hc2⟩ := hC
  subst hq
  intro H locs ls hP hS hl
  exact lv_lstore hx hb hd hl hn hl' (fun ls2 hl2 => kk H locs ls2 hP hS hl2)
theorem kw_iinc {k : Nat} {n z : Int} {lv' : List (Nat × Value)} (hC : Cx E g cc own Ts nL rm) (hd : decode cc pc = .ok (.iinc k n, 3)) (hq : pc + 3 = q) (j : Nat) (hj : lv[j]? = some (k, vi z)) (hn : k < nL) (hl' : (k, vi (z + n)) :: lv.filter (fun q => !(q.1 == k) && !(q.1 + 1 == k && q.2.category == 2)) = lv') (kk : Wk E g nL S q lv' (st)) : Wk E g nL S pc lv st := by
  obtain ⟨p, l, e, R, s, m, args, below, meth, c, A, H0, cells, slots, Q⟩ := E
  obtain ⟨hx, hb, hml, hown, hts, hK, hR, hD, hA, hc1, hc2⟩ := hC
  subst hq
  intro H locs ls hP hS hl
  exact lv_iinc hx hb hd hl hj (Int32.ofInt_add z n).symm hn hl' (fun ls2 hl2 => kk H locs ls2 hP hS hl2)
theorem kw_iadd {a b : Int} (hC : Cx E g cc own Ts nL rm) (hd : decode cc pc = .ok (.iadd, 1)) (hq : pc + 1 = q)  (kk : Wk E g nL S q lv (vi (a + b) :: st)) : Wk E g nL S pc lv (vi b :: vi a :: st) := by
  obtain ⟨p, l, e, R, s, m, args, below, meth, c, A, H0, cells, slots, Q⟩ := E
  obtain ⟨hx, hb, hml, hown, hts, hK, hR, hD, hA, hc1, hc2⟩ := hC
  subst hq
  intro H locs ls hP hS hl
  have h := kk H locs ls hP hS hl
  rw [vi, Int32.ofInt_add] at h
  exact lv_iadd hx hb hd h
theorem kw_isub {a b : Int} (hC : Cx E g cc own Ts nL rm) (hd : decode cc pc = .ok (.isub, 1)) (hq : pc + 1 = q)  (kk : Wk E g nL S q lv (vi (a - b) :: st)) : Wk E g nL S pc lv (vi b :: vi a :: st) := by
  obtain ⟨p, l, e, R, s, m, args, below, meth, c, A, H0, cells, slots, Q⟩ := E
  obtain ⟨hx, hb, hml, hown, hts, hK, hR, hD, hA, hc1, hc2⟩ := hC
  subst hq
  intro H locs ls hP hS hl
  have h := kk H locs ls hP hS hl
  rw [vi, Int32.ofInt_sub] at h
  exact lv_isub hx hb hd h
theorem kw_imul {a b : Int} (hC : Cx E g cc own Ts nL rm) (hd : decode cc pc = .ok (.imul, 1)) (hq : pc + 1 = q)  (kk : Wk E g nL S q lv (vi (a * b) :: st)) : Wk E g nL S pc lv (vi b :: vi a :: st) := by
  obtain ⟨p, l, e, R, s, m, args, below, meth, c, A, H0, cells, slots, Q⟩ := E
  obtain ⟨hx, hb, hml, hown, hts, hK, hR, hD, hA, hc1, hc2⟩ := hC
  subst hq
  intro H locs ls hP hS hl
  have h := kk H locs ls hP hS hl
  rw [vi, Int32.ofInt_mul] at h
  exact lv_imul hx hb hd h
theorem kw_ladd {a b : Int} (hC : Cx E g cc own Ts nL rm) (hd : decode cc pc = .ok (.ladd, 1)) (hq : pc + 1 = q)  (kk : Wk E g nL S q lv (vl (a + b) :: st)) : Wk E g nL S pc lv (vl b :: vl a :: st) := by
  obtain ⟨p, l, e, R, s, m, args, below, meth, c, A, H0, cells, slots, Q⟩ := E
  obtain ⟨hx, hb, hml, hown, hts, hK, hR, hD, hA, hc1, hc2⟩ := hC
  subst hq
  intro H locs ls hP hS hl
  have h := kk H locs ls hP hS hl
  rw [vl, Int64.ofInt_add] at h
  exact lv_ladd hx hb hd h
theorem kw_lsub {a b : Int} (hC : Cx E g cc own Ts nL rm) (hd : decode cc pc = .ok (.lsub, 1)) (hq : pc + 1 = q)  (kk : Wk E g nL S q lv (vl (a - b) :: st)) : Wk E g nL S pc lv (vl b :: vl a :: st) := by
  obtain ⟨p, l, e, R, s, m, args, below, meth, c, A, H0, cells, slots, Q⟩ := E
  obtain ⟨hx, hb, hml, hown, hts, hK, hR, hD, hA, hc1, hc2⟩ := hC
  subst hq
  intro H locs ls hP hS hl
  have h := kk H locs ls hP hS hl
  rw [vl, Int64.ofInt_sub] at h
  exact lv_lsub hx hb hd h
theorem kw_lmul {a b : Int} (hC : Cx E g cc own Ts nL rm) (hd : decode cc pc = .ok (.lmul, 1)) (hq : pc + 1 = q)  (kk : Wk E g nL S q lv (vl (a * b) :: st)) : Wk E g nL S pc lv (vl b :: vl a :: st) := by
  obtain ⟨p, l, e, R, s, m, args, below, meth, c, A, H0, cells, slots, Q⟩ := E
  obtain ⟨hx, hb, hml, hown, hts, hK, hR, hD, hA, hc1, hc2⟩ := hC
  subst hq
  intro H locs ls hP hS hl
  have h := kk H locs ls hP hS hl
  rw [vl, Int64.ofInt_mul] at h
  exact lv_lmul hx hb hd h
theorem kw_lneg {a : Int} (hC : Cx E g cc own Ts nL rm) (hd : decode cc pc = .ok (.lneg, 1)) (hq : pc + 1 = q)  (kk : Wk E g nL S q lv (vl (-a) :: st)) : Wk E g nL S pc lv (vl a :: st) := by
  obtain ⟨p, l, e, R, s, m, args, below, meth, c, A, H0, cells, slots, Q⟩ := E
  obtain ⟨hx, hb, hml, hown, hts, hK, hR, hD, hA, hc1, hc2⟩ := hC
  subst hq
  intro H locs ls hP hS hl
  have h := kk H locs ls hP hS hl
  rw [vl, Int64.ofInt_neg] at h
  exact lv_lneg hx hb hd h
theorem kw_i2l {a : Int} (hC : Cx E g cc own Ts nL rm) (hd : decode cc pc = .ok (.i2l, 1)) (hq : pc + 1 = q) (ha : -2147483648 ≤ a ∧ a ≤ 2147483647) (kk : Wk E g nL S q lv (vl a :: st)) : Wk E g nL S pc lv (vi a :: st) := by
  obtain ⟨p, l, e, R, s, m, args, below, meth, c, A, H0, cells, slots, Q⟩ := E
  obtain ⟨hx, hb, hml, hown, hts, hK, hR, hD, hA, hc1, hc2⟩ := hC
  subst hq
  intro H locs ls hP hS hl
  exact lv_i2l hx hb hd (Int32.toInt64_ofInt ha.1 ha.2) (kk H locs ls hP hS hl)
theorem kw_l2i {a : Int} (hC : Cx E g cc own Ts nL rm) (hd : decode cc pc = .ok (.l2i, 1)) (hq : pc + 1 = q)  (kk : Wk E g nL S q lv (vi a :: st)) : Wk E g nL S pc lv (vl a :: st) := by
  obtain ⟨p, l, e, R, s, m, args, below, meth, c, A, H0, cells, slots, Q⟩ := E
  obtain ⟨hx, hb, hml, hown, hts, hK, hR, hD, hA, hc1, hc2⟩ := hC
  subst hq
  intro H locs ls hP hS hl
  exact lv_l2i hx hb hd Int64.toInt32_ofInt (kk H locs ls hP hS hl)
theorem kw_dup {v : Value} (hC : Cx E g cc own Ts nL rm) (hd : decode cc pc = .ok (.dup, 1)) (hq : pc + 1 = q) (hv : v.category = 1) (kk : Wk E g nL S q lv (v :: v :: st)) : Wk E g nL S pc lv (v :: st) := by
  obtain ⟨p, l, e, R, s, m, args, below, meth, c, A, H0, cells, slots, Q⟩ := E
  obtain ⟨hx, hb, hml, hown, hts, hK, hR, hD, hA, hc1, hc2⟩ := hC
  subst hq
  intro H locs ls hP hS hl
  exact lv_dup hx hb hd hv (kk H locs ls hP hS hl)
theorem kw_dup2 {v u : Value} (hC : Cx E g cc own Ts nL rm) (hd : decode cc pc = .ok (.dup2, 1)) (hq : pc + 1 = q) (hv : v.category = 1) (hu : u.category = 1) (kk : Wk E g nL S q lv (v :: u :: v :: u :: st)) : Wk E g nL S pc lv (v :: u :: st) := by
  obtain ⟨p, l, e, R, s, m, args, below, meth, c, A, H0, cells, slots, Q⟩ := E
  obtain ⟨hx, hb, hml, hown, hts, hK, hR, hD, hA, hc1, hc2⟩ := hC
  subst hq
  intro H locs ls hP hS hl
  exact lv_dup2_11 hx hb hd hv hu (kk H locs ls hP hS hl)
theorem kw_pop {v : Value} (hC : Cx E g cc own Ts nL rm) (hd : decode cc pc = .ok (.pop, 1)) (hq : pc + 1 = q) (hv : v.category = 1) (kk : Wk E g nL S q lv (st)) : Wk E g nL S pc lv (v :: st) := by
  obtain ⟨p, l, e, R, s, m, args, below, meth, c, A, H0, cells, slots, Q⟩ := E
  obtain ⟨hx, hb, hml, hown, hts, hK, hR, hD, hA, hc1, hc2⟩ := hC
  subst hq
  intro H locs ls hP hS hl
  exact lv_pop hx hb hd hv (kk H locs ls hP hS hl)
theorem kw_icmp_eq {a b off : Int} {tgt : Nat} (hC : Cx E g cc own Ts nL rm) (hd : decode cc pc = .ok (.if_icmp .eq off, 3)) (hq : pc + 3 = q) (ht : (pc : Int) + off = (tgt : Int)) (ha : -2147483648 ≤ a ∧ a ≤ 2147483647) (hb9 : -2147483648 ≤ b ∧ b ≤ 2147483647) (kk : (a = b → Wk E g nL S tgt lv st) ∧ (¬ (a = b) → Wk E g nL S q lv st)) : Wk E g nL S pc lv (vi b :: vi a :: st) := by
  obtain ⟨p, l, e, R, s, m, args, below, meth, c, A, H0, cells, slots, Q⟩ := E
  obtain ⟨hx, hb, hml, hown, hts, hK, hR, hD, hA, hc1, hc2⟩ := hC
  subst hq
  intro H locs ls hP hS hl
  exact lv_icmp_eq hx hb hd ht (fun h => kk.1 ((kw_eqI ha hb9).mp h) H locs ls hP hS hl) (fun h => kk.2 (fun h2 => h ((kw_eqI ha hb9).mpr h2)) H locs ls hP hS hl)
theorem kw_if_eq {a off : Int} {tgt : Nat} (hC : Cx E g cc own Ts nL rm) (hd : decode cc pc = .ok (.ifCond .eq off, 3)) (hq : pc + 3 = q) (ht : (pc : Int) + off = (tgt : Int)) (ha : -2147483648 ≤ a ∧ a ≤ 2147483647) (kk : (a = 0 → Wk E g nL S tgt lv st) ∧ (¬ (a = 0) → Wk E g nL S q lv st)) : Wk E g nL S pc lv (vi a :: st) := by
  obtain ⟨p, l, e, R, s, m, args, below, meth, c, A, H0, cells, slots, Q⟩ := E
  obtain ⟨hx, hb, hml, hown, hts, hK, hR, hD, hA, hc1, hc2⟩ := hC
  subst hq
  intro H locs ls hP hS hl
  exact lv_if_eq hx hb hd ht (fun h => kk.1 ((kw_eqI ha kw_z).mp h) H locs ls hP hS hl) (fun h => kk.2 (fun h2 => h ((kw_eqI ha kw_z).mpr h2)) H locs ls hP hS hl)
theorem kw_icmp_ne {a b off : Int} {tgt : Nat} (hC : Cx E g cc own Ts nL rm) (hd : decode cc pc = .ok (.if_icmp .ne off, 3)) (hq : pc + 3 = q) (ht : (pc : Int) + off = (tgt : Int)) (ha : -2147483648 ≤ a ∧ a ≤ 2147483647) (hb9 : -2147483648 ≤ b ∧ b ≤ 2147483647) (kk : (a ≠ b → Wk E g nL S tgt lv st) ∧ (¬ (a ≠ b) → Wk E g nL S q lv st)) : Wk E g nL S pc lv (vi b :: vi a :: st) := by
  obtain ⟨p, l, e, R, s, m, args, below, meth, c, A, H0, cells, slots, Q⟩ := E
  obtain ⟨hx, hb, hml, hown, hts, hK, hR, hD, hA, hc1, hc2⟩ := hC
  subst hq
  intro H locs ls hP hS hl
  exact lv_icmp_ne hx hb hd ht (fun h => kk.1 ((kw_neI ha hb9).mp h) H locs ls hP hS hl) (fun h => kk.2 (fun h2 => h2 ((kw_eqI ha hb9).mp h)) H locs ls hP hS hl)
theorem kw_if_ne {a off : Int} {tgt : Nat} (hC : Cx E g cc own Ts nL rm) (hd : decode cc pc = .ok (.ifCond .ne off, 3)) (hq : pc + 3 = q) (ht : (pc : Int) + off = (tgt : Int)) (ha : -2147483648 ≤ a ∧ a ≤ 2147483647) (kk : (a ≠ 0 → Wk E g nL S tgt lv st) ∧ (¬ (a ≠ 0) → Wk E g nL S q lv st)) : Wk E g nL S pc lv (vi a :: st) := by
  obtain ⟨p, l, e, R, s, m, args, below, meth, c, A, H0, cells, slots, Q⟩ := E
  obtain ⟨hx, hb, hml, hown, hts, hK, hR, hD, hA, hc1, hc2⟩ := hC
  subst hq
  intro H locs ls hP hS hl
  exact lv_if_ne hx hb hd ht (fun h => kk.1 ((kw_neI ha kw_z).mp h) H locs ls hP hS hl) (fun h => kk.2 (fun h2 => h2 ((kw_eqI ha kw_z).mp h)) H locs ls hP hS hl)
theorem kw_icmp_lt {a b off : Int} {tgt : Nat} (hC : Cx E g cc own Ts nL rm) (hd : decode cc pc = .ok (.if_icmp .lt off, 3)) (hq : pc + 3 = q) (ht : (pc : Int) + off = (tgt : Int)) (ha : -2147483648 ≤ a ∧ a ≤ 2147483647) (hb9 : -2147483648 ≤ b ∧ b ≤ 2147483647) (kk : (a < b → Wk E g nL S tgt lv st) ∧ (¬ (a < b) → Wk E g nL S q lv st)) : Wk E g nL S pc lv (vi b :: vi a :: st) := by
  obtain ⟨p, l, e, R, s, m, args, below, meth, c, A, H0, cells, slots, Q⟩ := E
  obtain ⟨hx, hb, hml, hown, hts, hK, hR, hD, hA, hc1, hc2⟩ := hC
  subst hq
  intro H locs ls hP hS hl
  exact lv_icmp_lt hx hb hd ht (fun h => kk.1 ((kw_ltI ha hb9).mp h) H locs ls hP hS hl) (fun h => kk.2 (fun h2 => h ((kw_ltI ha hb9).mpr h2)) H locs ls hP hS hl)
theorem kw_if_lt {a off : Int} {tgt : Nat} (hC : Cx E g cc own Ts nL rm) (hd : decode cc pc = .ok (.ifCond .lt off, 3)) (hq : pc + 3 = q) (ht : (pc : Int) + off = (tgt : Int)) (ha : -2147483648 ≤ a ∧ a ≤ 2147483647) (kk : (a < 0 → Wk E g nL S tgt lv st) ∧ (¬ (a < 0) → Wk E g nL S q lv st)) : Wk E g nL S pc lv (vi a :: st) := by
  obtain ⟨p, l, e, R, s, m, args, below, meth, c, A, H0, cells, slots, Q⟩ := E
  obtain ⟨hx, hb, hml, hown, hts, hK, hR, hD, hA, hc1, hc2⟩ := hC
  subst hq
  intro H locs ls hP hS hl
  exact lv_if_lt hx hb hd ht (fun h => kk.1 ((kw_ltI ha kw_z).mp h) H locs ls hP hS hl) (fun h => kk.2 (fun h2 => h ((kw_ltI ha kw_z).mpr h2)) H locs ls hP hS hl)
theorem kw_icmp_ge {a b off : Int} {tgt : Nat} (hC : Cx E g cc own Ts nL rm) (hd : decode cc pc = .ok (.if_icmp .ge off, 3)) (hq : pc + 3 = q) (ht : (pc : Int) + off = (tgt : Int)) (ha : -2147483648 ≤ a ∧ a ≤ 2147483647) (hb9 : -2147483648 ≤ b ∧ b ≤ 2147483647) (kk : (b ≤ a → Wk E g nL S tgt lv st) ∧ (¬ (b ≤ a) → Wk E g nL S q lv st)) : Wk E g nL S pc lv (vi b :: vi a :: st) := by
  obtain ⟨p, l, e, R, s, m, args, below, meth, c, A, H0, cells, slots, Q⟩ := E
  obtain ⟨hx, hb, hml, hown, hts, hK, hR, hD, hA, hc1, hc2⟩ := hC
  subst hq
  intro H locs ls hP hS hl
  exact lv_icmp_ge hx hb hd ht (fun h => kk.1 ((kw_leI hb9 ha).mp h) H locs ls hP hS hl) (fun h => kk.2 (fun h2 => h ((kw_leI hb9 ha).mpr h2)) H locs ls hP hS hl)
theorem kw_if_ge {a off : Int} {tgt : Nat} (hC : Cx E g cc own Ts nL rm) (hd : decode cc pc = .ok (.ifCond .ge off, 3)) (hq : pc + 3 = q) (ht : (pc : Int) + off = (tgt : Int)) (ha : -2147483648 ≤ a ∧ a ≤ 2147483647) (kk : (0 ≤ a → Wk E g nL S tgt lv st) ∧ (¬ (0 ≤ a) → Wk E g nL S q lv st)) : Wk E g nL S pc lv (vi a :: st) := by
  obtain ⟨p, l, e, R, s, m, args, below, meth, c, A, H0, cells, slots, Q⟩ := E
  obtain ⟨hx, hb, hml, hown, hts, hK, hR, hD, hA, hc1, hc2⟩ := hC
  subst hq
  intro H locs ls hP hS hl
  exact lv_if_ge hx hb hd ht (fun h => kk.1 ((kw_leI kw_z ha).mp h) H locs ls hP hS hl) (fun h => kk.2 (fun h2 => h ((kw_leI kw_z ha).mpr h2)) H locs ls hP hS hl)
theorem kw_icmp_gt {a b off : Int} {tgt : Nat} (hC : Cx E g cc own Ts nL rm) (hd : decode cc pc = .ok (.if_icmp .gt off, 3)) (hq : pc + 3 = q) (ht : (pc : Int) + off = (tgt : Int)) (ha : -2147483648 ≤ a ∧ a ≤ 2147483647) (hb9 : -2147483648 ≤ b ∧ b ≤ 2147483647) (kk : (b < a → Wk E g nL S tgt lv st) ∧ (¬ (b < a) → Wk E g nL S q lv st)) : Wk E g nL S pc lv (vi b :: vi a :: st) := by
  obtain ⟨p, l, e, R, s, m, args, below, meth, c, A, H0, cells, slots, Q⟩ := E
  obtain ⟨hx, hb, hml, hown, hts, hK, hR, hD, hA, hc1, hc2⟩ := hC
  subst hq
  intro H locs ls hP hS hl
  exact lv_icmp_gt hx hb hd ht (fun h => kk.1 ((kw_ltI hb9 ha).mp h) H locs ls hP hS hl) (fun h => kk.2 (fun h2 => h ((kw_ltI hb9 ha).mpr h2)) H locs ls hP hS hl)
theorem kw_if_gt {a off : Int} {tgt : Nat} (hC : Cx E g cc own Ts nL rm) (hd : decode cc pc = .ok (.ifCond .gt off, 3)) (hq : pc + 3 = q) (ht : (pc : Int) + off = (tgt : Int)) (ha : -2147483648 ≤ a ∧ a ≤ 2147483647) (kk : (0 < a → Wk E g nL S tgt lv st) ∧ (¬ (0 < a) → Wk E g nL S q lv st)) : Wk E g nL S pc lv (vi a :: st) := by
  obtain ⟨p, l, e, R, s, m, args, below, meth, c, A, H0, cells, slots, Q⟩ := E
  obtain ⟨hx, hb, hml, hown, hts, hK, hR, hD, hA, hc1, hc2⟩ := hC
  subst hq
  intro H locs ls hP hS hl
  exact lv_if_gt hx hb hd ht (fun h => kk.1 ((kw_ltI kw_z ha).mp h) H locs ls hP hS hl) (fun h => kk.2 (fun h2 => h ((kw_ltI kw_z ha).mpr h2)) H locs ls hP hS hl)
theorem kw_icmp_le {a b off : Int} {tgt : Nat} (hC : Cx E g cc own Ts nL rm) (hd : decode cc pc = .ok (.if_icmp .le off, 3)) (hq : pc + 3 = q) (ht : (pc : Int) + off = (tgt : Int)) (ha : -2147483648 ≤ a ∧ a ≤ 2147483647) (hb9 : -2147483648 ≤ b ∧ b ≤ 2147483647) (kk : (a ≤ b → Wk E g nL S tgt lv st) ∧ (¬ (a ≤ b) → Wk E g nL S q lv st)) : Wk E g nL S pc lv (vi b :: vi a :: st) := by
  obtain ⟨p, l, e, R, s, m, args, below, meth, c, A, H0, cells, slots, Q⟩ := E
  obtain ⟨hx, hb, hml, hown, hts, hK, hR, hD, hA, hc1, hc2⟩ := hC
  subst hq
  intro H locs ls hP hS hl
  exact lv_icmp_le hx hb hd ht (fun h => kk.1 ((kw_leI ha hb9).mp h) H locs ls hP hS hl) (fun h => kk.2 (fun h2 => h ((kw_leI ha hb9).mpr h2)) H locs ls hP hS hl)
theorem kw_if_le {a off : Int} {tgt : Nat} (hC : Cx E g cc own Ts nL rm) (hd : decode cc pc = .ok (.ifCond .le off, 3)) (hq : pc + 3 = q) (ht : (pc : Int) + off = (tgt : Int)) (ha : -2147483648 ≤ a ∧ a ≤ 2147483647) (kk : (a ≤ 0 → Wk E g nL S tgt lv st) ∧ (¬ (a ≤ 0) → Wk E g nL S q lv st)) : Wk E g nL S pc lv (vi a :: st) := by
  obtain ⟨p, l, e, R, s, m, args, below, meth, c, A, H0, cells, slots, Q⟩ := E
  obtain ⟨hx, hb, hml, hown, hts, hK, hR, hD, hA, hc1, hc2⟩ := hC
  subst hq
  intro H locs ls hP hS hl
  exact lv_if_le hx hb hd ht (fun h => kk.1 ((kw_leI ha kw_z).mp h) H locs ls hP hS hl) (fun h => kk.2 (fun h2 => h ((kw_leI ha kw_z).mpr h2)) H locs ls hP hS hl)
theorem kw_ifeq_b {P : Prop} {off : Int} {tgt : Nat} (hC : Cx E g cc own Ts nL rm) (hd : decode cc pc = .ok (.ifCond .eq off, 3)) (hq : pc + 3 = q) (ht : (pc : Int) + off = (tgt : Int)) (kk : (¬ P → Wk E g nL S tgt lv st) ∧ (P → Wk E g nL S q lv st)) : Wk E g nL S pc lv (vi (bz P) :: st) := by
  obtain ⟨p, l, e, R, s, m, args, below, meth, c, A, H0, cells, slots, Q⟩ := E
  obtain ⟨hx, hb, hml, hown, hts, hK, hR, hD, hA, hc1, hc2⟩ := hC
  subst hq
  intro H locs ls hP hS hl
  refine lv_if_eq hx hb hd ht (fun h => kk.1 (fun hp => ?_) H locs ls hP hS hl) (fun h => kk.2 (Classical.byContradiction (fun hp => ?_)) H locs ls hP hS hl)
  · rw [bz_t hp] at h; exact absurd h (by decide)
  · exact h (by rw [bz_f hp]; decide)
theorem kw_ifne_b {P : Prop} {off : Int} {tgt : Nat} (hC : Cx E g cc own Ts nL rm) (hd : decode cc pc = .ok (.ifCond .ne off, 3)) (hq : pc + 3 = q) (ht : (pc : Int) + off = (tgt : Int)) (kk : (P → Wk E g nL S tgt lv st) ∧ (¬ P → Wk E g nL S q lv st)) : Wk E g nL S pc lv (vi (bz P) :: st) := by
  obtain ⟨p, l, e, R, s, m, args, below, meth, c, A, H0, cells, slots, Q⟩ := E
  obtain ⟨hx, hb, hml, hown, hts, hK, hR, hD, hA, hc1, hc2⟩ := hC
  subst hq
  intro H locs ls hP hS hl
  refine lv_if_ne hx hb hd ht (fun h => kk.1 (Classical.byContradiction (fun hp => ?_)) H locs ls hP hS hl) (fun h => kk.2 (fun hp => ?_) H locs ls hP hS hl)
  · exact h (by rw [bz_f hp]; decide)
  · rw [bz_t hp] at h; exact absurd h (by decide)
theorem kw_goto {off : Int} {tgt : Nat} (hC : Cx E g cc own Ts nL rm) (hd : decode cc pc = .ok (.goto off, 3)) (hq : pc + 3 = q) (ht : (pc : Int) + off = (tgt : Int)) (kk : Wk E g nL S tgt lv st) : Wk E g nL S pc lv st := by
  obtain ⟨p, l, e, R, s, m, args, below, meth, c, A, H0, cells, slots, Q⟩ := E
  obtain ⟨hx, hb, hml, hown, hts, hK, hR, hD, hA, hc1, hc2⟩ := hC
  subst hq
  intro H locs ls hP hS hl
  exact lv_goto hx hb hd ht (kk H locs ls hP hS hl)
theorem kw_lcmp {a b : Int} (hC : Cx E g cc own Ts nL rm) (hd : decode cc pc = .ok (.lcmp, 1)) (hq : pc + 1 = q) (ha : -9223372036854775808 ≤ a ∧ a ≤ 9223372036854775807) (hb9 : -9223372036854775808 ≤ b ∧ b ≤ 9223372036854775807) (kk : Wk E g nL S q lv (vi (cz a b) :: st)) : Wk E g nL S pc lv (vl b :: vl a :: st) := by
  obtain ⟨p, l, e, R, s, m, args, below, meth, c, A, H0, cells, slots, Q⟩ := E
  obtain ⟨hx, hb, hml, hown, hts, hK, hR, hD, hA, hc1, hc2⟩ := hC
  subst hq
  intro H locs ls hP hS hl
  have h := kk H locs ls hP hS hl
  rw [vi, ← kw_cz ha hb9] at h
  exact W.lcmp hx hb hd h
theorem kw_tabIn {dflt lo hi : Int} {offs : Array Int} {len : Nat} {a off : Int} {tgt : Nat} (hC : Cx E g cc own Ts nL rm) (hd : decode cc pc = .ok (.tableswitch dflt lo hi offs, len)) (ha : -2147483648 ≤ a ∧ a ≤ 2147483647) (h1 : lo ≤ a) (h2 : a ≤ hi) (ho : offs[(a - lo).toNat]? = some off) (ht : (pc : Int) + off = (tgt : Int)) (kk : Wk E g nL S tgt lv st) : Wk E g nL S pc lv (vi a :: st) := by
  obtain ⟨p, l, e, R, s, m, args, below, meth, c, A, H0, cells, slots, Q⟩ := E
  obtain ⟨hx, hb, -⟩ := hC
  intro H locs ls hP hS hl
  have e1 : (Int32.ofInt a).toInt = a := kw_ti ha
  exact lv_tableIn hx hb hd (by rw [e1]; omega) (by rw [e1]; omega) (by rw [e1]; exact ho) ht (kk H locs ls hP hS hl)
theorem kw_tabOut {dflt lo hi : Int} {offs : Array Int} {len : Nat} {a : Int} {tgt : Nat} (hC : Cx E g cc own Ts nL rm) (hd : decode cc pc = .ok (.tableswitch dflt lo hi offs, len)) (ha : -2147483648 ≤ a ∧ a ≤ 2147483647) (h1 : a < lo ∨ hi < a) (ht : (pc : Int) + dflt = (tgt : Int)) (kk : Wk E g nL S tgt lv st) : Wk E g nL S pc lv (vi a :: st) := by
  obtain ⟨p, l, e, R, s, m, args, below, meth, c, A, H0, cells, slots, Q⟩ := E
  obtain ⟨hx, hb, -⟩ := hC
  intro H locs ls hP hS hl
  have e1 : (Int32.ofInt a).toInt = a := kw_ti ha
  exact lv_tableOut hx hb hd (by rw [e1]; exact h1) ht (kk H locs ls hP hS hl)
theorem kw_lv {lv' : List (Nat × Value)} (js : List Nat) (hj : lv_pick lv js = lv') (kk : Wk E g nL S pc lv' st) : Wk E g nL S pc lv st := by
  obtain ⟨p, l, e, R, s, m, args, below, meth, c, A, H0, cells, slots, Q⟩ := E
  intro H locs ls hP hS hl
  exact kk H locs ls hP hS (lv_sub hl js hj)
theorem kw_S {S' : wSt} (h : ∀ (k : Nat) (i : Int), 0 ≤ i → i < cn k → cx g k i (S k i) = cx g k i (S' k i)) (kk : Wk E g nL S' pc lv st) : Wk E g nL S pc lv st := by
  obtain ⟨p, l, e, R, s, m, args, below, meth, c, A, H0, cells, slots, Q⟩ := E
  intro H locs ls hP hS hl
  exact kk H locs ls (fun k i h0 h1 => by rw [← h k i h0 h1]; exact hP k i h0 h1) hS hl
theorem kw_1P {k : Nat} {i : Int} {H : Heap} {e : va_E} (hP : wP g S H) (h0 : 0 ≤ i) (h1 : i < cn k) (he : cx g k i (S k i) = e) : va_P g.1 vwCl [(g.2.2 k i, e)] H := by
  intro n x hx
  match n, hx with
  | 0, hx => cases hx; rw [← he]; exact hP k i h0 h1
  | n + 1, hx => simp at hx
theorem kw_1D {k : Nat} {i : Int} {A : Nat → Prop} {e : va_E} (hA : ∀ q, wA g q → A q) (h0 : 0 ≤ i) (h1 : i < cn k) : va_D A [(g.2.2 k i, e)] := by
  refine ⟨fun a b x y ha hb h => ?_, fun n x hx => ?_⟩
  · have := (List.getElem?_eq_some_iff.mp ha).1
    have := (List.getElem?_eq_some_iff.mp hb).1
    simp only [List.length_cons, List.length_nil] at *
    omega
  · match n, hx with
    | 0, hx => cases hx; exact hA _ ⟨k, i, h0, h1, rfl⟩
    | n + 1, hx => simp at hx
end KW
section KM
variable {E : wE} {g : wG} {cc : ByteArray} {own : String} {Ts : List Cond} {nL : Nat} {rm : Room} {S : wSt} {pc q : Nat} {lv : List (Nat × Value)} {st : List Value}
theorem kw_get {k : Nat} {i : Int} {ci idx f N : Nat} {C ref : String} {T : u_T} {fs : List Value} {v : Value} (hC : Cx E g cc own Ts nL rm) (hin : ∀ w ∈ u_ws C T N, w ∈ Ts) (hcx : cx g k i (S k i) = .inr (ci, fs)) (hcl : vwCl[ci]? = some (C, T, N)) (hk : f < N) (hlink : Cond.fieldLink own idx ref (T f).2.1 (T f).2.2.1 ∈ Ts) (href : ref = (T f).1) (hv : fs[f]? = some v) (h0 : 0 ≤ i) (h1 : i < cn k) (hd : decode cc pc = .ok (.getfield idx, 3)) (hq : pc + 3 = q) (kk : Wk E g nL S q lv (v :: st)) : Wk E g nL S pc lv (vr g k i :: st) := by
  obtain ⟨p, l, e, R, s, m, args, below, meth, c, A, H0, cells, slots, Q⟩ := E
  obtain ⟨hx, hb, hml, hown, hts, hK, hR, hD, hA, hc1, hc2⟩ := hC
  subst hq
  subst href
  intro H locs ls hP hS hl
  exact va_get hx hb hts hin hown hK.1 (kw_1P hP h0 h1 hcx) 0 rfl hcl f hk (hts _ hlink) (fun _ h9 => h9) hv hd (kk H locs ls hP hS hl)
theorem kw_put {k : Nat} {i z : Int} {ci idx f N : Nat} {C ref : String} {T : u_T} {fs : List Value} {v : Value} {ty : FieldType} (hC : Cx E g cc own Ts nL rm) (hin : ∀ w ∈ u_ws C T N, w ∈ Ts) (ty0 : Nat → FieldType) (hty : ∀ k, k < N → parseFieldDescriptor (T k).2.2.1 = some (ty0 k)) (hnm : ∀ a, a < N → ∀ b, b < N → a ≠ b → (T a).2.1 ≠ (T b).2.1) (hcx : cx g k i (S k i) = .inr (ci, fs)) (hcl : vwCl[ci]? = some (C, T, N)) (hk : f < N) (hlink : Cond.fieldLink own idx ref (T f).2.1 (T f).2.2.1 ∈ Ts) (href : ref = (T f).1) (hfin : (T f).2.2.2 = false) (hdsc : parseFieldDescriptor (T f).2.2.1 = some ty) (hn : narrow ty v = v) (hfit : fits ty v = true) (hlen : f < fs.length) (hcx' : cx g k i (ups S k i (f : Int) z k i) = .inr (ci, fs.set f v)) (h0 : 0 ≤ i) (h1 : i < cn k) (hd : decode cc pc = .ok (.putfield idx, 3)) (hq : pc + 3 = q) (kk : Wk E g nL (ups S k i (f : Int) z) q lv st) : Wk E g nL S pc lv (v :: vr g k i :: st) := by
  obtain ⟨p, l, e, R, s, m, args, below, meth, c, A, H0, cells, slots, Q⟩ := E
  obtain ⟨hx, hb, hml, hown, hts, hK, hR, hD, hA, hc1, hc2⟩ := hC
  subst hq
  subst href
  intro H locs ls hP hS hl
  have hPk := hP k i h0 h1
  rw [hcx] at hPk
  obtain ⟨r, h9, cell, q1, q2, q3, q4⟩ := hPk
  have hr : r = (C, T, N) := Option.some.inj (h9.symm.trans hcl)
  subst hr
  have hap := va_apart (own := own) hts hin ty0 hty hnm hK.1 hcl
  obtain ⟨hSl, hfc, kC, hkC, hkind⟩ := hK.1.1 ci _ hcl
  obtain ⟨cf, kf, fi, fl, hi, hsl⟩ := hSl f hk
  have hlay := hts _ (hin _ (u_in_lay hk))
  unfold u_lay at hlay
  rw [if_neg (by rw [hfin]; decide)] at hlay
  have hst := (u_facts hfc hkC (u_lays hts hin hk) hi).1
  have h6 := u_store hfc hkC hkind hlay hi hdsc hn hfit
  refine W.putK hx hb (f := fl) ⟨hown, hts _ hlink, ⟨_, _, _, hi⟩, hst⟩ (by rw [q2]; exact h6) q1 q3 (by rw [hsl]; exact k2_hasslot (q4 f hk)) rfl rfl hd fun H' e1 e2 e3 => ?_
  rw [hsl] at e1 ⊢
  exact kk H' _ ls (hP.set hD h0 h1 (by rw [hcx']; exact ⟨_, hcl, t_OB.to (V := updV (vp_V fs) f v) ⟨_, e1, q2, q3, t_set q4 hap hk v⟩ (fun j _ => vp_updV_set hlen v j)⟩) e3) (hS.put e2 e3 (hA _ ⟨k, i, h0, h1, rfl⟩)) hl
theorem kw_iald {k n : Nat} {i z : Int} (hC : Cx E g cc own Ts nL rm) (hcx : cx g k i (S k i) = ka_i g n (S k i)) (hn : n < 2147483648) (h0 : 0 ≤ i) (h1 : i < cn k) (z0 : 0 ≤ z) (z1 : z < n) (hd : decode cc pc = .ok (.iaload, 1)) (hq : pc + 1 = q) (kk : Wk E g nL S q lv (vi (S k i z) :: st)) : Wk E g nL S pc lv (vi z :: vr g k i :: st) := by
  obtain ⟨p, l, e, R, s, m, args, below, meth, c, A, H0, cells, slots, Q⟩ := E
  obtain ⟨hx, hb, hml, hown, hts, hK, hR, hD, hA, hc1, hc2⟩ := hC
  subst hq
  intro H locs ls hP hS hl
  refine va_iald hx hb hK.1 (kw_1P hP h0 h1 hcx) 0 0 rfl rfl (kw_vpin z0 z1 hn) hd ?_
  have h := kk H locs ls hP hS hl
  rw [kw_cl z0 (by omega), Int.toNat_of_nonneg z0]
  exact h
theorem kw_lald {k n : Nat} {i z : Int} (hC : Cx E g cc own Ts nL rm) (hcx : cx g k i (S k i) = ka_l g n (S k i)) (hn : n < 2147483648) (h0 : 0 ≤ i) (h1 : i < cn k) (z0 : 0 ≤ z) (z1 : z < n) (hd : decode cc pc = .ok (.laload, 1)) (hq : pc + 1 = q) (kk : Wk E g nL S q lv (vl (S k i z) :: st)) : Wk E g nL S pc lv (vi z :: vr g k i :: st) := by
  obtain ⟨p, l, e, R, s, m, args, below, meth, c, A, H0, cells, slots, Q⟩ := E
  obtain ⟨hx, hb, hml, hown, hts, hK, hR, hD, hA, hc1, hc2⟩ := hC
  subst hq
  intro H locs ls hP hS hl
  refine va_lald hx hb hK.1 (kw_1P hP h0 h1 hcx) 0 1 rfl rfl (kw_vpin z0 z1 hn) hd ?_
  have h := kk H locs ls hP hS hl
  rw [kw_cl z0 (by omega), Int.toNat_of_nonneg z0]
  exact h
theorem kw_aald {k n t k' : Nat} {i z : Int} {ty : FieldType} (hC : Cx E g cc own Ts nL rm) (hcx : cx g k i (S k i) = ka_r g t n k') (ht : (tysX g)[t]? = some (g.2.1 t, ty)) (hr : ty.isReference = true) (hn : n < 2147483648) (h0 : 0 ≤ i) (h1 : i < cn k) (z0 : 0 ≤ z) (z1 : z < n) (hd : decode cc pc = .ok (.aaload, 1)) (hq : pc + 1 = q) (kk : Wk E g nL S q lv (vr g k' z :: st)) : Wk E g nL S pc lv (vi z :: vr g k i :: st) := by
  obtain ⟨p, l, e, R, s, m, args, below, meth, c, A, H0, cells, slots, Q⟩ := E
  obtain ⟨hx, hb, hml, hown, hts, hK, hR, hD, hA, hc1, hc2⟩ := hC
  subst hq
  intro H locs ls hP hS hl
  have hP1 := hP k i h0 h1
  rw [hcx] at hP1
  have h := kk H locs ls hP hS hl
  have hv := kw_vpin z0 z1 hn
  refine W.aald (v := vr g k' z) (ty := ty) hx hb hP1 ((hK.1.2 t _ ht).1 n (fun j => va_rf (some (g.2.2 k' (j : Int))))) hr (fun q => by cases q) (by show ¬ (_ < 0 ∨ (arrV _ _ _).slots.size ≤ _); rw [arrV_size]; exact hv) ?_ rfl rfl hd h
  show (arrV _ _ _).slots[_]? = _
  have hz9 : z.toNat < n := by omega
  rw [kw_cl z0 (by omega), arrV_read _ _ hz9]
  show some (Value.ref (g.2.2 k' ((z.toNat : Nat) : Int))) = _
  rw [Int.toNat_of_nonneg z0]
  rfl
theorem kw_iast {k n : Nat} {i z x : Int} (hC : Cx E g cc own Ts nL rm) (hcx : ∀ r, cx g k i r = ka_i g n r) (hn : n < 2147483648) (h0 : 0 ≤ i) (h1 : i < cn k) (z0 : 0 ≤ z) (z1 : z < n) (hd : decode cc pc = .ok (.iastore, 1)) (hq : pc + 1 = q) (kk : Wk E g nL (ups S k i z x) q lv st) : Wk E g nL S pc lv (vi x :: vi z :: vr g k i :: st) := by
  obtain ⟨p, l, e, R, s, m, args, below, meth, c, A, H0, cells, slots, Q⟩ := E
  obtain ⟨hx, hb, hml, hown, hts, hK, hR, hD, hA, hc1, hc2⟩ := hC
  subst hq
  intro H locs ls hP hS hl
  have hP1 := hP k i h0 h1
  rw [hcx] at hP1
  have hv := kw_vpin z0 z1 hn
  refine W.iast hx hb hP1 ((hK.1.2 0 _ rfl).1 n (fun j => .int (Int32.ofInt (S k i (j : Int))))) (fun q => by cases q) (by show ¬ (_ < 0 ∨ (arrV _ _ _).slots.size ≤ _); rw [arrV_size]; exact hv) rfl rfl hd fun H1 e9 z9 oq => ?_
  refine kk H1 _ ls (hP.set hD h0 h1 ?_ oq) (hS.put z9 oq (hA _ ⟨k, i, h0, h1, rfl⟩)) hl
  rw [hcx]
  show H1[g.2.2 k i]? = some (vp_cell _ _)
  rw [e9]
  rw [vp_cell_i, vp_cell_i, arrV_store, kw_cl z0 (by omega)]
  congr 2
  funext j
  by_cases hj : j = z.toNat
  · have : ((j : Nat) : Int) = z := by omega
    simp [updV, hj, ups, Int.toNat_of_nonneg z0]
  · have : ¬ ((j : Nat) : Int) = z := by omega
    simp [updV, hj, ups, this]
theorem kw_last {k n : Nat} {i z x : Int} (hC : Cx E g cc own Ts nL rm) (hcx : ∀ r, cx g k i r = ka_l g n r) (hn : n < 2147483648) (h0 : 0 ≤ i) (h1 : i < cn k) (z0 : 0 ≤ z) (z1 : z < n) (hd : decode cc pc = .ok (.lastore, 1)) (hq : pc + 1 = q) (kk : Wk E g nL (ups S k i z x) q lv st) : Wk E g nL S pc lv (vl x :: vi z :: vr g k i :: st) := by
  obtain ⟨p, l, e, R, s, m, args, below, meth, c, A, H0, cells, slots, Q⟩ := E
  obtain ⟨hx, hb, hml, hown, hts, hK, hR, hD, hA, hc1, hc2⟩ := hC
  subst hq
  intro H locs ls hP hS hl
  have hP1 := hP k i h0 h1
  rw [hcx] at hP1
  have hv := kw_vpin z0 z1 hn
  refine W.last hx hb hP1 ((hK.1.2 1 _ rfl).1 n (fun j => .long (Int64.ofInt (S k i (j : Int))))) (fun q => by cases q) (by show ¬ (_ < 0 ∨ (arrV _ _ _).slots.size ≤ _); rw [arrV_size]; exact hv) rfl rfl hd fun H1 e9 z9 oq => ?_
  refine kk H1 _ ls (hP.set hD h0 h1 ?_ oq) (hS.put z9 oq (hA _ ⟨k, i, h0, h1, rfl⟩)) hl
  rw [hcx]
  show H1[g.2.2 k i]? = some (vp_cell _ _)
  rw [e9]
  rw [vp_cell_l, vp_cell_l, arrV_store, kw_cl z0 (by omega)]
  congr 2
  funext j
  by_cases hj : j = z.toNat
  · have : ((j : Nat) : Int) = z := by omega
    simp [updV, hj, ups, Int.toNat_of_nonneg z0]
  · have : ¬ ((j : Nat) : Int) = z := by omega
    simp [updV, hj, ups, this]
theorem kw_alenL {k n : Nat} {i : Int} (hC : Cx E g cc own Ts nL rm) (hcx : cx g k i (S k i) = ka_l g n (S k i)) (h0 : 0 ≤ i) (h1 : i < cn k) (hd : decode cc pc = .ok (.arraylength, 1)) (hq : pc + 1 = q) (kk : Wk E g nL S q lv (vi (n : Int) :: st)) : Wk E g nL S pc lv (vr g k i :: st) := by
  obtain ⟨p, l, e, R, s, m, args, below, meth, c, A, H0, cells, slots, Q⟩ := E
  obtain ⟨hx, hb, hml, hown, hts, hK, hR, hD, hA, hc1, hc2⟩ := hC
  subst hq
  intro H locs ls hP hS hl
  exact va_alen hx hb hK.1 (kw_1P hP h0 h1 hcx) 0 1 rfl rfl Int32.ofInt_eq_ofNat.symm hd (kk H locs ls hP hS hl)
end KM
/-! CONTRACTS: from the world S, with these arguments, the method returns; the answer and the world behind it are as post says; no cell is made -/
def Kt (l : Launch) (y : MethodName) (ws : List Cond) (rm : Room) (g : wG) (S : wSt) (As : List Value) (post : Option Value → wSt → Prop) : Prop :=
  Met l y ws rm (va_Pc As (fun U => wP g S U.heap ∧ wK g U)) (fun _ st o t => (∃ (v : Option Value) (S' : wSt), o = .returned v ∧ post v S' ∧ wP g S' t.heap) ∧ va_F (wA g) st t) 0 0 (wA g)
def pI (post : Int → wSt → Prop) : Option Value → wSt → Prop := fun v S' => ∃ r : Int, v = some (vi r) ∧ post r S'
def pL (post : Int → wSt → Prop) : Option Value → wSt → Prop := fun v S' => ∃ r : Int, v = some (vl r) ∧ post r S'
def pV (post : wSt → Prop) : Option Value → wSt → Prop := fun v S' => v = none ∧ post S'
/-- the ends of a method's walk -/
def Rt (E : wE) (g : wG) (cc : ByteArray) (nL : Nat) (ret : Option FieldType) (post : Option Value → wSt → Prop) : Prop :=
  (ret = some .int → ∀ (S : wSt) (pc : Nat) (lv : List (Nat × Value)) (r : Int), decode cc pc = .ok (.ireturn, 1) → post (some (vi r)) S → Wk E g nL S pc lv [vi r]) ∧
  (ret = some .boolean → ∀ (S : wSt) (pc : Nat) (lv : List (Nat × Value)) (r : Int), decode cc pc = .ok (.ireturn, 1) → (r = 0 ∨ r = 1) → post (some (vi r)) S → Wk E g nL S pc lv [vi r]) ∧
  (ret = some .long → ∀ (S : wSt) (pc : Nat) (lv : List (Nat × Value)) (r : Int), decode cc pc = .ok (.lreturn, 1) → post (some (vl r)) S → Wk E g nL S pc lv [vl r]) ∧
  (ret = none → ∀ (S : wSt) (pc : Nat) (lv : List (Nat × Value)), decode cc pc = .ok (.return_, 1) → post none S → Wk E g nL S pc lv [])
theorem Kt.of {l : Launch} {y : MethodName} {ws ws' : List Cond} {rm : Room} {g : wG} {S : wSt} {As : List Value} {post : Option Value → wSt → Prop} {cc : ByteArray} {nL : Nat} {ret : Option FieldType} {own : String} (hown : y.cls = own) (hD : wD g) (hy : plainName y.cls = true) (hw : ws = Cond.code y cc nL ret :: ws') (hlen : (lg_sl As).length ≤ nL) (hrm : rm.cells = 0 ∧ rm.slots = 0)
    (body : ∀ E : wE, Cx E g cc own ws nL rm → Rt E g cc nL ret post → Wk E g nL S 0 (lv_args 0 As) []) : Kt l y ws rm g S As post := by
  refine Met.ofW (cc := cc) (maxL := nL) (ret := ret) hy hw ?_
  intro p e s m args below meth c s₁ B hml hv
  obtain ⟨rfl, hP, hK⟩ := hv
  have hx := B.exec
  have hb := B.bytes
  have hr := B.returns
  have hts := atoms_spec (ws := ws) B.pre
  have hown2 : s.vm.findClass own = some m.cls := by rw [← hown]; exact findClass_of_methodNamed B.named
  have hlocks := B.notSynchronized
  have hl := lv_entry As hlen
  rw [lg_entry_eq]
  have hbody := body (p, l, e, rm, s, m, As.toArray, below, meth, c, wA g, s.heap, 0, 0, MQ below (fun _ st o t => (∃ (v : Option Value) (S' : wSt), o = .returned v ∧ post v S' ∧ wP g S' t.heap) ∧ va_F (wA g) st t) As.toArray s 0 0 (wA g))
    ⟨hx, hb, hml, hown2, hts, hK, rfl, hD, fun _ h => h, Nat.zero_le _, Nat.zero_le _⟩
    ⟨fun e1 S' pc lv r hd hp H locs ls hP' hS hl' => by
        subst e1
        exact W.iret hx hb hr (fun t ht hW => ⟨⟨some (vi r), S', rfl, hp, by rw [ht]; exact hP'⟩, hS.F ht⟩) hS.2.2 hd,
     fun e1 S' pc lv r hd h01 hp H locs ls hP' hS hl' => by
        subst e1
        refine W.zret (ty := .boolean) hx hb hr ?_ (fun t ht hW => ⟨⟨some (vi r), S', rfl, hp, by rw [ht]; exact hP'⟩, hS.F ht⟩) hS.2.2 hd
        rcases h01 with rfl | rfl <;> rfl,
     fun e1 S' pc lv r hd hp H locs ls hP' hS hl' => by
        subst e1
        exact W.lret hx hb hr (fun t ht hW => ⟨⟨some (vl r), S', rfl, hp, by rw [ht]; exact hP'⟩, hS.F ht⟩) hS.2.2 hd,
     fun e1 S' pc lv hd hp H locs ls hP' hS hl' => by
        subst e1
        exact W.vret hx hb hr (fun t ht hW => ⟨⟨none, S', rfl, hp, by rw [ht]; exact hP'⟩, hS.F ht⟩) hS.2.2 hd⟩
  exact hbody s.heap [] _ hP va_S.rf hl
theorem wN.moved {s U : State} (hW : s.WarmedH U.vm) (h : ∀ w ∈ nestX, va_Nw w s) : ∀ w ∈ nestX, va_Nw w U := by
  intro w hw
  have h9 := h w hw
  simp only [nestX, List.mem_cons, List.not_mem_nil, or_false] at hw
  rcases hw with rfl | rfl | rfl | rfl | rfl | rfl | rfl | rfl | rfl <;> exact va_Nw.warmM hW h9
theorem wK.blind {g : wG} {U : State} {f : JFrame} {mk : MethodId} {a : Array Value} (h : wK g U) : wK g (U.calling f mk a) :=
  ⟨va_K.moved (u := U) (U := U.calling f mk a) (Vm.Alike.refl U.vm) h.1, fun w hw => by
    have h9 := h.2 w hw
    simp only [nestX, List.mem_cons, List.not_mem_nil, or_false] at hw
    rcases hw with rfl | rfl | rfl | rfl | rfl | rfl | rfl | rfl | rfl <;> exact va_Nw.same rfl (u := U) rfl h9⟩
theorem Kt_blind {g : wG} {S : wSt} {As : List Value} : FrameBlind (va_Pc As (fun U => wP g S U.heap ∧ wK g U)) := fun a U f mk q => ⟨q.1, q.2.1, q.2.2.blind⟩
section KC
variable {E : wE} {g : wG} {cc : ByteArray} {own : String} {Ts : List Cond} {nL : Nat} {rm : Room} {S : wSt} {pc q : Nat} {lv : List (Nat × Value)} {st stk : List Value}
  {l : Launch} {y : MethodName} {ws ws' : List Cond} {rmc : Room} {As : List Value} {post : Option Value → wSt → Prop} {bytes : ByteArray} {maxL n index : Nat} {ret : Option FieldType}
theorem kw_ran {p : Program} {l : Launch} {e : Env} {R : Room} {s : State} {m : MethodId} {args : Array Value} {below : List Frame} {meth : Method} {c : Code} {A : Nat → Prop} {H0 H : Heap} {cells slots : Nat} {Q : State → Prop} {locs : List Loc} {ls : Array Slot} {a : Array Value}
    (hr : va_Run p l e R s m args below meth c H locs cells slots 0 0 (F0 m pc ls stk) st ((fun (_ : Array Value) (st : State) (o : Outcome) (t : State) => (∃ (v : Option Value) (S' : wSt), o = .returned v ∧ post v S' ∧ wP g S' t.heap) ∧ va_F (wA g) st t) a) (wA g)) (hS : va_S A H0 H locs) (hA : ∀ q, wA g q → A q) (hl : lv_has ls nL lv)
    (kk : ∀ (v : Option Value) (S' : wSt), post v S' → Wk (p, l, e, R, s, m, args, below, meth, c, A, H0, cells, slots, Q) g nL S' (pc + 3) lv (v.toList ++ st)) : W p l e R s m args below meth c H locs cells slots Q (F0 m pc ls stk) := by
  intro T hT X
  obtain ⟨v, st₀, t, T', L, h0, X', hL, e1, e2, ⟨⟨v', S', hv, hp, hPt⟩, hz, hk⟩, stp⟩ := hr T hT X
  cases hv
  rw [h0] at hz hk
  obtain ⟨t2, a1, b1⟩ := kk v S' hp T'.heap (locs ++ L) ls (by rw [e1]; exact hPt)
    ⟨Nat.le_trans hS.1 (by rw [e1]; exact hz), fun q h1 h2 => by rw [e1, hk q (Nat.lt_of_lt_of_le h1 hS.1) (fun z => h2 (hA q z))]; exact hS.2.1 q h1 h2, fun q hq => by
      rcases List.mem_append.mp hq with h | h
      · exact hS.2.2 q h
      · exact hA _ (hL q h)⟩ hl T' rfl X'
  exact ⟨t2, stp t2 a1, b1⟩
theorem kw_callS (hC : Cx E g cc own Ts nL rm) (hM : ∀ l, Kt l y ws rmc g S As post) (hG : GoodIn Ts (va_wsS own index y ws)) (hw : ws = Cond.code y bytes maxL ret :: ws') (hrm : rmc.cells = 0 ∧ rmc.slots = 0) (n : Nat) (hy : y.cls ≠ "java/lang/invoke/MethodHandle" ∧ y.cls ≠ "java/lang/invoke/VarHandle" ∧ (parseMethodDescriptor y.desc).map (fun d => d.parameters.length) = some n) (hroom : rmc.frames + 1 ≤ rm.frames ∧ 8 + (maxL + 11) + rmc.locals ≤ rm.locals) (hn : As.length = n) (hst : stk = As.reverse ++ st) (hsum : (st.map fun v => v.category).sum ≤ 8) (hd : decode cc pc = .ok (.invokestatic index, 3)) (hq : pc + 3 = q)
    (kk : ∀ (v : Option Value) (S' : wSt), post v S' → Wk E g nL S' q lv (v.toList ++ st)) : Wk E g nL S pc lv stk := by
  obtain ⟨p, l, e, R, s, m, args, below, meth, c, A, H0, cells, slots, Q⟩ := E
  obtain ⟨hx, hb, hml, hown, hts, hK, hR, hD, hA, hc1, hc2⟩ := hC
  subst hq
  subst hR
  intro H locs ls hP hS hl
  refine kw_ran (a := As.toArray) (va_runS (As := As) (rest := st) ⟨hx, hb, hml, hown, hts⟩ (hM l) (va_cwS n hts hG hw hrm.1 hrm.2 hy hroom) ⟨Kt_blind, fun U hU hW => ⟨rfl, by rw [hU]; exact hP, va_K.moved hW.alike hK.1, wN.moved hW hK.2⟩⟩ rfl hn hl.1 hst (lv_room hsum) hd ⟨hc1, hc2⟩) hS hA hl kk
theorem kw_callV {k : Nat} {i : Int} {C : String} {ci N : Nat} {T : u_T} (hC : Cx E g cc own Ts nL rm) (hM : ∀ l, Kt l y ws rmc g S (vr g k i :: As) post) (hG : GoodIn Ts (wsV own index C y ws)) (hcx : ∃ fs, cx g k i (S k i) = .inr (ci, fs)) (hcl : vwCl[ci]? = some (C, T, N)) (h0 : 0 ≤ i) (h1 : i < cn k) (hw : ws = Cond.code y bytes maxL ret :: ws') (hrm : rmc.cells = 0 ∧ rmc.slots = 0) (n : Nat) (hy : y.cls = C ∧ y.cls ≠ "java/lang/invoke/MethodHandle" ∧ y.cls ≠ "java/lang/invoke/VarHandle" ∧ (parseMethodDescriptor y.desc).map (fun d => d.parameters.length) = some n) (hroom : rmc.frames + 1 ≤ rm.frames ∧ 8 + (maxL + 11) + rmc.locals ≤ rm.locals) (hn : As.length = n) (hst : stk = As.reverse ++ vr g k i :: st) (hsum : (st.map fun v => v.category).sum ≤ 8) (hd : decode cc pc = .ok (.invokevirtual index, 3)) (hq : pc + 3 = q)
    (kk : ∀ (v : Option Value) (S' : wSt), post v S' → Wk E g nL S' q lv (v.toList ++ st)) : Wk E g nL S pc lv stk := by
  obtain ⟨p, l, e, R, s, m, args, below, meth, c, A, H0, cells, slots, Q⟩ := E
  obtain ⟨hx, hb, hml, hown, hts, hK, hR, hD, hA, hc1, hc2⟩ := hC
  subst hq
  subst hR
  intro H locs ls hP hS hl
  obtain ⟨fs, hcx⟩ := hcx
  have hrecv := va_recv (q0 := 0) hK.1 (kw_1P hP h0 h1 hcx) hcl rfl
  refine kw_ran (a := (Value.ref (g.2.2 k i) :: As).toArray) (va_runV (C := C) (As := As) (rest := st) ⟨hx, hb, hml, hown, hts⟩ (hM l) (cwV n hts hG hw hrm.1 hrm.2 hy hroom) ⟨Kt_blind, hrecv, fun U hU hW => ⟨rfl, by rw [hU]; exact hP, va_K.moved hW.alike hK.1, wN.moved hW hK.2⟩⟩ rfl hn hl.1 hst (lv_room hsum) hd ⟨hc1, hc2⟩) hS hA hl kk
theorem kw_callSN {host : String} (hC : Cx E g cc own Ts nL rm) (hM : ∀ l, Kt l y ws rmc g S As post) (hnest : Cond.methodLinkNest own index y host ∈ nestX) (hstat : Cond.static y ∈ Ts) (hini : Cond.initialized y.cls ∈ Ts) (hG : GoodIn Ts ws) (hw : ws = Cond.code y bytes maxL ret :: ws') (hrm : rmc.cells = 0 ∧ rmc.slots = 0) (n : Nat) (hy : y.cls ≠ "java/lang/invoke/MethodHandle" ∧ y.cls ≠ "java/lang/invoke/VarHandle" ∧ (parseMethodDescriptor y.desc).map (fun d => d.parameters.length) = some n) (hroom : rmc.frames + 1 ≤ rm.frames ∧ 8 + (maxL + 11) + rmc.locals ≤ rm.locals) (hn : As.length = n) (hst : stk = As.reverse ++ st) (hsum : (st.map fun v => v.category).sum ≤ 8) (hd : decode cc pc = .ok (.invokestatic index, 3)) (hq : pc + 3 = q)
    (kk : ∀ (v : Option Value) (S' : wSt), post v S' → Wk E g nL S' q lv (v.toList ++ st)) : Wk E g nL S pc lv stk := by
  obtain ⟨p, l, e, R, s, m, args, below, meth, c, A, H0, cells, slots, Q⟩ := E
  obtain ⟨hx, hb, hml, hown, hts, hK, hR, hD, hA, hc1, hc2⟩ := hC
  subst hq
  subst hR
  intro H locs ls hP hS hl
  refine kw_ran (a := As.toArray) (va_runSN (As := As) (rest := st) ⟨hx, hb, hml, hown, hts⟩ (hM l) ⟨va_cnB n hts hG hw hrm.1 hrm.2 (hK.2 _ hnest) (hts _ hini) hy hroom, hts _ hstat, trivial⟩ ⟨Kt_blind, fun U hU hW => ⟨rfl, by rw [hU]; exact hP, va_K.moved hW.alike hK.1, wN.moved hW hK.2⟩⟩ rfl hn hl.1 hst (lv_room hsum) hd ⟨hc1, hc2⟩) hS hA hl kk
end KC
section KF
variable {E : wE} {g : wG} {cc : ByteArray} {own : String} {Ts : List Cond} {nL : Nat} {rm : Room} {S : wSt} {pc q idx : Nat} {lv : List (Nat × Value)} {st : List Value}
theorem kg_0_0 {i : Int} (hC : Cx E g cc own Ts nL rm) (hin : ∀ w ∈ wsX70, w ∈ Ts) (hl : Cond.fieldLink own idx "MirrorBench" "set" "LMirrorBench$Mirrors;" ∈ Ts) (hd : decode cc pc = .ok (.getfield idx, 3)) (hq : pc + 3 = q) (h0 : 0 ≤ i) (h1 : i < 1) (kk : Wk E g nL S q lv (vr g 3 16 :: st)) : Wk E g nL S pc lv (vr g 0 i :: st) :=
  kw_get (f := 0) hC hin (cx_0 g i (S 0 i)) rfl (by decide) hl rfl rfl h0 h1 hd hq kk
theorem kg_0_1 {i : Int} (hC : Cx E g cc own Ts nL rm) (hin : ∀ w ∈ wsX70, w ∈ Ts) (hl : Cond.fieldLink own idx "MirrorBench" "history" "LMirrorBench$History;" ∈ Ts) (hd : decode cc pc = .ok (.getfield idx, 3)) (hq : pc + 3 = q) (h0 : 0 ≤ i) (h1 : i < 1) (kk : Wk E g nL S q lv (vr g 8 0 :: st)) : Wk E g nL S pc lv (vr g 0 i :: st) :=
  kw_get (f := 1) hC hin (cx_0 g i (S 0 i)) rfl (by decide) hl rfl rfl h0 h1 hd hq kk
theorem kg_0_2 {i : Int} (hC : Cx E g cc own Ts nL rm) (hin : ∀ w ∈ wsX70, w ∈ Ts) (hl : Cond.fieldLink own idx "MirrorBench" "slots" "[LMirrorBench$Word;" ∈ Ts) (hd : decode cc pc = .ok (.getfield idx, 3)) (hq : pc + 3 = q) (h0 : 0 ≤ i) (h1 : i < 1) (kk : Wk E g nL S q lv (vr g 20 0 :: st)) : Wk E g nL S pc lv (vr g 0 i :: st) :=
  kw_get (f := 2) hC hin (cx_0 g i (S 0 i)) rfl (by decide) hl rfl rfl h0 h1 hd hq kk
theorem kg_0_3 {i : Int} (hC : Cx E g cc own Ts nL rm) (hin : ∀ w ∈ wsX70, w ∈ Ts) (hl : Cond.fieldLink own idx "MirrorBench" "leaves" "[LMirrorBench$Leaf;" ∈ Ts) (hd : decode cc pc = .ok (.getfield idx, 3)) (hq : pc + 3 = q) (h0 : 0 ≤ i) (h1 : i < 1) (kk : Wk E g nL S q lv (vr g 21 0 :: st)) : Wk E g nL S pc lv (vr g 0 i :: st) :=
  kw_get (f := 3) hC hin (cx_0 g i (S 0 i)) rfl (by decide) hl rfl rfl h0 h1 hd hq kk
theorem kg_0_4 {i : Int} (hC : Cx E g cc own Ts nL rm) (hin : ∀ w ∈ wsX70, w ∈ Ts) (hl : Cond.fieldLink own idx "MirrorBench" "shortener" "LMirrorBench$Shortener;" ∈ Ts) (hd : decode cc pc = .ok (.getfield idx, 3)) (hq : pc + 3 = q) (h0 : 0 ≤ i) (h1 : i < 1) (kk : Wk E g nL S q lv (vr g 10 0 :: st)) : Wk E g nL S pc lv (vr g 0 i :: st) :=
  kw_get (f := 4) hC hin (cx_0 g i (S 0 i)) rfl (by decide) hl rfl rfl h0 h1 hd hq kk
theorem kg_0_5 {i : Int} (hC : Cx E g cc own Ts nL rm) (hin : ∀ w ∈ wsX70, w ∈ Ts) (hl : Cond.fieldLink own idx "MirrorBench" "rootList" "LMirrorBench$RootList;" ∈ Ts) (hd : decode cc pc = .ok (.getfield idx, 3)) (hq : pc + 3 = q) (h0 : 0 ≤ i) (h1 : i < 1) (kk : Wk E g nL S q lv (vr g 12 0 :: st)) : Wk E g nL S pc lv (vr g 0 i :: st) :=
  kw_get (f := 5) hC hin (cx_0 g i (S 0 i)) rfl (by decide) hl rfl rfl h0 h1 hd hq kk
theorem kg_0_6 {i : Int} (hC : Cx E g cc own Ts nL rm) (hin : ∀ w ∈ wsX70, w ∈ Ts) (hl : Cond.fieldLink own idx "MirrorBench" "formList" "LMirrorBench$FormList;" ∈ Ts) (hd : decode cc pc = .ok (.getfield idx, 3)) (hq : pc + 3 = q) (h0 : 0 ≤ i) (h1 : i < 1) (kk : Wk E g nL S q lv (vr g 16 0 :: st)) : Wk E g nL S pc lv (vr g 0 i :: st) :=
  kw_get (f := 6) hC hin (cx_0 g i (S 0 i)) rfl (by decide) hl rfl rfl h0 h1 hd hq kk
theorem kg_0_7 {i : Int} (hC : Cx E g cc own Ts nL rm) (hin : ∀ w ∈ wsX70, w ∈ Ts) (hl : Cond.fieldLink own idx "MirrorBench" "made" "LMirrorBench$Word;" ∈ Ts) (hd : decode cc pc = .ok (.getfield idx, 3)) (hq : pc + 3 = q) (h0 : 0 ≤ i) (h1 : i < 1) (kk : Wk E g nL S q lv (vr g 1 8 :: st)) : Wk E g nL S pc lv (vr g 0 i :: st) :=
  kw_get (f := 7) hC hin (cx_0 g i (S 0 i)) rfl (by decide) hl rfl rfl h0 h1 hd hq kk
theorem kg_0_8 {i : Int} (hC : Cx E g cc own Ts nL rm) (hin : ∀ w ∈ wsX70, w ∈ Ts) (hl : Cond.fieldLink own idx "MirrorBench" "other" "LMirrorBench$Word;" ∈ Ts) (hd : decode cc pc = .ok (.getfield idx, 3)) (hq : pc + 3 = q) (h0 : 0 ≤ i) (h1 : i < 1) (kk : Wk E g nL S q lv (vr g 1 9 :: st)) : Wk E g nL S pc lv (vr g 0 i :: st) :=
  kw_get (f := 8) hC hin (cx_0 g i (S 0 i)) rfl (by decide) hl rfl rfl h0 h1 hd hq kk
theorem kg_0_9 {i : Int} (hC : Cx E g cc own Ts nL rm) (hin : ∀ w ∈ wsX70, w ∈ Ts) (hl : Cond.fieldLink own idx "MirrorBench" "joined" "LMirrorBench$Word;" ∈ Ts) (hd : decode cc pc = .ok (.getfield idx, 3)) (hq : pc + 3 = q) (h0 : 0 ≤ i) (h1 : i < 1) (kk : Wk E g nL S q lv (vr g 1 10 :: st)) : Wk E g nL S pc lv (vr g 0 i :: st) :=
  kw_get (f := 9) hC hin (cx_0 g i (S 0 i)) rfl (by decide) hl rfl rfl h0 h1 hd hq kk
theorem kg_0_10 {i : Int} (hC : Cx E g cc own Ts nL rm) (hin : ∀ w ∈ wsX70, w ∈ Ts) (hl : Cond.fieldLink own idx "MirrorBench" "spare" "[J" ∈ Ts) (hd : decode cc pc = .ok (.getfield idx, 3)) (hq : pc + 3 = q) (h0 : 0 ≤ i) (h1 : i < 1) (kk : Wk E g nL S q lv (vr g 22 0 :: st)) : Wk E g nL S pc lv (vr g 0 i :: st) :=
  kw_get (f := 10) hC hin (cx_0 g i (S 0 i)) rfl (by decide) hl rfl rfl h0 h1 hd hq kk
theorem kg_0_11 {i : Int} (hC : Cx E g cc own Ts nL rm) (hin : ∀ w ∈ wsX70, w ∈ Ts) (hl : Cond.fieldLink own idx "MirrorBench" "images" "[[J" ∈ Ts) (hd : decode cc pc = .ok (.getfield idx, 3)) (hq : pc + 3 = q) (h0 : 0 ≤ i) (h1 : i < 1) (kk : Wk E g nL S q lv (vr g 23 0 :: st)) : Wk E g nL S pc lv (vr g 0 i :: st) :=
  kw_get (f := 11) hC hin (cx_0 g i (S 0 i)) rfl (by decide) hl rfl rfl h0 h1 hd hq kk
theorem kg_1_0 {i : Int} (hC : Cx E g cc own Ts nL rm) (hin : ∀ w ∈ wsX60, w ∈ Ts) (hl : Cond.fieldLink own idx "MirrorBench$Word" "mirrors" "[I" ∈ Ts) (hd : decode cc pc = .ok (.getfield idx, 3)) (hq : pc + 3 = q) (h0 : 0 ≤ i) (h1 : i < 12) (kk : Wk E g nL S q lv (vr g 2 i :: st)) : Wk E g nL S pc lv (vr g 1 i :: st) :=
  kw_get (f := 0) hC hin (cx_1 g i (S 1 i)) rfl (by decide) hl rfl rfl h0 h1 hd hq kk
theorem kg_1_1 {i : Int} (hC : Cx E g cc own Ts nL rm) (hin : ∀ w ∈ wsX60, w ∈ Ts) (hl : Cond.fieldLink own idx "MirrorBench$Word" "length" "I" ∈ Ts) (hd : decode cc pc = .ok (.getfield idx, 3)) (hq : pc + 3 = q) (h0 : 0 ≤ i) (h1 : i < 12) (kk : Wk E g nL S q lv (vi (S 1 i 1) :: st)) : Wk E g nL S pc lv (vr g 1 i :: st) :=
  kw_get (f := 1) hC hin (cx_1 g i (S 1 i)) rfl (by decide) hl rfl rfl h0 h1 hd hq kk
theorem kp_1_1 {i z : Int} (hC : Cx E g cc own Ts nL rm) (hin : ∀ w ∈ wsX60, w ∈ Ts) (hl : Cond.fieldLink own idx "MirrorBench$Word" "length" "I" ∈ Ts) (hd : decode cc pc = .ok (.putfield idx, 3)) (hq : pc + 3 = q) (h0 : 0 ≤ i) (h1 : i < 12) (kk : Wk E g nL (ups S 1 i 1 z) q lv st) : Wk E g nL S pc lv (vi z :: vr g 1 i :: st) :=
  kw_put (f := 1) (ty := .int) (z := z) hC hin tyX6 tyX6_ok nmX6 (cx_1 g i (S 1 i)) rfl (by decide) hl rfl rfl (by decide +kernel) rfl rfl (Nat.le_of_ble_eq_true rfl) (by rw [cx_1]; simp [ups, List.set]) h0 h1 hd hq kk
theorem ka_2 {i z : Int} (hC : Cx E g cc own Ts nL rm) (hd : decode cc pc = .ok (.iaload, 1)) (hq : pc + 1 = q) (h0 : 0 ≤ i) (h1 : i < 12) (z0 : 0 ≤ z) (z1 : z < 100) (kk : Wk E g nL S q lv (vi (S 2 i z) :: st)) : Wk E g nL S pc lv (vi z :: vr g 2 i :: st) := kw_iald (n := 100) hC rfl (by decide) h0 h1 z0 z1 hd hq kk
theorem ks_2 {i z x : Int} (hC : Cx E g cc own Ts nL rm) (hd : decode cc pc = .ok (.iastore, 1)) (hq : pc + 1 = q) (h0 : 0 ≤ i) (h1 : i < 12) (z0 : 0 ≤ z) (z1 : z < 100) (kk : Wk E g nL (ups S 2 i z x) q lv st) : Wk E g nL S pc lv (vi x :: vi z :: vr g 2 i :: st) := kw_iast (n := 100) hC (fun _ => rfl) (by decide) h0 h1 z0 z1 hd hq kk
theorem kg_3_0 {i : Int} (hC : Cx E g cc own Ts nL rm) (hin : ∀ w ∈ wsX30, w ∈ Ts) (hl : Cond.fieldLink own idx "MirrorBench$Mirrors" "kinds" "[I" ∈ Ts) (hd : decode cc pc = .ok (.getfield idx, 3)) (hq : pc + 3 = q) (h0 : 0 ≤ i) (h1 : i < 17) (kk : Wk E g nL S q lv (vr g 4 i :: st)) : Wk E g nL S pc lv (vr g 3 i :: st) :=
  kw_get (f := 0) hC hin (cx_3 g i (S 3 i)) rfl (by decide) hl rfl rfl h0 h1 hd hq kk
theorem kg_3_1 {i : Int} (hC : Cx E g cc own Ts nL rm) (hin : ∀ w ∈ wsX30, w ∈ Ts) (hl : Cond.fieldLink own idx "MirrorBench$Mirrors" "numbers" "[I" ∈ Ts) (hd : decode cc pc = .ok (.getfield idx, 3)) (hq : pc + 3 = q) (h0 : 0 ≤ i) (h1 : i < 17) (kk : Wk E g nL S q lv (vr g 5 i :: st)) : Wk E g nL S pc lv (vr g 3 i :: st) :=
  kw_get (f := 1) hC hin (cx_3 g i (S 3 i)) rfl (by decide) hl rfl rfl h0 h1 hd hq kk
theorem kg_3_2 {i : Int} (hC : Cx E g cc own Ts nL rm) (hin : ∀ w ∈ wsX30, w ∈ Ts) (hl : Cond.fieldLink own idx "MirrorBench$Mirrors" "size" "I" ∈ Ts) (hd : decode cc pc = .ok (.getfield idx, 3)) (hq : pc + 3 = q) (h0 : 0 ≤ i) (h1 : i < 17) (kk : Wk E g nL S q lv (vi (S 3 i 2) :: st)) : Wk E g nL S pc lv (vr g 3 i :: st) :=
  kw_get (f := 2) hC hin (cx_3 g i (S 3 i)) rfl (by decide) hl rfl rfl h0 h1 hd hq kk
theorem kp_3_2 {i z : Int} (hC : Cx E g cc own Ts nL rm) (hin : ∀ w ∈ wsX30, w ∈ Ts) (hl : Cond.fieldLink own idx "MirrorBench$Mirrors" "size" "I" ∈ Ts) (hd : decode cc pc = .ok (.putfield idx, 3)) (hq : pc + 3 = q) (h0 : 0 ≤ i) (h1 : i < 17) (kk : Wk E g nL (ups S 3 i 2 z) q lv st) : Wk E g nL S pc lv (vi z :: vr g 3 i :: st) :=
  kw_put (f := 2) (ty := .int) (z := z) hC hin tyX3 tyX3_ok nmX3 (cx_3 g i (S 3 i)) rfl (by decide) hl rfl rfl (by decide +kernel) rfl rfl (Nat.le_of_ble_eq_true rfl) (by rw [cx_3]; simp [ups, List.set]) h0 h1 hd hq kk
theorem ka_4 {i z : Int} (hC : Cx E g cc own Ts nL rm) (hd : decode cc pc = .ok (.iaload, 1)) (hq : pc + 1 = q) (h0 : 0 ≤ i) (h1 : i < 17) (z0 : 0 ≤ z) (z1 : z < 6) (kk : Wk E g nL S q lv (vi (S 4 i z) :: st)) : Wk E g nL S pc lv (vi z :: vr g 4 i :: st) := kw_iald (n := 6) hC rfl (by decide) h0 h1 z0 z1 hd hq kk
theorem ks_4 {i z x : Int} (hC : Cx E g cc own Ts nL rm) (hd : decode cc pc = .ok (.iastore, 1)) (hq : pc + 1 = q) (h0 : 0 ≤ i) (h1 : i < 17) (z0 : 0 ≤ z) (z1 : z < 6) (kk : Wk E g nL (ups S 4 i z x) q lv st) : Wk E g nL S pc lv (vi x :: vi z :: vr g 4 i :: st) := kw_iast (n := 6) hC (fun _ => rfl) (by decide) h0 h1 z0 z1 hd hq kk
theorem ka_5 {i z : Int} (hC : Cx E g cc own Ts nL rm) (hd : decode cc pc = .ok (.iaload, 1)) (hq : pc + 1 = q) (h0 : 0 ≤ i) (h1 : i < 17) (z0 : 0 ≤ z) (z1 : z < 36) (kk : Wk E g nL S q lv (vi (S 5 i z) :: st)) : Wk E g nL S pc lv (vi z :: vr g 5 i :: st) := kw_iald (n := 36) hC rfl (by decide) h0 h1 z0 z1 hd hq kk
theorem ks_5 {i z x : Int} (hC : Cx E g cc own Ts nL rm) (hd : decode cc pc = .ok (.iastore, 1)) (hq : pc + 1 = q) (h0 : 0 ≤ i) (h1 : i < 17) (z0 : 0 ≤ z) (z1 : z < 36) (kk : Wk E g nL (ups S 5 i z x) q lv st) : Wk E g nL S pc lv (vi x :: vi z :: vr g 5 i :: st) := kw_iast (n := 36) hC (fun _ => rfl) (by decide) h0 h1 z0 z1 hd hq kk
theorem kg_6_0 {i : Int} (hC : Cx E g cc own Ts nL rm) (hin : ∀ w ∈ wsX20, w ∈ Ts) (hl : Cond.fieldLink own idx "MirrorBench$Leaf" "items" "[J" ∈ Ts) (hd : decode cc pc = .ok (.getfield idx, 3)) (hq : pc + 3 = q) (h0 : 0 ≤ i) (h1 : i < 4) (kk : Wk E g nL S q lv (vr g 7 i :: st)) : Wk E g nL S pc lv (vr g 6 i :: st) :=
  kw_get (f := 0) hC hin (cx_6 g i (S 6 i)) rfl (by decide) hl rfl rfl h0 h1 hd hq kk
theorem kg_6_1 {i : Int} (hC : Cx E g cc own Ts nL rm) (hin : ∀ w ∈ wsX20, w ∈ Ts) (hl : Cond.fieldLink own idx "MirrorBench$Leaf" "held" "Z" ∈ Ts) (hd : decode cc pc = .ok (.getfield idx, 3)) (hq : pc + 3 = q) (h0 : 0 ≤ i) (h1 : i < 4) (kk : Wk E g nL S q lv (vi (S 6 i 1) :: st)) : Wk E g nL S pc lv (vr g 6 i :: st) :=
  kw_get (f := 1) hC hin (cx_6 g i (S 6 i)) rfl (by decide) hl rfl rfl h0 h1 hd hq kk
theorem kp_6_1 {i z : Int} (hC : Cx E g cc own Ts nL rm) (hin : ∀ w ∈ wsX20, w ∈ Ts) (hl : Cond.fieldLink own idx "MirrorBench$Leaf" "held" "Z" ∈ Ts) (hd : decode cc pc = .ok (.putfield idx, 3)) (hq : pc + 3 = q) (h0 : 0 ≤ i) (h1 : i < 4) (hz : z = 0 ∨ z = 1) (kk : Wk E g nL (ups S 6 i 1 z) q lv st) : Wk E g nL S pc lv (vi z :: vr g 6 i :: st) :=
  kw_put (f := 1) (ty := .boolean) (z := z) hC hin tyX2 tyX2_ok nmX2 (cx_6 g i (S 6 i)) rfl (by decide) hl rfl rfl (by decide +kernel) (by rcases hz with rfl | rfl <;> rfl) (by rcases hz with rfl | rfl <;> rfl) (Nat.le_of_ble_eq_true rfl) (by rw [cx_6]; simp [ups, List.set]) h0 h1 hd hq kk
theorem kg_6_2 {i : Int} (hC : Cx E g cc own Ts nL rm) (hin : ∀ w ∈ wsX20, w ∈ Ts) (hl : Cond.fieldLink own idx "MirrorBench$Leaf" "lane" "I" ∈ Ts) (hd : decode cc pc = .ok (.getfield idx, 3)) (hq : pc + 3 = q) (h0 : 0 ≤ i) (h1 : i < 4) (kk : Wk E g nL S q lv (vi (S 6 i 2) :: st)) : Wk E g nL S pc lv (vr g 6 i :: st) :=
  kw_get (f := 2) hC hin (cx_6 g i (S 6 i)) rfl (by decide) hl rfl rfl h0 h1 hd hq kk
theorem kp_6_2 {i z : Int} (hC : Cx E g cc own Ts nL rm) (hin : ∀ w ∈ wsX20, w ∈ Ts) (hl : Cond.fieldLink own idx "MirrorBench$Leaf" "lane" "I" ∈ Ts) (hd : decode cc pc = .ok (.putfield idx, 3)) (hq : pc + 3 = q) (h0 : 0 ≤ i) (h1 : i < 4) (kk : Wk E g nL (ups S 6 i 2 z) q lv st) : Wk E g nL S pc lv (vi z :: vr g 6 i :: st) :=
  kw_put (f := 2) (ty := .int) (z := z) hC hin tyX2 tyX2_ok nmX2 (cx_6 g i (S 6 i)) rfl (by decide) hl rfl rfl (by decide +kernel) rfl rfl (Nat.le_of_ble_eq_true rfl) (by rw [cx_6]; simp [ups, List.set]) h0 h1 hd hq kk
theorem kg_6_3 {i : Int} (hC : Cx E g cc own Ts nL rm) (hin : ∀ w ∈ wsX20, w ∈ Ts) (hl : Cond.fieldLink own idx "MirrorBench$Leaf" "length" "I" ∈ Ts) (hd : decode cc pc = .ok (.getfield idx, 3)) (hq : pc + 3 = q) (h0 : 0 ≤ i) (h1 : i < 4) (kk : Wk E g nL S q lv (vi (S 6 i 3) :: st)) : Wk E g nL S pc lv (vr g 6 i :: st) :=
  kw_get (f := 3) hC hin (cx_6 g i (S 6 i)) rfl (by decide) hl rfl rfl h0 h1 hd hq kk
theorem kp_6_3 {i z : Int} (hC : Cx E g cc own Ts nL rm) (hin : ∀ w ∈ wsX20, w ∈ Ts) (hl : Cond.fieldLink own idx "MirrorBench$Leaf" "length" "I" ∈ Ts) (hd : decode cc pc = .ok (.putfield idx, 3)) (hq : pc + 3 = q) (h0 : 0 ≤ i) (h1 : i < 4) (kk : Wk E g nL (ups S 6 i 3 z) q lv st) : Wk E g nL S pc lv (vi z :: vr g 6 i :: st) :=
  kw_put (f := 3) (ty := .int) (z := z) hC hin tyX2 tyX2_ok nmX2 (cx_6 g i (S 6 i)) rfl (by decide) hl rfl rfl (by decide +kernel) rfl rfl (Nat.le_of_ble_eq_true rfl) (by rw [cx_6]; simp [ups, List.set]) h0 h1 hd hq kk
theorem ka_7 {i z : Int} (hC : Cx E g cc own Ts nL rm) (hd : decode cc pc = .ok (.laload, 1)) (hq : pc + 1 = q) (h0 : 0 ≤ i) (h1 : i < 4) (z0 : 0 ≤ z) (z1 : z < 40) (kk : Wk E g nL S q lv (vl (S 7 i z) :: st)) : Wk E g nL S pc lv (vi z :: vr g 7 i :: st) := kw_lald (n := 40) hC rfl (by decide) h0 h1 z0 z1 hd hq kk
theorem ks_7 {i z x : Int} (hC : Cx E g cc own Ts nL rm) (hd : decode cc pc = .ok (.lastore, 1)) (hq : pc + 1 = q) (h0 : 0 ≤ i) (h1 : i < 4) (z0 : 0 ≤ z) (z1 : z < 40) (kk : Wk E g nL (ups S 7 i z x) q lv st) : Wk E g nL S pc lv (vl x :: vi z :: vr g 7 i :: st) := kw_last (n := 40) hC (fun _ => rfl) (by decide) h0 h1 z0 z1 hd hq kk
theorem kg_8_0 {i : Int} (hC : Cx E g cc own Ts nL rm) (hin : ∀ w ∈ wsX10, w ∈ Ts) (hl : Cond.fieldLink own idx "MirrorBench$History" "kept" "[LMirrorBench$Mirrors;" ∈ Ts) (hd : decode cc pc = .ok (.getfield idx, 3)) (hq : pc + 3 = q) (h0 : 0 ≤ i) (h1 : i < 1) (kk : Wk E g nL S q lv (vr g 9 0 :: st)) : Wk E g nL S pc lv (vr g 8 i :: st) :=
  kw_get (f := 0) hC hin (cx_8 g i (S 8 i)) rfl (by decide) hl rfl rfl h0 h1 hd hq kk
theorem kg_8_1 {i : Int} (hC : Cx E g cc own Ts nL rm) (hin : ∀ w ∈ wsX10, w ∈ Ts) (hl : Cond.fieldLink own idx "MirrorBench$History" "after" "I" ∈ Ts) (hd : decode cc pc = .ok (.getfield idx, 3)) (hq : pc + 3 = q) (h0 : 0 ≤ i) (h1 : i < 1) (kk : Wk E g nL S q lv (vi (S 8 i 1) :: st)) : Wk E g nL S pc lv (vr g 8 i :: st) :=
  kw_get (f := 1) hC hin (cx_8 g i (S 8 i)) rfl (by decide) hl rfl rfl h0 h1 hd hq kk
theorem kp_8_1 {i z : Int} (hC : Cx E g cc own Ts nL rm) (hin : ∀ w ∈ wsX10, w ∈ Ts) (hl : Cond.fieldLink own idx "MirrorBench$History" "after" "I" ∈ Ts) (hd : decode cc pc = .ok (.putfield idx, 3)) (hq : pc + 3 = q) (h0 : 0 ≤ i) (h1 : i < 1) (kk : Wk E g nL (ups S 8 i 1 z) q lv st) : Wk E g nL S pc lv (vi z :: vr g 8 i :: st) :=
  kw_put (f := 1) (ty := .int) (z := z) hC hin tyX1 tyX1_ok nmX1 (cx_8 g i (S 8 i)) rfl (by decide) hl rfl rfl (by decide +kernel) rfl rfl (Nat.le_of_ble_eq_true rfl) (by rw [cx_8]; simp [ups, List.set]) h0 h1 hd hq kk
theorem kg_8_2 {i : Int} (hC : Cx E g cc own Ts nL rm) (hin : ∀ w ∈ wsX10, w ∈ Ts) (hl : Cond.fieldLink own idx "MirrorBench$History" "steps" "I" ∈ Ts) (hd : decode cc pc = .ok (.getfield idx, 3)) (hq : pc + 3 = q) (h0 : 0 ≤ i) (h1 : i < 1) (kk : Wk E g nL S q lv (vi (S 8 i 2) :: st)) : Wk E g nL S pc lv (vr g 8 i :: st) :=
  kw_get (f := 2) hC hin (cx_8 g i (S 8 i)) rfl (by decide) hl rfl rfl h0 h1 hd hq kk
theorem kp_8_2 {i z : Int} (hC : Cx E g cc own Ts nL rm) (hin : ∀ w ∈ wsX10, w ∈ Ts) (hl : Cond.fieldLink own idx "MirrorBench$History" "steps" "I" ∈ Ts) (hd : decode cc pc = .ok (.putfield idx, 3)) (hq : pc + 3 = q) (h0 : 0 ≤ i) (h1 : i < 1) (kk : Wk E g nL (ups S 8 i 2 z) q lv st) : Wk E g nL S pc lv (vi z :: vr g 8 i :: st) :=
  kw_put (f := 2) (ty := .int) (z := z) hC hin tyX1 tyX1_ok nmX1 (cx_8 g i (S 8 i)) rfl (by decide) hl rfl rfl (by decide +kernel) rfl rfl (Nat.le_of_ble_eq_true rfl) (by rw [cx_8]; simp [ups, List.set]) h0 h1 hd hq kk
theorem ka_9 {i z : Int} (hC : Cx E g cc own Ts nL rm) (hd : decode cc pc = .ok (.aaload, 1)) (hq : pc + 1 = q) (h0 : 0 ≤ i) (h1 : i < 1) (z0 : 0 ≤ z) (z1 : z < 16) (kk : Wk E g nL S q lv (vr g 3 z :: st)) : Wk E g nL S pc lv (vi z :: vr g 9 i :: st) := kw_aald (n := 16) (t := 4) hC rfl rfl rfl (by decide) h0 h1 z0 z1 hd hq kk
theorem kg_10_0 {i : Int} (hC : Cx E g cc own Ts nL rm) (hin : ∀ w ∈ wsX50, w ∈ Ts) (hl : Cond.fieldLink own idx "MirrorBench$Shortener" "set" "LMirrorBench$Mirrors;" ∈ Ts) (hd : decode cc pc = .ok (.getfield idx, 3)) (hq : pc + 3 = q) (h0 : 0 ≤ i) (h1 : i < 1) (kk : Wk E g nL S q lv (vr g 3 16 :: st)) : Wk E g nL S pc lv (vr g 10 i :: st) :=
  kw_get (f := 0) hC hin (cx_10 g i (S 10 i)) rfl (by decide) hl rfl rfl h0 h1 hd hq kk
theorem kg_10_1 {i : Int} (hC : Cx E g cc own Ts nL rm) (hin : ∀ w ∈ wsX50, w ∈ Ts) (hl : Cond.fieldLink own idx "MirrorBench$Shortener" "root" "[J" ∈ Ts) (hd : decode cc pc = .ok (.getfield idx, 3)) (hq : pc + 3 = q) (h0 : 0 ≤ i) (h1 : i < 1) (kk : Wk E g nL S q lv (vr g 11 0 :: st)) : Wk E g nL S pc lv (vr g 10 i :: st) :=
  kw_get (f := 1) hC hin (cx_10 g i (S 10 i)) rfl (by decide) hl rfl rfl h0 h1 hd hq kk
theorem kg_10_2 {i : Int} (hC : Cx E g cc own Ts nL rm) (hin : ∀ w ∈ wsX50, w ∈ Ts) (hl : Cond.fieldLink own idx "MirrorBench$Shortener" "rest" "LMirrorBench$Word;" ∈ Ts) (hd : decode cc pc = .ok (.getfield idx, 3)) (hq : pc + 3 = q) (h0 : 0 ≤ i) (h1 : i < 1) (kk : Wk E g nL S q lv (vr g 1 11 :: st)) : Wk E g nL S pc lv (vr g 10 i :: st) :=
  kw_get (f := 2) hC hin (cx_10 g i (S 10 i)) rfl (by decide) hl rfl rfl h0 h1 hd hq kk
theorem ka_11 {i z : Int} (hC : Cx E g cc own Ts nL rm) (hd : decode cc pc = .ok (.laload, 1)) (hq : pc + 1 = q) (h0 : 0 ≤ i) (h1 : i < 1) (z0 : 0 ≤ z) (z1 : z < 6) (kk : Wk E g nL S q lv (vl (S 11 i z) :: st)) : Wk E g nL S pc lv (vi z :: vr g 11 i :: st) := kw_lald (n := 6) hC rfl (by decide) h0 h1 z0 z1 hd hq kk
theorem ks_11 {i z x : Int} (hC : Cx E g cc own Ts nL rm) (hd : decode cc pc = .ok (.lastore, 1)) (hq : pc + 1 = q) (h0 : 0 ≤ i) (h1 : i < 1) (z0 : 0 ≤ z) (z1 : z < 6) (kk : Wk E g nL (ups S 11 i z x) q lv st) : Wk E g nL S pc lv (vl x :: vi z :: vr g 11 i :: st) := kw_last (n := 6) hC (fun _ => rfl) (by decide) h0 h1 z0 z1 hd hq kk
theorem kg_12_0 {i : Int} (hC : Cx E g cc own Ts nL rm) (hin : ∀ w ∈ wsX40, w ∈ Ts) (hl : Cond.fieldLink own idx "MirrorBench$RootList" "set" "LMirrorBench$Mirrors;" ∈ Ts) (hd : decode cc pc = .ok (.getfield idx, 3)) (hq : pc + 3 = q) (h0 : 0 ≤ i) (h1 : i < 1) (kk : Wk E g nL S q lv (vr g 3 16 :: st)) : Wk E g nL S pc lv (vr g 12 i :: st) :=
  kw_get (f := 0) hC hin (cx_12 g i (S 12 i)) rfl (by decide) hl rfl rfl h0 h1 hd hq kk
theorem kg_12_1 {i : Int} (hC : Cx E g cc own Ts nL rm) (hin : ∀ w ∈ wsX40, w ∈ Ts) (hl : Cond.fieldLink own idx "MirrorBench$RootList" "keys" "[J" ∈ Ts) (hd : decode cc pc = .ok (.getfield idx, 3)) (hq : pc + 3 = q) (h0 : 0 ≤ i) (h1 : i < 1) (kk : Wk E g nL S q lv (vr g 13 0 :: st)) : Wk E g nL S pc lv (vr g 12 i :: st) :=
  kw_get (f := 1) hC hin (cx_12 g i (S 12 i)) rfl (by decide) hl rfl rfl h0 h1 hd hq kk
theorem kg_12_2 {i : Int} (hC : Cx E g cc own Ts nL rm) (hin : ∀ w ∈ wsX40, w ∈ Ts) (hl : Cond.fieldLink own idx "MirrorBench$RootList" "ups" "[J" ∈ Ts) (hd : decode cc pc = .ok (.getfield idx, 3)) (hq : pc + 3 = q) (h0 : 0 ≤ i) (h1 : i < 1) (kk : Wk E g nL S q lv (vr g 14 0 :: st)) : Wk E g nL S pc lv (vr g 12 i :: st) :=
  kw_get (f := 2) hC hin (cx_12 g i (S 12 i)) rfl (by decide) hl rfl rfl h0 h1 hd hq kk
theorem kg_12_3 {i : Int} (hC : Cx E g cc own Ts nL rm) (hin : ∀ w ∈ wsX40, w ∈ Ts) (hl : Cond.fieldLink own idx "MirrorBench$RootList" "firsts" "[I" ∈ Ts) (hd : decode cc pc = .ok (.getfield idx, 3)) (hq : pc + 3 = q) (h0 : 0 ≤ i) (h1 : i < 1) (kk : Wk E g nL S q lv (vr g 15 0 :: st)) : Wk E g nL S pc lv (vr g 12 i :: st) :=
  kw_get (f := 3) hC hin (cx_12 g i (S 12 i)) rfl (by decide) hl rfl rfl h0 h1 hd hq kk
theorem kg_12_4 {i : Int} (hC : Cx E g cc own Ts nL rm) (hin : ∀ w ∈ wsX40, w ∈ Ts) (hl : Cond.fieldLink own idx "MirrorBench$RootList" "height" "I" ∈ Ts) (hd : decode cc pc = .ok (.getfield idx, 3)) (hq : pc + 3 = q) (h0 : 0 ≤ i) (h1 : i < 1) (kk : Wk E g nL S q lv (vi (S 12 i 4) :: st)) : Wk E g nL S pc lv (vr g 12 i :: st) :=
  kw_get (f := 4) hC hin (cx_12 g i (S 12 i)) rfl (by decide) hl rfl rfl h0 h1 hd hq kk
theorem kp_12_4 {i z : Int} (hC : Cx E g cc own Ts nL rm) (hin : ∀ w ∈ wsX40, w ∈ Ts) (hl : Cond.fieldLink own idx "MirrorBench$RootList" "height" "I" ∈ Ts) (hd : decode cc pc = .ok (.putfield idx, 3)) (hq : pc + 3 = q) (h0 : 0 ≤ i) (h1 : i < 1) (kk : Wk E g nL (ups S 12 i 4 z) q lv st) : Wk E g nL S pc lv (vi z :: vr g 12 i :: st) :=
  kw_put (f := 4) (ty := .int) (z := z) hC hin tyX4 tyX4_ok nmX4 (cx_12 g i (S 12 i)) rfl (by decide) hl rfl rfl (by decide +kernel) rfl rfl (Nat.le_of_ble_eq_true rfl) (by rw [cx_12]; simp [ups, List.set]) h0 h1 hd hq kk
theorem kg_12_5 {i : Int} (hC : Cx E g cc own Ts nL rm) (hin : ∀ w ∈ wsX40, w ∈ Ts) (hl : Cond.fieldLink own idx "MirrorBench$RootList" "full" "Z" ∈ Ts) (hd : decode cc pc = .ok (.getfield idx, 3)) (hq : pc + 3 = q) (h0 : 0 ≤ i) (h1 : i < 1) (kk : Wk E g nL S q lv (vi (S 12 i 5) :: st)) : Wk E g nL S pc lv (vr g 12 i :: st) :=
  kw_get (f := 5) hC hin (cx_12 g i (S 12 i)) rfl (by decide) hl rfl rfl h0 h1 hd hq kk
theorem kp_12_5 {i z : Int} (hC : Cx E g cc own Ts nL rm) (hin : ∀ w ∈ wsX40, w ∈ Ts) (hl : Cond.fieldLink own idx "MirrorBench$RootList" "full" "Z" ∈ Ts) (hd : decode cc pc = .ok (.putfield idx, 3)) (hq : pc + 3 = q) (h0 : 0 ≤ i) (h1 : i < 1) (hz : z = 0 ∨ z = 1) (kk : Wk E g nL (ups S 12 i 5 z) q lv st) : Wk E g nL S pc lv (vi z :: vr g 12 i :: st) :=
  kw_put (f := 5) (ty := .boolean) (z := z) hC hin tyX4 tyX4_ok nmX4 (cx_12 g i (S 12 i)) rfl (by decide) hl rfl rfl (by decide +kernel) (by rcases hz with rfl | rfl <;> rfl) (by rcases hz with rfl | rfl <;> rfl) (Nat.le_of_ble_eq_true rfl) (by rw [cx_12]; simp [ups, List.set]) h0 h1 hd hq kk
theorem ka_13 {i z : Int} (hC : Cx E g cc own Ts nL rm) (hd : decode cc pc = .ok (.laload, 1)) (hq : pc + 1 = q) (h0 : 0 ≤ i) (h1 : i < 1) (z0 : 0 ≤ z) (z1 : z < 400) (kk : Wk E g nL S q lv (vl (S 13 i z) :: st)) : Wk E g nL S pc lv (vi z :: vr g 13 i :: st) := kw_lald (n := 400) hC rfl (by decide) h0 h1 z0 z1 hd hq kk
theorem ks_13 {i z x : Int} (hC : Cx E g cc own Ts nL rm) (hd : decode cc pc = .ok (.lastore, 1)) (hq : pc + 1 = q) (h0 : 0 ≤ i) (h1 : i < 1) (z0 : 0 ≤ z) (z1 : z < 400) (kk : Wk E g nL (ups S 13 i z x) q lv st) : Wk E g nL S pc lv (vl x :: vi z :: vr g 13 i :: st) := kw_last (n := 400) hC (fun _ => rfl) (by decide) h0 h1 z0 z1 hd hq kk
theorem ka_14 {i z : Int} (hC : Cx E g cc own Ts nL rm) (hd : decode cc pc = .ok (.laload, 1)) (hq : pc + 1 = q) (h0 : 0 ≤ i) (h1 : i < 1) (z0 : 0 ≤ z) (z1 : z < 400) (kk : Wk E g nL S q lv (vl (S 14 i z) :: st)) : Wk E g nL S pc lv (vi z :: vr g 14 i :: st) := kw_lald (n := 400) hC rfl (by decide) h0 h1 z0 z1 hd hq kk
theorem ks_14 {i z x : Int} (hC : Cx E g cc own Ts nL rm) (hd : decode cc pc = .ok (.lastore, 1)) (hq : pc + 1 = q) (h0 : 0 ≤ i) (h1 : i < 1) (z0 : 0 ≤ z) (z1 : z < 400) (kk : Wk E g nL (ups S 14 i z x) q lv st) : Wk E g nL S pc lv (vl x :: vi z :: vr g 14 i :: st) := kw_last (n := 400) hC (fun _ => rfl) (by decide) h0 h1 z0 z1 hd hq kk
theorem ka_15 {i z : Int} (hC : Cx E g cc own Ts nL rm) (hd : decode cc pc = .ok (.iaload, 1)) (hq : pc + 1 = q) (h0 : 0 ≤ i) (h1 : i < 1) (z0 : 0 ≤ z) (z1 : z < 42) (kk : Wk E g nL S q lv (vi (S 15 i z) :: st)) : Wk E g nL S pc lv (vi z :: vr g 15 i :: st) := kw_iald (n := 42) hC rfl (by decide) h0 h1 z0 z1 hd hq kk
theorem ks_15 {i z x : Int} (hC : Cx E g cc own Ts nL rm) (hd : decode cc pc = .ok (.iastore, 1)) (hq : pc + 1 = q) (h0 : 0 ≤ i) (h1 : i < 1) (z0 : 0 ≤ z) (z1 : z < 42) (kk : Wk E g nL (ups S 15 i z x) q lv st) : Wk E g nL S pc lv (vi x :: vi z :: vr g 15 i :: st) := kw_iast (n := 42) hC (fun _ => rfl) (by decide) h0 h1 z0 z1 hd hq kk
theorem kg_16_0 {i : Int} (hC : Cx E g cc own Ts nL rm) (hin : ∀ w ∈ wsX00, w ∈ Ts) (hl : Cond.fieldLink own idx "MirrorBench$FormList" "set" "LMirrorBench$Mirrors;" ∈ Ts) (hd : decode cc pc = .ok (.getfield idx, 3)) (hq : pc + 3 = q) (h0 : 0 ≤ i) (h1 : i < 1) (kk : Wk E g nL S q lv (vr g 3 16 :: st)) : Wk E g nL S pc lv (vr g 16 i :: st) :=
  kw_get (f := 0) hC hin (cx_16 g i (S 16 i)) rfl (by decide) hl rfl rfl h0 h1 hd hq kk
theorem kg_16_1 {i : Int} (hC : Cx E g cc own Ts nL rm) (hin : ∀ w ∈ wsX00, w ∈ Ts) (hl : Cond.fieldLink own idx "MirrorBench$FormList" "codes" "[I" ∈ Ts) (hd : decode cc pc = .ok (.getfield idx, 3)) (hq : pc + 3 = q) (h0 : 0 ≤ i) (h1 : i < 1) (kk : Wk E g nL S q lv (vr g 17 0 :: st)) : Wk E g nL S pc lv (vr g 16 i :: st) :=
  kw_get (f := 1) hC hin (cx_16 g i (S 16 i)) rfl (by decide) hl rfl rfl h0 h1 hd hq kk
theorem kg_16_2 {i : Int} (hC : Cx E g cc own Ts nL rm) (hin : ∀ w ∈ wsX00, w ∈ Ts) (hl : Cond.fieldLink own idx "MirrorBench$FormList" "counts" "[I" ∈ Ts) (hd : decode cc pc = .ok (.getfield idx, 3)) (hq : pc + 3 = q) (h0 : 0 ≤ i) (h1 : i < 1) (kk : Wk E g nL S q lv (vr g 18 0 :: st)) : Wk E g nL S pc lv (vr g 16 i :: st) :=
  kw_get (f := 2) hC hin (cx_16 g i (S 16 i)) rfl (by decide) hl rfl rfl h0 h1 hd hq kk
theorem kg_16_3 {i : Int} (hC : Cx E g cc own Ts nL rm) (hin : ∀ w ∈ wsX00, w ∈ Ts) (hl : Cond.fieldLink own idx "MirrorBench$FormList" "root" "[J" ∈ Ts) (hd : decode cc pc = .ok (.getfield idx, 3)) (hq : pc + 3 = q) (h0 : 0 ≤ i) (h1 : i < 1) (kk : Wk E g nL S q lv (vr g 19 0 :: st)) : Wk E g nL S pc lv (vr g 16 i :: st) :=
  kw_get (f := 3) hC hin (cx_16 g i (S 16 i)) rfl (by decide) hl rfl rfl h0 h1 hd hq kk
theorem kg_16_4 {i : Int} (hC : Cx E g cc own Ts nL rm) (hin : ∀ w ∈ wsX00, w ∈ Ts) (hl : Cond.fieldLink own idx "MirrorBench$FormList" "length" "I" ∈ Ts) (hd : decode cc pc = .ok (.getfield idx, 3)) (hq : pc + 3 = q) (h0 : 0 ≤ i) (h1 : i < 1) (kk : Wk E g nL S q lv (vi (S 16 i 4) :: st)) : Wk E g nL S pc lv (vr g 16 i :: st) :=
  kw_get (f := 4) hC hin (cx_16 g i (S 16 i)) rfl (by decide) hl rfl rfl h0 h1 hd hq kk
theorem kp_16_4 {i z : Int} (hC : Cx E g cc own Ts nL rm) (hin : ∀ w ∈ wsX00, w ∈ Ts) (hl : Cond.fieldLink own idx "MirrorBench$FormList" "length" "I" ∈ Ts) (hd : decode cc pc = .ok (.putfield idx, 3)) (hq : pc + 3 = q) (h0 : 0 ≤ i) (h1 : i < 1) (kk : Wk E g nL (ups S 16 i 4 z) q lv st) : Wk E g nL S pc lv (vi z :: vr g 16 i :: st) :=
  kw_put (f := 4) (ty := .int) (z := z) hC hin tyX0 tyX0_ok nmX0 (cx_16 g i (S 16 i)) rfl (by decide) hl rfl rfl (by decide +kernel) rfl rfl (Nat.le_of_ble_eq_true rfl) (by rw [cx_16]; simp [ups, List.set]) h0 h1 hd hq kk
theorem kg_16_5 {i : Int} (hC : Cx E g cc own Ts nL rm) (hin : ∀ w ∈ wsX00, w ∈ Ts) (hl : Cond.fieldLink own idx "MirrorBench$FormList" "full" "Z" ∈ Ts) (hd : decode cc pc = .ok (.getfield idx, 3)) (hq : pc + 3 = q) (h0 : 0 ≤ i) (h1 : i < 1) (kk : Wk E g nL S q lv (vi (S 16 i 5) :: st)) : Wk E g nL S pc lv (vr g 16 i :: st) :=
  kw_get (f := 5) hC hin (cx_16 g i (S 16 i)) rfl (by decide) hl rfl rfl h0 h1 hd hq kk
theorem kp_16_5 {i z : Int} (hC : Cx E g cc own Ts nL rm) (hin : ∀ w ∈ wsX00, w ∈ Ts) (hl : Cond.fieldLink own idx "MirrorBench$FormList" "full" "Z" ∈ Ts) (hd : decode cc pc = .ok (.putfield idx, 3)) (hq : pc + 3 = q) (h0 : 0 ≤ i) (h1 : i < 1) (hz : z = 0 ∨ z = 1) (kk : Wk E g nL (ups S 16 i 5 z) q lv st) : Wk E g nL S pc lv (vi z :: vr g 16 i :: st) :=
  kw_put (f := 5) (ty := .boolean) (z := z) hC hin tyX0 tyX0_ok nmX0 (cx_16 g i (S 16 i)) rfl (by decide) hl rfl rfl (by decide +kernel) (by rcases hz with rfl | rfl <;> rfl) (by rcases hz with rfl | rfl <;> rfl) (Nat.le_of_ble_eq_true rfl) (by rw [cx_16]; simp [ups, List.set]) h0 h1 hd hq kk
theorem ka_17 {i z : Int} (hC : Cx E g cc own Ts nL rm) (hd : decode cc pc = .ok (.iaload, 1)) (hq : pc + 1 = q) (h0 : 0 ≤ i) (h1 : i < 1) (z0 : 0 ≤ z) (z1 : z < 3600) (kk : Wk E g nL S q lv (vi (S 17 i z) :: st)) : Wk E g nL S pc lv (vi z :: vr g 17 i :: st) := kw_iald (n := 3600) hC rfl (by decide) h0 h1 z0 z1 hd hq kk
theorem ks_17 {i z x : Int} (hC : Cx E g cc own Ts nL rm) (hd : decode cc pc = .ok (.iastore, 1)) (hq : pc + 1 = q) (h0 : 0 ≤ i) (h1 : i < 1) (z0 : 0 ≤ z) (z1 : z < 3600) (kk : Wk E g nL (ups S 17 i z x) q lv st) : Wk E g nL S pc lv (vi x :: vi z :: vr g 17 i :: st) := kw_iast (n := 3600) hC (fun _ => rfl) (by decide) h0 h1 z0 z1 hd hq kk
theorem ka_18 {i z : Int} (hC : Cx E g cc own Ts nL rm) (hd : decode cc pc = .ok (.iaload, 1)) (hq : pc + 1 = q) (h0 : 0 ≤ i) (h1 : i < 1) (z0 : 0 ≤ z) (z1 : z < 13) (kk : Wk E g nL S q lv (vi (S 18 i z) :: st)) : Wk E g nL S pc lv (vi z :: vr g 18 i :: st) := kw_iald (n := 13) hC rfl (by decide) h0 h1 z0 z1 hd hq kk
theorem ks_18 {i z x : Int} (hC : Cx E g cc own Ts nL rm) (hd : decode cc pc = .ok (.iastore, 1)) (hq : pc + 1 = q) (h0 : 0 ≤ i) (h1 : i < 1) (z0 : 0 ≤ z) (z1 : z < 13) (kk : Wk E g nL (ups S 18 i z x) q lv st) : Wk E g nL S pc lv (vi x :: vi z :: vr g 18 i :: st) := kw_iast (n := 13) hC (fun _ => rfl) (by decide) h0 h1 z0 z1 hd hq kk
theorem ka_19 {i z : Int} (hC : Cx E g cc own Ts nL rm) (hd : decode cc pc = .ok (.laload, 1)) (hq : pc + 1 = q) (h0 : 0 ≤ i) (h1 : i < 1) (z0 : 0 ≤ z) (z1 : z < 6) (kk : Wk E g nL S q lv (vl (S 19 i z) :: st)) : Wk E g nL S pc lv (vi z :: vr g 19 i :: st) := kw_lald (n := 6) hC rfl (by decide) h0 h1 z0 z1 hd hq kk
theorem ks_19 {i z x : Int} (hC : Cx E g cc own Ts nL rm) (hd : decode cc pc = .ok (.lastore, 1)) (hq : pc + 1 = q) (h0 : 0 ≤ i) (h1 : i < 1) (z0 : 0 ≤ z) (z1 : z < 6) (kk : Wk E g nL (ups S 19 i z x) q lv st) : Wk E g nL S pc lv (vl x :: vi z :: vr g 19 i :: st) := kw_last (n := 6) hC (fun _ => rfl) (by decide) h0 h1 z0 z1 hd hq kk
theorem ka_20 {i z : Int} (hC : Cx E g cc own Ts nL rm) (hd : decode cc pc = .ok (.aaload, 1)) (hq : pc + 1 = q) (h0 : 0 ≤ i) (h1 : i < 1) (z0 : 0 ≤ z) (z1 : z < 8) (kk : Wk E g nL S q lv (vr g 1 z :: st)) : Wk E g nL S pc lv (vi z :: vr g 20 i :: st) := kw_aald (n := 8) (t := 2) hC rfl rfl rfl (by decide) h0 h1 z0 z1 hd hq kk
theorem ka_21 {i z : Int} (hC : Cx E g cc own Ts nL rm) (hd : decode cc pc = .ok (.aaload, 1)) (hq : pc + 1 = q) (h0 : 0 ≤ i) (h1 : i < 1) (z0 : 0 ≤ z) (z1 : z < 4) (kk : Wk E g nL S q lv (vr g 6 z :: st)) : Wk E g nL S pc lv (vi z :: vr g 21 i :: st) := kw_aald (n := 4) (t := 3) hC rfl rfl rfl (by decide) h0 h1 z0 z1 hd hq kk
theorem ka_22 {i z : Int} (hC : Cx E g cc own Ts nL rm) (hd : decode cc pc = .ok (.laload, 1)) (hq : pc + 1 = q) (h0 : 0 ≤ i) (h1 : i < 1) (z0 : 0 ≤ z) (z1 : z < 6) (kk : Wk E g nL S q lv (vl (S 22 i z) :: st)) : Wk E g nL S pc lv (vi z :: vr g 22 i :: st) := kw_lald (n := 6) hC rfl (by decide) h0 h1 z0 z1 hd hq kk
theorem ks_22 {i z x : Int} (hC : Cx E g cc own Ts nL rm) (hd : decode cc pc = .ok (.lastore, 1)) (hq : pc + 1 = q) (h0 : 0 ≤ i) (h1 : i < 1) (z0 : 0 ≤ z) (z1 : z < 6) (kk : Wk E g nL (ups S 22 i z x) q lv st) : Wk E g nL S pc lv (vl x :: vi z :: vr g 22 i :: st) := kw_last (n := 6) hC (fun _ => rfl) (by decide) h0 h1 z0 z1 hd hq kk
theorem ka_23 {i z : Int} (hC : Cx E g cc own Ts nL rm) (hd : decode cc pc = .ok (.aaload, 1)) (hq : pc + 1 = q) (h0 : 0 ≤ i) (h1 : i < 1) (z0 : 0 ≤ z) (z1 : z < 6) (kk : Wk E g nL S q lv (vr g 24 z :: st)) : Wk E g nL S pc lv (vi z :: vr g 23 i :: st) := kw_aald (n := 6) (t := 5) hC rfl rfl rfl (by decide) h0 h1 z0 z1 hd hq kk
theorem ka_24 {i z : Int} (hC : Cx E g cc own Ts nL rm) (hd : decode cc pc = .ok (.laload, 1)) (hq : pc + 1 = q) (h0 : 0 ≤ i) (h1 : i < 6) (z0 : 0 ≤ z) (z1 : z < 6) (kk : Wk E g nL S q lv (vl (S 24 i z) :: st)) : Wk E g nL S pc lv (vi z :: vr g 24 i :: st) := kw_lald (n := 6) hC rfl (by decide) h0 h1 z0 z1 hd hq kk
theorem ks_24 {i z x : Int} (hC : Cx E g cc own Ts nL rm) (hd : decode cc pc = .ok (.lastore, 1)) (hq : pc + 1 = q) (h0 : 0 ≤ i) (h1 : i < 6) (z0 : 0 ≤ z) (z1 : z < 6) (kk : Wk E g nL (ups S 24 i z x) q lv st) : Wk E g nL S pc lv (vl x :: vi z :: vr g 24 i :: st) := kw_last (n := 6) hC (fun _ => rfl) (by decide) h0 h1 z0 z1 hd hq kk
theorem kg_30_0 {i : Int} (hC : Cx E g cc own Ts nL rm) (hin : ∀ w ∈ wsX80, w ∈ Ts) (hl : Cond.fieldLink own idx "MirrorBenchModel" "mirrors" "I" ∈ Ts) (hd : decode cc pc = .ok (.getfield idx, 3)) (hq : pc + 3 = q) (h0 : 0 ≤ i) (h1 : i < 1) (kk : Wk E g nL S q lv (vi (S 30 i 0) :: st)) : Wk E g nL S pc lv (vr g 30 i :: st) :=
  kw_get (f := 0) hC hin (cx_30 g i (S 30 i)) rfl (by decide) hl rfl rfl h0 h1 hd hq kk
theorem kp_30_0 {i z : Int} (hC : Cx E g cc own Ts nL rm) (hin : ∀ w ∈ wsX80, w ∈ Ts) (hl : Cond.fieldLink own idx "MirrorBenchModel" "mirrors" "I" ∈ Ts) (hd : decode cc pc = .ok (.putfield idx, 3)) (hq : pc + 3 = q) (h0 : 0 ≤ i) (h1 : i < 1) (kk : Wk E g nL (ups S 30 i 0 z) q lv st) : Wk E g nL S pc lv (vi z :: vr g 30 i :: st) :=
  kw_put (f := 0) (ty := .int) (z := z) hC hin tyX8 tyX8_ok nmX8 (cx_30 g i (S 30 i)) rfl (by decide) hl rfl rfl (by decide +kernel) rfl rfl (Nat.le_of_ble_eq_true rfl) (by rw [cx_30]; simp [ups, List.set]) h0 h1 hd hq kk
theorem kg_30_1 {i : Int} (hC : Cx E g cc own Ts nL rm) (hin : ∀ w ∈ wsX80, w ∈ Ts) (hl : Cond.fieldLink own idx "MirrorBenchModel" "kinds" "[I" ∈ Ts) (hd : decode cc pc = .ok (.getfield idx, 3)) (hq : pc + 3 = q) (h0 : 0 ≤ i) (h1 : i < 1) (kk : Wk E g nL S q lv (vr g 41 0 :: st)) : Wk E g nL S pc lv (vr g 30 i :: st) :=
  kw_get (f := 1) hC hin (cx_30 g i (S 30 i)) rfl (by decide) hl rfl rfl h0 h1 hd hq kk
theorem kg_30_2 {i : Int} (hC : Cx E g cc own Ts nL rm) (hin : ∀ w ∈ wsX80, w ∈ Ts) (hl : Cond.fieldLink own idx "MirrorBenchModel" "meets" "[I" ∈ Ts) (hd : decode cc pc = .ok (.getfield idx, 3)) (hq : pc + 3 = q) (h0 : 0 ≤ i) (h1 : i < 1) (kk : Wk E g nL S q lv (vr g 42 0 :: st)) : Wk E g nL S pc lv (vr g 30 i :: st) :=
  kw_get (f := 2) hC hin (cx_30 g i (S 30 i)) rfl (by decide) hl rfl rfl h0 h1 hd hq kk
theorem kg_30_3 {i : Int} (hC : Cx E g cc own Ts nL rm) (hin : ∀ w ∈ wsX80, w ∈ Ts) (hl : Cond.fieldLink own idx "MirrorBenchModel" "kept" "[I" ∈ Ts) (hd : decode cc pc = .ok (.getfield idx, 3)) (hq : pc + 3 = q) (h0 : 0 ≤ i) (h1 : i < 1) (kk : Wk E g nL S q lv (vr g 43 0 :: st)) : Wk E g nL S pc lv (vr g 30 i :: st) :=
  kw_get (f := 3) hC hin (cx_30 g i (S 30 i)) rfl (by decide) hl rfl rfl h0 h1 hd hq kk
theorem kg_30_4 {i : Int} (hC : Cx E g cc own Ts nL rm) (hin : ∀ w ∈ wsX80, w ∈ Ts) (hl : Cond.fieldLink own idx "MirrorBenchModel" "changes" "I" ∈ Ts) (hd : decode cc pc = .ok (.getfield idx, 3)) (hq : pc + 3 = q) (h0 : 0 ≤ i) (h1 : i < 1) (kk : Wk E g nL S q lv (vi (S 30 i 4) :: st)) : Wk E g nL S pc lv (vr g 30 i :: st) :=
  kw_get (f := 4) hC hin (cx_30 g i (S 30 i)) rfl (by decide) hl rfl rfl h0 h1 hd hq kk
theorem kp_30_4 {i z : Int} (hC : Cx E g cc own Ts nL rm) (hin : ∀ w ∈ wsX80, w ∈ Ts) (hl : Cond.fieldLink own idx "MirrorBenchModel" "changes" "I" ∈ Ts) (hd : decode cc pc = .ok (.putfield idx, 3)) (hq : pc + 3 = q) (h0 : 0 ≤ i) (h1 : i < 1) (kk : Wk E g nL (ups S 30 i 4 z) q lv st) : Wk E g nL S pc lv (vi z :: vr g 30 i :: st) :=
  kw_put (f := 4) (ty := .int) (z := z) hC hin tyX8 tyX8_ok nmX8 (cx_30 g i (S 30 i)) rfl (by decide) hl rfl rfl (by decide +kernel) rfl rfl (Nat.le_of_ble_eq_true rfl) (by rw [cx_30]; simp [ups, List.set]) h0 h1 hd hq kk
theorem kg_30_5 {i : Int} (hC : Cx E g cc own Ts nL rm) (hin : ∀ w ∈ wsX80, w ∈ Ts) (hl : Cond.fieldLink own idx "MirrorBenchModel" "words" "[I" ∈ Ts) (hd : decode cc pc = .ok (.getfield idx, 3)) (hq : pc + 3 = q) (h0 : 0 ≤ i) (h1 : i < 1) (kk : Wk E g nL S q lv (vr g 45 0 :: st)) : Wk E g nL S pc lv (vr g 30 i :: st) :=
  kw_get (f := 5) hC hin (cx_30 g i (S 30 i)) rfl (by decide) hl rfl rfl h0 h1 hd hq kk
theorem kg_30_6 {i : Int} (hC : Cx E g cc own Ts nL rm) (hin : ∀ w ∈ wsX80, w ∈ Ts) (hl : Cond.fieldLink own idx "MirrorBenchModel" "lengths" "[I" ∈ Ts) (hd : decode cc pc = .ok (.getfield idx, 3)) (hq : pc + 3 = q) (h0 : 0 ≤ i) (h1 : i < 1) (kk : Wk E g nL S q lv (vr g 46 0 :: st)) : Wk E g nL S pc lv (vr g 30 i :: st) :=
  kw_get (f := 6) hC hin (cx_30 g i (S 30 i)) rfl (by decide) hl rfl rfl h0 h1 hd hq kk
theorem kg_30_7 {i : Int} (hC : Cx E g cc own Ts nL rm) (hin : ∀ w ∈ wsX80, w ∈ Ts) (hl : Cond.fieldLink own idx "MirrorBenchModel" "r" "[I" ∈ Ts) (hd : decode cc pc = .ok (.getfield idx, 3)) (hq : pc + 3 = q) (h0 : 0 ≤ i) (h1 : i < 1) (kk : Wk E g nL S q lv (vr g 47 0 :: st)) : Wk E g nL S pc lv (vr g 30 i :: st) :=
  kw_get (f := 7) hC hin (cx_30 g i (S 30 i)) rfl (by decide) hl rfl rfl h0 h1 hd hq kk
theorem kg_30_8 {i : Int} (hC : Cx E g cc own Ts nL rm) (hin : ∀ w ∈ wsX80, w ∈ Ts) (hl : Cond.fieldLink own idx "MirrorBenchModel" "rMany" "I" ∈ Ts) (hd : decode cc pc = .ok (.getfield idx, 3)) (hq : pc + 3 = q) (h0 : 0 ≤ i) (h1 : i < 1) (kk : Wk E g nL S q lv (vi (S 30 i 8) :: st)) : Wk E g nL S pc lv (vr g 30 i :: st) :=
  kw_get (f := 8) hC hin (cx_30 g i (S 30 i)) rfl (by decide) hl rfl rfl h0 h1 hd hq kk
theorem kp_30_8 {i z : Int} (hC : Cx E g cc own Ts nL rm) (hin : ∀ w ∈ wsX80, w ∈ Ts) (hl : Cond.fieldLink own idx "MirrorBenchModel" "rMany" "I" ∈ Ts) (hd : decode cc pc = .ok (.putfield idx, 3)) (hq : pc + 3 = q) (h0 : 0 ≤ i) (h1 : i < 1) (kk : Wk E g nL (ups S 30 i 8 z) q lv st) : Wk E g nL S pc lv (vi z :: vr g 30 i :: st) :=
  kw_put (f := 8) (ty := .int) (z := z) hC hin tyX8 tyX8_ok nmX8 (cx_30 g i (S 30 i)) rfl (by decide) hl rfl rfl (by decide +kernel) rfl rfl (Nat.le_of_ble_eq_true rfl) (by rw [cx_30]; simp [ups, List.set]) h0 h1 hd hq kk
theorem kg_30_9 {i : Int} (hC : Cx E g cc own Ts nL rm) (hin : ∀ w ∈ wsX80, w ∈ Ts) (hl : Cond.fieldLink own idx "MirrorBenchModel" "f" "[I" ∈ Ts) (hd : decode cc pc = .ok (.getfield idx, 3)) (hq : pc + 3 = q) (h0 : 0 ≤ i) (h1 : i < 1) (kk : Wk E g nL S q lv (vr g 49 0 :: st)) : Wk E g nL S pc lv (vr g 30 i :: st) :=
  kw_get (f := 9) hC hin (cx_30 g i (S 30 i)) rfl (by decide) hl rfl rfl h0 h1 hd hq kk
theorem kg_30_10 {i : Int} (hC : Cx E g cc own Ts nL rm) (hin : ∀ w ∈ wsX80, w ∈ Ts) (hl : Cond.fieldLink own idx "MirrorBenchModel" "fMany" "I" ∈ Ts) (hd : decode cc pc = .ok (.getfield idx, 3)) (hq : pc + 3 = q) (h0 : 0 ≤ i) (h1 : i < 1) (kk : Wk E g nL S q lv (vi (S 30 i 10) :: st)) : Wk E g nL S pc lv (vr g 30 i :: st) :=
  kw_get (f := 10) hC hin (cx_30 g i (S 30 i)) rfl (by decide) hl rfl rfl h0 h1 hd hq kk
theorem kp_30_10 {i z : Int} (hC : Cx E g cc own Ts nL rm) (hin : ∀ w ∈ wsX80, w ∈ Ts) (hl : Cond.fieldLink own idx "MirrorBenchModel" "fMany" "I" ∈ Ts) (hd : decode cc pc = .ok (.putfield idx, 3)) (hq : pc + 3 = q) (h0 : 0 ≤ i) (h1 : i < 1) (kk : Wk E g nL (ups S 30 i 10 z) q lv st) : Wk E g nL S pc lv (vi z :: vr g 30 i :: st) :=
  kw_put (f := 10) (ty := .int) (z := z) hC hin tyX8 tyX8_ok nmX8 (cx_30 g i (S 30 i)) rfl (by decide) hl rfl rfl (by decide +kernel) rfl rfl (Nat.le_of_ble_eq_true rfl) (by rw [cx_30]; simp [ups, List.set]) h0 h1 hd hq kk
theorem kg_30_11 {i : Int} (hC : Cx E g cc own Ts nL rm) (hin : ∀ w ∈ wsX80, w ∈ Ts) (hl : Cond.fieldLink own idx "MirrorBenchModel" "v" "[I" ∈ Ts) (hd : decode cc pc = .ok (.getfield idx, 3)) (hq : pc + 3 = q) (h0 : 0 ≤ i) (h1 : i < 1) (kk : Wk E g nL S q lv (vr g 51 0 :: st)) : Wk E g nL S pc lv (vr g 30 i :: st) :=
  kw_get (f := 11) hC hin (cx_30 g i (S 30 i)) rfl (by decide) hl rfl rfl h0 h1 hd hq kk
theorem kg_30_12 {i : Int} (hC : Cx E g cc own Ts nL rm) (hin : ∀ w ∈ wsX80, w ∈ Ts) (hl : Cond.fieldLink own idx "MirrorBenchModel" "vMany" "I" ∈ Ts) (hd : decode cc pc = .ok (.getfield idx, 3)) (hq : pc + 3 = q) (h0 : 0 ≤ i) (h1 : i < 1) (kk : Wk E g nL S q lv (vi (S 30 i 12) :: st)) : Wk E g nL S pc lv (vr g 30 i :: st) :=
  kw_get (f := 12) hC hin (cx_30 g i (S 30 i)) rfl (by decide) hl rfl rfl h0 h1 hd hq kk
theorem kp_30_12 {i z : Int} (hC : Cx E g cc own Ts nL rm) (hin : ∀ w ∈ wsX80, w ∈ Ts) (hl : Cond.fieldLink own idx "MirrorBenchModel" "vMany" "I" ∈ Ts) (hd : decode cc pc = .ok (.putfield idx, 3)) (hq : pc + 3 = q) (h0 : 0 ≤ i) (h1 : i < 1) (kk : Wk E g nL (ups S 30 i 12 z) q lv st) : Wk E g nL S pc lv (vi z :: vr g 30 i :: st) :=
  kw_put (f := 12) (ty := .int) (z := z) hC hin tyX8 tyX8_ok nmX8 (cx_30 g i (S 30 i)) rfl (by decide) hl rfl rfl (by decide +kernel) rfl rfl (Nat.le_of_ble_eq_true rfl) (by rw [cx_30]; simp [ups, List.set]) h0 h1 hd hq kk
theorem kg_30_13 {i : Int} (hC : Cx E g cc own Ts nL rm) (hin : ∀ w ∈ wsX80, w ∈ Ts) (hl : Cond.fieldLink own idx "MirrorBenchModel" "w" "[I" ∈ Ts) (hd : decode cc pc = .ok (.getfield idx, 3)) (hq : pc + 3 = q) (h0 : 0 ≤ i) (h1 : i < 1) (kk : Wk E g nL S q lv (vr g 53 0 :: st)) : Wk E g nL S pc lv (vr g 30 i :: st) :=
  kw_get (f := 13) hC hin (cx_30 g i (S 30 i)) rfl (by decide) hl rfl rfl h0 h1 hd hq kk
theorem kg_30_14 {i : Int} (hC : Cx E g cc own Ts nL rm) (hin : ∀ w ∈ wsX80, w ∈ Ts) (hl : Cond.fieldLink own idx "MirrorBenchModel" "wMany" "I" ∈ Ts) (hd : decode cc pc = .ok (.getfield idx, 3)) (hq : pc + 3 = q) (h0 : 0 ≤ i) (h1 : i < 1) (kk : Wk E g nL S q lv (vi (S 30 i 14) :: st)) : Wk E g nL S pc lv (vr g 30 i :: st) :=
  kw_get (f := 14) hC hin (cx_30 g i (S 30 i)) rfl (by decide) hl rfl rfl h0 h1 hd hq kk
theorem kp_30_14 {i z : Int} (hC : Cx E g cc own Ts nL rm) (hin : ∀ w ∈ wsX80, w ∈ Ts) (hl : Cond.fieldLink own idx "MirrorBenchModel" "wMany" "I" ∈ Ts) (hd : decode cc pc = .ok (.putfield idx, 3)) (hq : pc + 3 = q) (h0 : 0 ≤ i) (h1 : i < 1) (kk : Wk E g nL (ups S 30 i 14 z) q lv st) : Wk E g nL S pc lv (vi z :: vr g 30 i :: st) :=
  kw_put (f := 14) (ty := .int) (z := z) hC hin tyX8 tyX8_ok nmX8 (cx_30 g i (S 30 i)) rfl (by decide) hl rfl rfl (by decide +kernel) rfl rfl (Nat.le_of_ble_eq_true rfl) (by rw [cx_30]; simp [ups, List.set]) h0 h1 hd hq kk
theorem kg_30_15 {i : Int} (hC : Cx E g cc own Ts nL rm) (hin : ∀ w ∈ wsX80, w ∈ Ts) (hl : Cond.fieldLink own idx "MirrorBenchModel" "root" "[J" ∈ Ts) (hd : decode cc pc = .ok (.getfield idx, 3)) (hq : pc + 3 = q) (h0 : 0 ≤ i) (h1 : i < 1) (kk : Wk E g nL S q lv (vr g 55 0 :: st)) : Wk E g nL S pc lv (vr g 30 i :: st) :=
  kw_get (f := 15) hC hin (cx_30 g i (S 30 i)) rfl (by decide) hl rfl rfl h0 h1 hd hq kk
theorem kg_30_16 {i : Int} (hC : Cx E g cc own Ts nL rm) (hin : ∀ w ∈ wsX80, w ∈ Ts) (hl : Cond.fieldLink own idx "MirrorBenchModel" "isGreat" "Z" ∈ Ts) (hd : decode cc pc = .ok (.getfield idx, 3)) (hq : pc + 3 = q) (h0 : 0 ≤ i) (h1 : i < 1) (kk : Wk E g nL S q lv (vi (S 30 i 16) :: st)) : Wk E g nL S pc lv (vr g 30 i :: st) :=
  kw_get (f := 16) hC hin (cx_30 g i (S 30 i)) rfl (by decide) hl rfl rfl h0 h1 hd hq kk
theorem kp_30_16 {i z : Int} (hC : Cx E g cc own Ts nL rm) (hin : ∀ w ∈ wsX80, w ∈ Ts) (hl : Cond.fieldLink own idx "MirrorBenchModel" "isGreat" "Z" ∈ Ts) (hd : decode cc pc = .ok (.putfield idx, 3)) (hq : pc + 3 = q) (h0 : 0 ≤ i) (h1 : i < 1) (hz : z = 0 ∨ z = 1) (kk : Wk E g nL (ups S 30 i 16 z) q lv st) : Wk E g nL S pc lv (vi z :: vr g 30 i :: st) :=
  kw_put (f := 16) (ty := .boolean) (z := z) hC hin tyX8 tyX8_ok nmX8 (cx_30 g i (S 30 i)) rfl (by decide) hl rfl rfl (by decide +kernel) (by rcases hz with rfl | rfl <;> rfl) (by rcases hz with rfl | rfl <;> rfl) (Nat.le_of_ble_eq_true rfl) (by rw [cx_30]; simp [ups, List.set]) h0 h1 hd hq kk
theorem kg_30_17 {i : Int} (hC : Cx E g cc own Ts nL rm) (hin : ∀ w ∈ wsX80, w ∈ Ts) (hl : Cond.fieldLink own idx "MirrorBenchModel" "images" "[J" ∈ Ts) (hd : decode cc pc = .ok (.getfield idx, 3)) (hq : pc + 3 = q) (h0 : 0 ≤ i) (h1 : i < 1) (kk : Wk E g nL S q lv (vr g 57 0 :: st)) : Wk E g nL S pc lv (vr g 30 i :: st) :=
  kw_get (f := 17) hC hin (cx_30 g i (S 30 i)) rfl (by decide) hl rfl rfl h0 h1 hd hq kk
theorem kg_30_18 {i : Int} (hC : Cx E g cc own Ts nL rm) (hin : ∀ w ∈ wsX80, w ∈ Ts) (hl : Cond.fieldLink own idx "MirrorBenchModel" "found" "[J" ∈ Ts) (hd : decode cc pc = .ok (.getfield idx, 3)) (hq : pc + 3 = q) (h0 : 0 ≤ i) (h1 : i < 1) (kk : Wk E g nL S q lv (vr g 58 0 :: st)) : Wk E g nL S pc lv (vr g 30 i :: st) :=
  kw_get (f := 18) hC hin (cx_30 g i (S 30 i)) rfl (by decide) hl rfl rfl h0 h1 hd hq kk
theorem kg_30_19 {i : Int} (hC : Cx E g cc own Ts nL rm) (hin : ∀ w ∈ wsX80, w ∈ Ts) (hl : Cond.fieldLink own idx "MirrorBenchModel" "heights" "[I" ∈ Ts) (hd : decode cc pc = .ok (.getfield idx, 3)) (hq : pc + 3 = q) (h0 : 0 ≤ i) (h1 : i < 1) (kk : Wk E g nL S q lv (vr g 59 0 :: st)) : Wk E g nL S pc lv (vr g 30 i :: st) :=
  kw_get (f := 19) hC hin (cx_30 g i (S 30 i)) rfl (by decide) hl rfl rfl h0 h1 hd hq kk
theorem kg_30_20 {i : Int} (hC : Cx E g cc own Ts nL rm) (hin : ∀ w ∈ wsX80, w ∈ Ts) (hl : Cond.fieldLink own idx "MirrorBenchModel" "many" "I" ∈ Ts) (hd : decode cc pc = .ok (.getfield idx, 3)) (hq : pc + 3 = q) (h0 : 0 ≤ i) (h1 : i < 1) (kk : Wk E g nL S q lv (vi (S 30 i 20) :: st)) : Wk E g nL S pc lv (vr g 30 i :: st) :=
  kw_get (f := 20) hC hin (cx_30 g i (S 30 i)) rfl (by decide) hl rfl rfl h0 h1 hd hq kk
theorem kp_30_20 {i z : Int} (hC : Cx E g cc own Ts nL rm) (hin : ∀ w ∈ wsX80, w ∈ Ts) (hl : Cond.fieldLink own idx "MirrorBenchModel" "many" "I" ∈ Ts) (hd : decode cc pc = .ok (.putfield idx, 3)) (hq : pc + 3 = q) (h0 : 0 ≤ i) (h1 : i < 1) (kk : Wk E g nL (ups S 30 i 20 z) q lv st) : Wk E g nL S pc lv (vi z :: vr g 30 i :: st) :=
  kw_put (f := 20) (ty := .int) (z := z) hC hin tyX8 tyX8_ok nmX8 (cx_30 g i (S 30 i)) rfl (by decide) hl rfl rfl (by decide +kernel) rfl rfl (Nat.le_of_ble_eq_true rfl) (by rw [cx_30]; simp [ups, List.set]) h0 h1 hd hq kk
theorem kg_30_21 {i : Int} (hC : Cx E g cc own Ts nL rm) (hin : ∀ w ∈ wsX80, w ∈ Ts) (hl : Cond.fieldLink own idx "MirrorBenchModel" "whole" "I" ∈ Ts) (hd : decode cc pc = .ok (.getfield idx, 3)) (hq : pc + 3 = q) (h0 : 0 ≤ i) (h1 : i < 1) (kk : Wk E g nL S q lv (vi (S 30 i 21) :: st)) : Wk E g nL S pc lv (vr g 30 i :: st) :=
  kw_get (f := 21) hC hin (cx_30 g i (S 30 i)) rfl (by decide) hl rfl rfl h0 h1 hd hq kk
theorem kp_30_21 {i z : Int} (hC : Cx E g cc own Ts nL rm) (hin : ∀ w ∈ wsX80, w ∈ Ts) (hl : Cond.fieldLink own idx "MirrorBenchModel" "whole" "I" ∈ Ts) (hd : decode cc pc = .ok (.putfield idx, 3)) (hq : pc + 3 = q) (h0 : 0 ≤ i) (h1 : i < 1) (kk : Wk E g nL (ups S 30 i 21 z) q lv st) : Wk E g nL S pc lv (vi z :: vr g 30 i :: st) :=
  kw_put (f := 21) (ty := .int) (z := z) hC hin tyX8 tyX8_ok nmX8 (cx_30 g i (S 30 i)) rfl (by decide) hl rfl rfl (by decide +kernel) rfl rfl (Nat.le_of_ble_eq_true rfl) (by rw [cx_30]; simp [ups, List.set]) h0 h1 hd hq kk
theorem kg_30_22 {i : Int} (hC : Cx E g cc own Ts nL rm) (hin : ∀ w ∈ wsX80, w ∈ Ts) (hl : Cond.fieldLink own idx "MirrorBenchModel" "weights" "[I" ∈ Ts) (hd : decode cc pc = .ok (.getfield idx, 3)) (hq : pc + 3 = q) (h0 : 0 ≤ i) (h1 : i < 1) (kk : Wk E g nL S q lv (vr g 62 0 :: st)) : Wk E g nL S pc lv (vr g 30 i :: st) :=
  kw_get (f := 22) hC hin (cx_30 g i (S 30 i)) rfl (by decide) hl rfl rfl h0 h1 hd hq kk
theorem kg_30_23 {i : Int} (hC : Cx E g cc own Ts nL rm) (hin : ∀ w ∈ wsX80, w ∈ Ts) (hl : Cond.fieldLink own idx "MirrorBenchModel" "weightMany" "I" ∈ Ts) (hd : decode cc pc = .ok (.getfield idx, 3)) (hq : pc + 3 = q) (h0 : 0 ≤ i) (h1 : i < 1) (kk : Wk E g nL S q lv (vi (S 30 i 23) :: st)) : Wk E g nL S pc lv (vr g 30 i :: st) :=
  kw_get (f := 23) hC hin (cx_30 g i (S 30 i)) rfl (by decide) hl rfl rfl h0 h1 hd hq kk
theorem kp_30_23 {i z : Int} (hC : Cx E g cc own Ts nL rm) (hin : ∀ w ∈ wsX80, w ∈ Ts) (hl : Cond.fieldLink own idx "MirrorBenchModel" "weightMany" "I" ∈ Ts) (hd : decode cc pc = .ok (.putfield idx, 3)) (hq : pc + 3 = q) (h0 : 0 ≤ i) (h1 : i < 1) (kk : Wk E g nL (ups S 30 i 23 z) q lv st) : Wk E g nL S pc lv (vi z :: vr g 30 i :: st) :=
  kw_put (f := 23) (ty := .int) (z := z) hC hin tyX8 tyX8_ok nmX8 (cx_30 g i (S 30 i)) rfl (by decide) hl rfl rfl (by decide +kernel) rfl rfl (Nat.le_of_ble_eq_true rfl) (by rw [cx_30]; simp [ups, List.set]) h0 h1 hd hq kk
theorem kg_30_24 {i : Int} (hC : Cx E g cc own Ts nL rm) (hin : ∀ w ∈ wsX80, w ∈ Ts) (hl : Cond.fieldLink own idx "MirrorBenchModel" "weight" "[I" ∈ Ts) (hd : decode cc pc = .ok (.getfield idx, 3)) (hq : pc + 3 = q) (h0 : 0 ≤ i) (h1 : i < 1) (kk : Wk E g nL S q lv (vr g 64 0 :: st)) : Wk E g nL S pc lv (vr g 30 i :: st) :=
  kw_get (f := 24) hC hin (cx_30 g i (S 30 i)) rfl (by decide) hl rfl rfl h0 h1 hd hq kk
theorem kg_30_25 {i : Int} (hC : Cx E g cc own Ts nL rm) (hin : ∀ w ∈ wsX80, w ∈ Ts) (hl : Cond.fieldLink own idx "MirrorBenchModel" "forms" "[I" ∈ Ts) (hd : decode cc pc = .ok (.getfield idx, 3)) (hq : pc + 3 = q) (h0 : 0 ≤ i) (h1 : i < 1) (kk : Wk E g nL S q lv (vr g 65 0 :: st)) : Wk E g nL S pc lv (vr g 30 i :: st) :=
  kw_get (f := 25) hC hin (cx_30 g i (S 30 i)) rfl (by decide) hl rfl rfl h0 h1 hd hq kk
theorem kg_30_26 {i : Int} (hC : Cx E g cc own Ts nL rm) (hin : ∀ w ∈ wsX80, w ∈ Ts) (hl : Cond.fieldLink own idx "MirrorBenchModel" "formMany" "I" ∈ Ts) (hd : decode cc pc = .ok (.getfield idx, 3)) (hq : pc + 3 = q) (h0 : 0 ≤ i) (h1 : i < 1) (kk : Wk E g nL S q lv (vi (S 30 i 26) :: st)) : Wk E g nL S pc lv (vr g 30 i :: st) :=
  kw_get (f := 26) hC hin (cx_30 g i (S 30 i)) rfl (by decide) hl rfl rfl h0 h1 hd hq kk
theorem kp_30_26 {i z : Int} (hC : Cx E g cc own Ts nL rm) (hin : ∀ w ∈ wsX80, w ∈ Ts) (hl : Cond.fieldLink own idx "MirrorBenchModel" "formMany" "I" ∈ Ts) (hd : decode cc pc = .ok (.putfield idx, 3)) (hq : pc + 3 = q) (h0 : 0 ≤ i) (h1 : i < 1) (kk : Wk E g nL (ups S 30 i 26 z) q lv st) : Wk E g nL S pc lv (vi z :: vr g 30 i :: st) :=
  kw_put (f := 26) (ty := .int) (z := z) hC hin tyX8 tyX8_ok nmX8 (cx_30 g i (S 30 i)) rfl (by decide) hl rfl rfl (by decide +kernel) rfl rfl (Nat.le_of_ble_eq_true rfl) (by rw [cx_30]; simp [ups, List.set]) h0 h1 hd hq kk
theorem kg_30_27 {i : Int} (hC : Cx E g cc own Ts nL rm) (hin : ∀ w ∈ wsX80, w ∈ Ts) (hl : Cond.fieldLink own idx "MirrorBenchModel" "longer" "[I" ∈ Ts) (hd : decode cc pc = .ok (.getfield idx, 3)) (hq : pc + 3 = q) (h0 : 0 ≤ i) (h1 : i < 1) (kk : Wk E g nL S q lv (vr g 67 0 :: st)) : Wk E g nL S pc lv (vr g 30 i :: st) :=
  kw_get (f := 27) hC hin (cx_30 g i (S 30 i)) rfl (by decide) hl rfl rfl h0 h1 hd hq kk
theorem kg_30_28 {i : Int} (hC : Cx E g cc own Ts nL rm) (hin : ∀ w ∈ wsX80, w ∈ Ts) (hl : Cond.fieldLink own idx "MirrorBenchModel" "part" "[I" ∈ Ts) (hd : decode cc pc = .ok (.getfield idx, 3)) (hq : pc + 3 = q) (h0 : 0 ≤ i) (h1 : i < 1) (kk : Wk E g nL S q lv (vr g 68 0 :: st)) : Wk E g nL S pc lv (vr g 30 i :: st) :=
  kw_get (f := 28) hC hin (cx_30 g i (S 30 i)) rfl (by decide) hl rfl rfl h0 h1 hd hq kk
theorem kg_30_29 {i : Int} (hC : Cx E g cc own Ts nL rm) (hin : ∀ w ∈ wsX80, w ∈ Ts) (hl : Cond.fieldLink own idx "MirrorBenchModel" "lanes" "[I" ∈ Ts) (hd : decode cc pc = .ok (.getfield idx, 3)) (hq : pc + 3 = q) (h0 : 0 ≤ i) (h1 : i < 1) (kk : Wk E g nL S q lv (vr g 69 0 :: st)) : Wk E g nL S pc lv (vr g 30 i :: st) :=
  kw_get (f := 29) hC hin (cx_30 g i (S 30 i)) rfl (by decide) hl rfl rfl h0 h1 hd hq kk
theorem kg_30_30 {i : Int} (hC : Cx E g cc own Ts nL rm) (hin : ∀ w ∈ wsX80, w ∈ Ts) (hl : Cond.fieldLink own idx "MirrorBenchModel" "sizes" "[I" ∈ Ts) (hd : decode cc pc = .ok (.getfield idx, 3)) (hq : pc + 3 = q) (h0 : 0 ≤ i) (h1 : i < 1) (kk : Wk E g nL S q lv (vr g 70 0 :: st)) : Wk E g nL S pc lv (vr g 30 i :: st) :=
  kw_get (f := 30) hC hin (cx_30 g i (S 30 i)) rfl (by decide) hl rfl rfl h0 h1 hd hq kk
theorem kg_30_31 {i : Int} (hC : Cx E g cc own Ts nL rm) (hin : ∀ w ∈ wsX80, w ∈ Ts) (hl : Cond.fieldLink own idx "MirrorBenchModel" "items" "[J" ∈ Ts) (hd : decode cc pc = .ok (.getfield idx, 3)) (hq : pc + 3 = q) (h0 : 0 ≤ i) (h1 : i < 1) (kk : Wk E g nL S q lv (vr g 71 0 :: st)) : Wk E g nL S pc lv (vr g 30 i :: st) :=
  kw_get (f := 31) hC hin (cx_30 g i (S 30 i)) rfl (by decide) hl rfl rfl h0 h1 hd hq kk
theorem kg_30_32 {i : Int} (hC : Cx E g cc own Ts nL rm) (hin : ∀ w ∈ wsX80, w ∈ Ts) (hl : Cond.fieldLink own idx "MirrorBenchModel" "moved" "[J" ∈ Ts) (hd : decode cc pc = .ok (.getfield idx, 3)) (hq : pc + 3 = q) (h0 : 0 ≤ i) (h1 : i < 1) (kk : Wk E g nL S q lv (vr g 72 0 :: st)) : Wk E g nL S pc lv (vr g 30 i :: st) :=
  kw_get (f := 32) hC hin (cx_30 g i (S 30 i)) rfl (by decide) hl rfl rfl h0 h1 hd hq kk
theorem ka_41 {i z : Int} (hC : Cx E g cc own Ts nL rm) (hd : decode cc pc = .ok (.iaload, 1)) (hq : pc + 1 = q) (h0 : 0 ≤ i) (h1 : i < 1) (z0 : 0 ≤ z) (z1 : z < 6) (kk : Wk E g nL S q lv (vi (S 41 i z) :: st)) : Wk E g nL S pc lv (vi z :: vr g 41 i :: st) := kw_iald (n := 6) hC rfl (by decide) h0 h1 z0 z1 hd hq kk
theorem ks_41 {i z x : Int} (hC : Cx E g cc own Ts nL rm) (hd : decode cc pc = .ok (.iastore, 1)) (hq : pc + 1 = q) (h0 : 0 ≤ i) (h1 : i < 1) (z0 : 0 ≤ z) (z1 : z < 6) (kk : Wk E g nL (ups S 41 i z x) q lv st) : Wk E g nL S pc lv (vi x :: vi z :: vr g 41 i :: st) := kw_iast (n := 6) hC (fun _ => rfl) (by decide) h0 h1 z0 z1 hd hq kk
theorem ka_42 {i z : Int} (hC : Cx E g cc own Ts nL rm) (hd : decode cc pc = .ok (.iaload, 1)) (hq : pc + 1 = q) (h0 : 0 ≤ i) (h1 : i < 1) (z0 : 0 ≤ z) (z1 : z < 36) (kk : Wk E g nL S q lv (vi (S 42 i z) :: st)) : Wk E g nL S pc lv (vi z :: vr g 42 i :: st) := kw_iald (n := 36) hC rfl (by decide) h0 h1 z0 z1 hd hq kk
theorem ks_42 {i z x : Int} (hC : Cx E g cc own Ts nL rm) (hd : decode cc pc = .ok (.iastore, 1)) (hq : pc + 1 = q) (h0 : 0 ≤ i) (h1 : i < 1) (z0 : 0 ≤ z) (z1 : z < 36) (kk : Wk E g nL (ups S 42 i z x) q lv st) : Wk E g nL S pc lv (vi x :: vi z :: vr g 42 i :: st) := kw_iast (n := 36) hC (fun _ => rfl) (by decide) h0 h1 z0 z1 hd hq kk
theorem ka_43 {i z : Int} (hC : Cx E g cc own Ts nL rm) (hd : decode cc pc = .ok (.iaload, 1)) (hq : pc + 1 = q) (h0 : 0 ≤ i) (h1 : i < 1) (z0 : 0 ≤ z) (z1 : z < 688) (kk : Wk E g nL S q lv (vi (S 43 i z) :: st)) : Wk E g nL S pc lv (vi z :: vr g 43 i :: st) := kw_iald (n := 688) hC rfl (by decide) h0 h1 z0 z1 hd hq kk
theorem ks_43 {i z x : Int} (hC : Cx E g cc own Ts nL rm) (hd : decode cc pc = .ok (.iastore, 1)) (hq : pc + 1 = q) (h0 : 0 ≤ i) (h1 : i < 1) (z0 : 0 ≤ z) (z1 : z < 688) (kk : Wk E g nL (ups S 43 i z x) q lv st) : Wk E g nL S pc lv (vi x :: vi z :: vr g 43 i :: st) := kw_iast (n := 688) hC (fun _ => rfl) (by decide) h0 h1 z0 z1 hd hq kk
theorem ka_45 {i z : Int} (hC : Cx E g cc own Ts nL rm) (hd : decode cc pc = .ok (.iaload, 1)) (hq : pc + 1 = q) (h0 : 0 ≤ i) (h1 : i < 1) (z0 : 0 ≤ z) (z1 : z < 800) (kk : Wk E g nL S q lv (vi (S 45 i z) :: st)) : Wk E g nL S pc lv (vi z :: vr g 45 i :: st) := kw_iald (n := 800) hC rfl (by decide) h0 h1 z0 z1 hd hq kk
theorem ks_45 {i z x : Int} (hC : Cx E g cc own Ts nL rm) (hd : decode cc pc = .ok (.iastore, 1)) (hq : pc + 1 = q) (h0 : 0 ≤ i) (h1 : i < 1) (z0 : 0 ≤ z) (z1 : z < 800) (kk : Wk E g nL (ups S 45 i z x) q lv st) : Wk E g nL S pc lv (vi x :: vi z :: vr g 45 i :: st) := kw_iast (n := 800) hC (fun _ => rfl) (by decide) h0 h1 z0 z1 hd hq kk
theorem ka_46 {i z : Int} (hC : Cx E g cc own Ts nL rm) (hd : decode cc pc = .ok (.iaload, 1)) (hq : pc + 1 = q) (h0 : 0 ≤ i) (h1 : i < 1) (z0 : 0 ≤ z) (z1 : z < 8) (kk : Wk E g nL S q lv (vi (S 46 i z) :: st)) : Wk E g nL S pc lv (vi z :: vr g 46 i :: st) := kw_iald (n := 8) hC rfl (by decide) h0 h1 z0 z1 hd hq kk
theorem ks_46 {i z x : Int} (hC : Cx E g cc own Ts nL rm) (hd : decode cc pc = .ok (.iastore, 1)) (hq : pc + 1 = q) (h0 : 0 ≤ i) (h1 : i < 1) (z0 : 0 ≤ z) (z1 : z < 8) (kk : Wk E g nL (ups S 46 i z x) q lv st) : Wk E g nL S pc lv (vi x :: vi z :: vr g 46 i :: st) := kw_iast (n := 8) hC (fun _ => rfl) (by decide) h0 h1 z0 z1 hd hq kk
theorem ka_47 {i z : Int} (hC : Cx E g cc own Ts nL rm) (hd : decode cc pc = .ok (.iaload, 1)) (hq : pc + 1 = q) (h0 : 0 ≤ i) (h1 : i < 1) (z0 : 0 ≤ z) (z1 : z < 200) (kk : Wk E g nL S q lv (vi (S 47 i z) :: st)) : Wk E g nL S pc lv (vi z :: vr g 47 i :: st) := kw_iald (n := 200) hC rfl (by decide) h0 h1 z0 z1 hd hq kk
theorem ks_47 {i z x : Int} (hC : Cx E g cc own Ts nL rm) (hd : decode cc pc = .ok (.iastore, 1)) (hq : pc + 1 = q) (h0 : 0 ≤ i) (h1 : i < 1) (z0 : 0 ≤ z) (z1 : z < 200) (kk : Wk E g nL (ups S 47 i z x) q lv st) : Wk E g nL S pc lv (vi x :: vi z :: vr g 47 i :: st) := kw_iast (n := 200) hC (fun _ => rfl) (by decide) h0 h1 z0 z1 hd hq kk
theorem ka_49 {i z : Int} (hC : Cx E g cc own Ts nL rm) (hd : decode cc pc = .ok (.iaload, 1)) (hq : pc + 1 = q) (h0 : 0 ≤ i) (h1 : i < 1) (z0 : 0 ≤ z) (z1 : z < 200) (kk : Wk E g nL S q lv (vi (S 49 i z) :: st)) : Wk E g nL S pc lv (vi z :: vr g 49 i :: st) := kw_iald (n := 200) hC rfl (by decide) h0 h1 z0 z1 hd hq kk
theorem ks_49 {i z x : Int} (hC : Cx E g cc own Ts nL rm) (hd : decode cc pc = .ok (.iastore, 1)) (hq : pc + 1 = q) (h0 : 0 ≤ i) (h1 : i < 1) (z0 : 0 ≤ z) (z1 : z < 200) (kk : Wk E g nL (ups S 49 i z x) q lv st) : Wk E g nL S pc lv (vi x :: vi z :: vr g 49 i :: st) := kw_iast (n := 200) hC (fun _ => rfl) (by decide) h0 h1 z0 z1 hd hq kk
theorem ka_51 {i z : Int} (hC : Cx E g cc own Ts nL rm) (hd : decode cc pc = .ok (.iaload, 1)) (hq : pc + 1 = q) (h0 : 0 ≤ i) (h1 : i < 1) (z0 : 0 ≤ z) (z1 : z < 200) (kk : Wk E g nL S q lv (vi (S 51 i z) :: st)) : Wk E g nL S pc lv (vi z :: vr g 51 i :: st) := kw_iald (n := 200) hC rfl (by decide) h0 h1 z0 z1 hd hq kk
theorem ks_51 {i z x : Int} (hC : Cx E g cc own Ts nL rm) (hd : decode cc pc = .ok (.iastore, 1)) (hq : pc + 1 = q) (h0 : 0 ≤ i) (h1 : i < 1) (z0 : 0 ≤ z) (z1 : z < 200) (kk : Wk E g nL (ups S 51 i z x) q lv st) : Wk E g nL S pc lv (vi x :: vi z :: vr g 51 i :: st) := kw_iast (n := 200) hC (fun _ => rfl) (by decide) h0 h1 z0 z1 hd hq kk
theorem ka_53 {i z : Int} (hC : Cx E g cc own Ts nL rm) (hd : decode cc pc = .ok (.iaload, 1)) (hq : pc + 1 = q) (h0 : 0 ≤ i) (h1 : i < 1) (z0 : 0 ≤ z) (z1 : z < 200) (kk : Wk E g nL S q lv (vi (S 53 i z) :: st)) : Wk E g nL S pc lv (vi z :: vr g 53 i :: st) := kw_iald (n := 200) hC rfl (by decide) h0 h1 z0 z1 hd hq kk
theorem ks_53 {i z x : Int} (hC : Cx E g cc own Ts nL rm) (hd : decode cc pc = .ok (.iastore, 1)) (hq : pc + 1 = q) (h0 : 0 ≤ i) (h1 : i < 1) (z0 : 0 ≤ z) (z1 : z < 200) (kk : Wk E g nL (ups S 53 i z x) q lv st) : Wk E g nL S pc lv (vi x :: vi z :: vr g 53 i :: st) := kw_iast (n := 200) hC (fun _ => rfl) (by decide) h0 h1 z0 z1 hd hq kk
theorem ka_55 {i z : Int} (hC : Cx E g cc own Ts nL rm) (hd : decode cc pc = .ok (.laload, 1)) (hq : pc + 1 = q) (h0 : 0 ≤ i) (h1 : i < 1) (z0 : 0 ≤ z) (z1 : z < 6) (kk : Wk E g nL S q lv (vl (S 55 i z) :: st)) : Wk E g nL S pc lv (vi z :: vr g 55 i :: st) := kw_lald (n := 6) hC rfl (by decide) h0 h1 z0 z1 hd hq kk
theorem ks_55 {i z x : Int} (hC : Cx E g cc own Ts nL rm) (hd : decode cc pc = .ok (.lastore, 1)) (hq : pc + 1 = q) (h0 : 0 ≤ i) (h1 : i < 1) (z0 : 0 ≤ z) (z1 : z < 6) (kk : Wk E g nL (ups S 55 i z x) q lv st) : Wk E g nL S pc lv (vl x :: vi z :: vr g 55 i :: st) := kw_last (n := 6) hC (fun _ => rfl) (by decide) h0 h1 z0 z1 hd hq kk
theorem ka_57 {i z : Int} (hC : Cx E g cc own Ts nL rm) (hd : decode cc pc = .ok (.laload, 1)) (hq : pc + 1 = q) (h0 : 0 ≤ i) (h1 : i < 1) (z0 : 0 ≤ z) (z1 : z < 36) (kk : Wk E g nL S q lv (vl (S 57 i z) :: st)) : Wk E g nL S pc lv (vi z :: vr g 57 i :: st) := kw_lald (n := 36) hC rfl (by decide) h0 h1 z0 z1 hd hq kk
theorem ks_57 {i z x : Int} (hC : Cx E g cc own Ts nL rm) (hd : decode cc pc = .ok (.lastore, 1)) (hq : pc + 1 = q) (h0 : 0 ≤ i) (h1 : i < 1) (z0 : 0 ≤ z) (z1 : z < 36) (kk : Wk E g nL (ups S 57 i z x) q lv st) : Wk E g nL S pc lv (vl x :: vi z :: vr g 57 i :: st) := kw_last (n := 36) hC (fun _ => rfl) (by decide) h0 h1 z0 z1 hd hq kk
theorem ka_58 {i z : Int} (hC : Cx E g cc own Ts nL rm) (hd : decode cc pc = .ok (.laload, 1)) (hq : pc + 1 = q) (h0 : 0 ≤ i) (h1 : i < 1) (z0 : 0 ≤ z) (z1 : z < 2520) (kk : Wk E g nL S q lv (vl (S 58 i z) :: st)) : Wk E g nL S pc lv (vi z :: vr g 58 i :: st) := kw_lald (n := 2520) hC rfl (by decide) h0 h1 z0 z1 hd hq kk
theorem ks_58 {i z x : Int} (hC : Cx E g cc own Ts nL rm) (hd : decode cc pc = .ok (.lastore, 1)) (hq : pc + 1 = q) (h0 : 0 ≤ i) (h1 : i < 1) (z0 : 0 ≤ z) (z1 : z < 2520) (kk : Wk E g nL (ups S 58 i z x) q lv st) : Wk E g nL S pc lv (vl x :: vi z :: vr g 58 i :: st) := kw_last (n := 2520) hC (fun _ => rfl) (by decide) h0 h1 z0 z1 hd hq kk
theorem ka_59 {i z : Int} (hC : Cx E g cc own Ts nL rm) (hd : decode cc pc = .ok (.iaload, 1)) (hq : pc + 1 = q) (h0 : 0 ≤ i) (h1 : i < 1) (z0 : 0 ≤ z) (z1 : z < 420) (kk : Wk E g nL S q lv (vi (S 59 i z) :: st)) : Wk E g nL S pc lv (vi z :: vr g 59 i :: st) := kw_iald (n := 420) hC rfl (by decide) h0 h1 z0 z1 hd hq kk
theorem ks_59 {i z x : Int} (hC : Cx E g cc own Ts nL rm) (hd : decode cc pc = .ok (.iastore, 1)) (hq : pc + 1 = q) (h0 : 0 ≤ i) (h1 : i < 1) (z0 : 0 ≤ z) (z1 : z < 420) (kk : Wk E g nL (ups S 59 i z x) q lv st) : Wk E g nL S pc lv (vi x :: vi z :: vr g 59 i :: st) := kw_iast (n := 420) hC (fun _ => rfl) (by decide) h0 h1 z0 z1 hd hq kk
theorem ka_62 {i z : Int} (hC : Cx E g cc own Ts nL rm) (hd : decode cc pc = .ok (.iaload, 1)) (hq : pc + 1 = q) (h0 : 0 ≤ i) (h1 : i < 1) (z0 : 0 ≤ z) (z1 : z < 12000) (kk : Wk E g nL S q lv (vi (S 62 i z) :: st)) : Wk E g nL S pc lv (vi z :: vr g 62 i :: st) := kw_iald (n := 12000) hC rfl (by decide) h0 h1 z0 z1 hd hq kk
theorem ks_62 {i z x : Int} (hC : Cx E g cc own Ts nL rm) (hd : decode cc pc = .ok (.iastore, 1)) (hq : pc + 1 = q) (h0 : 0 ≤ i) (h1 : i < 1) (z0 : 0 ≤ z) (z1 : z < 12000) (kk : Wk E g nL (ups S 62 i z x) q lv st) : Wk E g nL S pc lv (vi x :: vi z :: vr g 62 i :: st) := kw_iast (n := 12000) hC (fun _ => rfl) (by decide) h0 h1 z0 z1 hd hq kk
theorem ka_64 {i z : Int} (hC : Cx E g cc own Ts nL rm) (hd : decode cc pc = .ok (.iaload, 1)) (hq : pc + 1 = q) (h0 : 0 ≤ i) (h1 : i < 1) (z0 : 0 ≤ z) (z1 : z < 6) (kk : Wk E g nL S q lv (vi (S 64 i z) :: st)) : Wk E g nL S pc lv (vi z :: vr g 64 i :: st) := kw_iald (n := 6) hC rfl (by decide) h0 h1 z0 z1 hd hq kk
theorem ks_64 {i z x : Int} (hC : Cx E g cc own Ts nL rm) (hd : decode cc pc = .ok (.iastore, 1)) (hq : pc + 1 = q) (h0 : 0 ≤ i) (h1 : i < 1) (z0 : 0 ≤ z) (z1 : z < 6) (kk : Wk E g nL (ups S 64 i z x) q lv st) : Wk E g nL S pc lv (vi x :: vi z :: vr g 64 i :: st) := kw_iast (n := 6) hC (fun _ => rfl) (by decide) h0 h1 z0 z1 hd hq kk
theorem ka_65 {i z : Int} (hC : Cx E g cc own Ts nL rm) (hd : decode cc pc = .ok (.iaload, 1)) (hq : pc + 1 = q) (h0 : 0 ≤ i) (h1 : i < 1) (z0 : 0 ≤ z) (z1 : z < 3612) (kk : Wk E g nL S q lv (vi (S 65 i z) :: st)) : Wk E g nL S pc lv (vi z :: vr g 65 i :: st) := kw_iald (n := 3612) hC rfl (by decide) h0 h1 z0 z1 hd hq kk
theorem ks_65 {i z x : Int} (hC : Cx E g cc own Ts nL rm) (hd : decode cc pc = .ok (.iastore, 1)) (hq : pc + 1 = q) (h0 : 0 ≤ i) (h1 : i < 1) (z0 : 0 ≤ z) (z1 : z < 3612) (kk : Wk E g nL (ups S 65 i z x) q lv st) : Wk E g nL S pc lv (vi x :: vi z :: vr g 65 i :: st) := kw_iast (n := 3612) hC (fun _ => rfl) (by decide) h0 h1 z0 z1 hd hq kk
theorem ka_67 {i z : Int} (hC : Cx E g cc own Ts nL rm) (hd : decode cc pc = .ok (.iaload, 1)) (hq : pc + 1 = q) (h0 : 0 ≤ i) (h1 : i < 1) (z0 : 0 ≤ z) (z1 : z < 3612) (kk : Wk E g nL S q lv (vi (S 67 i z) :: st)) : Wk E g nL S pc lv (vi z :: vr g 67 i :: st) := kw_iald (n := 3612) hC rfl (by decide) h0 h1 z0 z1 hd hq kk
theorem ks_67 {i z x : Int} (hC : Cx E g cc own Ts nL rm) (hd : decode cc pc = .ok (.iastore, 1)) (hq : pc + 1 = q) (h0 : 0 ≤ i) (h1 : i < 1) (z0 : 0 ≤ z) (z1 : z < 3612) (kk : Wk E g nL (ups S 67 i z x) q lv st) : Wk E g nL S pc lv (vi x :: vi z :: vr g 67 i :: st) := kw_iast (n := 3612) hC (fun _ => rfl) (by decide) h0 h1 z0 z1 hd hq kk
theorem ka_68 {i z : Int} (hC : Cx E g cc own Ts nL rm) (hd : decode cc pc = .ok (.iaload, 1)) (hq : pc + 1 = q) (h0 : 0 ≤ i) (h1 : i < 1) (z0 : 0 ≤ z) (z1 : z < 200) (kk : Wk E g nL S q lv (vi (S 68 i z) :: st)) : Wk E g nL S pc lv (vi z :: vr g 68 i :: st) := kw_iald (n := 200) hC rfl (by decide) h0 h1 z0 z1 hd hq kk
theorem ks_68 {i z x : Int} (hC : Cx E g cc own Ts nL rm) (hd : decode cc pc = .ok (.iastore, 1)) (hq : pc + 1 = q) (h0 : 0 ≤ i) (h1 : i < 1) (z0 : 0 ≤ z) (z1 : z < 200) (kk : Wk E g nL (ups S 68 i z x) q lv st) : Wk E g nL S pc lv (vi x :: vi z :: vr g 68 i :: st) := kw_iast (n := 200) hC (fun _ => rfl) (by decide) h0 h1 z0 z1 hd hq kk
theorem ka_69 {i z : Int} (hC : Cx E g cc own Ts nL rm) (hd : decode cc pc = .ok (.iaload, 1)) (hq : pc + 1 = q) (h0 : 0 ≤ i) (h1 : i < 1) (z0 : 0 ≤ z) (z1 : z < 4) (kk : Wk E g nL S q lv (vi (S 69 i z) :: st)) : Wk E g nL S pc lv (vi z :: vr g 69 i :: st) := kw_iald (n := 4) hC rfl (by decide) h0 h1 z0 z1 hd hq kk
theorem ks_69 {i z x : Int} (hC : Cx E g cc own Ts nL rm) (hd : decode cc pc = .ok (.iastore, 1)) (hq : pc + 1 = q) (h0 : 0 ≤ i) (h1 : i < 1) (z0 : 0 ≤ z) (z1 : z < 4) (kk : Wk E g nL (ups S 69 i z x) q lv st) : Wk E g nL S pc lv (vi x :: vi z :: vr g 69 i :: st) := kw_iast (n := 4) hC (fun _ => rfl) (by decide) h0 h1 z0 z1 hd hq kk
theorem ka_70 {i z : Int} (hC : Cx E g cc own Ts nL rm) (hd : decode cc pc = .ok (.iaload, 1)) (hq : pc + 1 = q) (h0 : 0 ≤ i) (h1 : i < 1) (z0 : 0 ≤ z) (z1 : z < 4) (kk : Wk E g nL S q lv (vi (S 70 i z) :: st)) : Wk E g nL S pc lv (vi z :: vr g 70 i :: st) := kw_iald (n := 4) hC rfl (by decide) h0 h1 z0 z1 hd hq kk
theorem ks_70 {i z x : Int} (hC : Cx E g cc own Ts nL rm) (hd : decode cc pc = .ok (.iastore, 1)) (hq : pc + 1 = q) (h0 : 0 ≤ i) (h1 : i < 1) (z0 : 0 ≤ z) (z1 : z < 4) (kk : Wk E g nL (ups S 70 i z x) q lv st) : Wk E g nL S pc lv (vi x :: vi z :: vr g 70 i :: st) := kw_iast (n := 4) hC (fun _ => rfl) (by decide) h0 h1 z0 z1 hd hq kk
theorem ka_71 {i z : Int} (hC : Cx E g cc own Ts nL rm) (hd : decode cc pc = .ok (.laload, 1)) (hq : pc + 1 = q) (h0 : 0 ≤ i) (h1 : i < 1) (z0 : 0 ≤ z) (z1 : z < 160) (kk : Wk E g nL S q lv (vl (S 71 i z) :: st)) : Wk E g nL S pc lv (vi z :: vr g 71 i :: st) := kw_lald (n := 160) hC rfl (by decide) h0 h1 z0 z1 hd hq kk
theorem ks_71 {i z x : Int} (hC : Cx E g cc own Ts nL rm) (hd : decode cc pc = .ok (.lastore, 1)) (hq : pc + 1 = q) (h0 : 0 ≤ i) (h1 : i < 1) (z0 : 0 ≤ z) (z1 : z < 160) (kk : Wk E g nL (ups S 71 i z x) q lv st) : Wk E g nL S pc lv (vl x :: vi z :: vr g 71 i :: st) := kw_last (n := 160) hC (fun _ => rfl) (by decide) h0 h1 z0 z1 hd hq kk
theorem ka_72 {i z : Int} (hC : Cx E g cc own Ts nL rm) (hd : decode cc pc = .ok (.laload, 1)) (hq : pc + 1 = q) (h0 : 0 ≤ i) (h1 : i < 1) (z0 : 0 ≤ z) (z1 : z < 40) (kk : Wk E g nL S q lv (vl (S 72 i z) :: st)) : Wk E g nL S pc lv (vi z :: vr g 72 i :: st) := kw_lald (n := 40) hC rfl (by decide) h0 h1 z0 z1 hd hq kk
theorem ks_72 {i z x : Int} (hC : Cx E g cc own Ts nL rm) (hd : decode cc pc = .ok (.lastore, 1)) (hq : pc + 1 = q) (h0 : 0 ≤ i) (h1 : i < 1) (z0 : 0 ≤ z) (z1 : z < 40) (kk : Wk E g nL (ups S 72 i z x) q lv st) : Wk E g nL S pc lv (vl x :: vi z :: vr g 72 i :: st) := kw_last (n := 40) hC (fun _ => rfl) (by decide) h0 h1 z0 z1 hd hq kk
end KF
