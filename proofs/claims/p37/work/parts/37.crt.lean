theorem pkN : ∀ a, a < 64 → ∀ b, b < 6 → (Int64.ofInt ((a : Nat) : Int) <<< ((Int32.ofInt (6 * (5 - ((b : Nat) : Int)))).toInt64 &&& 63)).toInt = ((a : Nat) : Int) * 64 ^ (5 - b) := by decide +kernel
theorem pk6_shl {a b : Int} (a0 : 0 ≤ a) (a1 : a < 64) (b0 : 0 ≤ b) (b1 : b < 6) : l_shl a (6 * (5 - b)) = a * 64 ^ (5 - b).toNat := by
  have h := pkN a.toNat (by omega) b.toNat (by omega)
  rw [Int.toNat_of_nonneg a0, Int.toNat_of_nonneg b0] at h
  unfold l_shl
  rw [h, show (5 - b).toNat = 5 - b.toNat by omega]
theorem and63 {z : Int} (h0 : 0 ≤ z) : (Int32.ofInt z &&& Int32.ofInt 63).toInt = z % 64 := by
  rw [pk_and (Int32.ofInt z) (m := Int32.ofInt 63) 6 (by decide)]
  have e : (Int32.ofInt z).toBitVec.toNat = (z % 4294967296).toNat := by
    show (BitVec.ofInt 32 z).toNat = _
    rw [BitVec.toNat_ofInt]
    rfl
  rw [e, nI, ← Int32.ofInt_eq_ofNat, kw_ti (by omega)]
  omega
theorem shN : ∀ b, b < 6 → (((Int32.ofInt (6 * (5 - ((b : Nat) : Int)))).toInt64 &&& 63).toBitVec.smod 64).toNat = 6 * (5 - b) := by decide +kernel
theorem l_shr_e {k b : Int} (k0 : 0 ≤ k) (k1 : k < 68719476736) (b0 : 0 ≤ b) (b1 : b < 6) : l_shr k (6 * (5 - b)) = k / 64 ^ (5 - b).toNat := by
  have h := shN b.toNat (by omega)
  rw [Int.toNat_of_nonneg b0] at h
  have e : l_shr k (6 * (5 - b)) = ((Int64.ofInt k).toBitVec.sshiftRight' (((Int32.ofInt (6 * (5 - b))).toInt64 &&& 63).toBitVec.smod 64)).toInt := rfl
  rw [e, BitVec.toInt_sshiftRight', h]
  have e2 : (Int64.ofInt k).toBitVec.toInt = k := kw_tl (by omega)
  rw [e2, Int.shiftRight_eq_div_pow]
  congr 1
  rw [show 6 * (5 - b.toNat) = 6 * (5 - b).toNat by omega, Nat.pow_mul]
  exact Int.natCast_pow _ _
theorem unp {k b : Int} (k0 : 0 ≤ k) (k1 : k < 68719476736) (b0 : 0 ≤ b) (b1 : b < 6) : i_and (l_shr k (6 * (5 - b))) 63 = dg k b := by
  rw [l_shr_e k0 k1 b0 b1]
  unfold i_and dg
  have h5 : (0 : Int) ≤ k / 64 ^ (5 - b).toNat := Int.ediv_nonneg k0 (Int.le_of_lt (Int.pow_pos (by decide)))
  exact and63 h5
/-- adding to one number of a packed root -/
theorem dg_add {k m c b : Int} (k0 : 0 ≤ k) (m0 : 0 ≤ m) (c0 : 0 ≤ c) (c1 : c < 6) (b0 : 0 ≤ b) (b1 : b < 6) (h : dg k c + m < 64) : dg (k + m * 64 ^ (5 - c).toNat) b = dg k b + if b = c then m else 0 := by
  have hc : c = 0 ∨ c = 1 ∨ c = 2 ∨ c = 3 ∨ c = 4 ∨ c = 5 := by omega
  have hb : b = 0 ∨ b = 1 ∨ b = 2 ∨ b = 3 ∨ b = 4 ∨ b = 5 := by omega
  unfold dg at *
  rcases hc with rfl | rfl | rfl | rfl | rfl | rfl <;> rcases hb with rfl | rfl | rfl | rfl | rfl | rfl <;> simp only [show ((5 : Int) - 0).toNat = 5 from rfl, show ((5 : Int) - 1).toNat = 4 from rfl, show ((5 : Int) - 2).toNat = 3 from rfl, show ((5 : Int) - 3).toNat = 2 from rfl, show ((5 : Int) - 4).toNat = 1 from rfl, show ((5 : Int) - 5).toNat = 0 from rfl, show ((64 : Int) ^ 5) = 1073741824 from rfl, show ((64 : Int) ^ 4) = 16777216 from rfl, show ((64 : Int) ^ 3) = 262144 from rfl, show ((64 : Int) ^ 2) = 4096 from rfl, show ((64 : Int) ^ 1) = 64 from rfl, show ((64 : Int) ^ 0) = 1 from rfl, if_true, if_false] at * <;> (first | rw [if_pos rfl] | rw [if_neg (by decide)] | skip) <;> omega
theorem dg_r (k b : Int) : 0 ≤ dg k b ∧ dg k b ≤ 63 := by unfold dg; omega
theorem dg_0 (b : Int) : dg 0 b = 0 := by unfold dg; simp
theorem dg_top {k m c : Int} (k0 : 0 ≤ k) (k1 : k < 68719476736) (m0 : 0 ≤ m) (c0 : 0 ≤ c) (c1 : c < 6) (h : dg k c + m < 64) : 0 ≤ k + m * 64 ^ (5 - c).toNat ∧ k + m * 64 ^ (5 - c).toNat < 68719476736 := by
  have hc : c = 0 ∨ c = 1 ∨ c = 2 ∨ c = 3 ∨ c = 4 ∨ c = 5 := by omega
  unfold dg at *
  rcases hc with rfl | rfl | rfl | rfl | rfl | rfl <;> simp only [show ((5 : Int) - 0).toNat = 5 from rfl, show ((5 : Int) - 1).toNat = 4 from rfl, show ((5 : Int) - 2).toNat = 3 from rfl, show ((5 : Int) - 3).toNat = 2 from rfl, show ((5 : Int) - 4).toNat = 1 from rfl, show ((5 : Int) - 5).toNat = 0 from rfl, show ((64 : Int) ^ 5) = 1073741824 from rfl, show ((64 : Int) ^ 4) = 16777216 from rfl, show ((64 : Int) ^ 3) = 262144 from rfl, show ((64 : Int) ^ 2) = 4096 from rfl, show ((64 : Int) ^ 1) = 64 from rfl, show ((64 : Int) ^ 0) = 1 from rfl] at * <;> omega
theorem kw_min {E : wE} {g : wG} {cc : ByteArray} {own : String} {Ts : List Cond} {nL : Nat} {rm : Room} {S : wSt} {pc q index : Nat} {lv : List (Nat × Value)} {st : List Value} {a b : Int} (hC : Cx E g cc own Ts nL rm) (hlink : Cond.methodLink own index Lib.Math.min.name ∈ Ts) (hstat : Cond.static Lib.Math.min.name ∈ Ts) (hini : Cond.initialized "java/lang/Math" ∈ Ts) (hcode : Cond.code Lib.Math.min.name Lib.Math.min.code 2 (some .int) ∈ Ts) (hframes : 1 ≤ rm.frames) (hloc : (st.map fun v => v.category).sum + 13 ≤ rm.locals) (hd : decode cc pc = .ok (.invokestatic index, 3)) (hq : pc + 3 = q) (ha : -2147483648 ≤ a ∧ a ≤ 2147483647) (hb9 : -2147483648 ≤ b ∧ b ≤ 2147483647) (kk : Wk E g nL S q lv (vi (min a b) :: st)) : Wk E g nL S pc lv (vi b :: vi a :: st) := by
  obtain ⟨p, l, e, R, s, m, args, below, meth, c, A, H0, cells, slots, Q⟩ := E
  obtain ⟨hx, hb, hml, hown, hts, hK, hR, hD, hA, hx1, hx2⟩ := hC
  subst hq
  subst hR
  intro H locs ls hP hS hl
  have h := kk H locs ls hP hS hl
  have e1 : vi (min a b) = .int (if Int32.ofInt b < Int32.ofInt a then Int32.ofInt b else Int32.ofInt a) := by
    unfold vi
    congr 1
    by_cases q : b < a
    · rw [if_pos ((kw_ltI hb9 ha).mpr q), show min a b = b by omega]
    · rw [if_neg (fun z => q ((kw_ltI hb9 ha).mp z)), show min a b = a by omega]
  rw [e1] at h
  exact va_mmin hx hb (by rw [hml]; exact hl.1.symm) hown (hts _ hlink) (hts _ hstat) (hts _ hini) (hts _ hcode) hframes hloc hx1 hx2 hd h
/-- one height's keys are as they must be -/
def KOK (n q k : Int) : Prop := (0 ≤ k ∧ k < 68719476736) ∧ sm 6 (fun b => dg k (b : Int)) = q ∧ ∀ b, n ≤ b → b < 6 → dg k b = 0
theorem dg_le {n q k : Int} (h : KOK n q k) {b : Int} (b0 : 0 ≤ b) (b1 : b < 6) : dg k b ≤ q := by
  have h1 := sm_ge (n := 6) (f := fun b => dg k (b : Int)) (fun i _ => (dg_r k i).1) (i := b.toNat) (by omega)
  rw [h.2.1] at h1
  simp only [Int.toNat_of_nonneg b0] at h1
  exact h1
theorem KOK.add {n q k m c : Int} (h : KOK n q k) (m0 : 0 ≤ m) (hm : q + m ≤ 63) (c0 : 0 ≤ c) (c1 : c < n) (hn : n ≤ 6) : KOK n (q + m) (k + m * 64 ^ (5 - c).toNat) := by
  have hd := dg_le h c0 (by omega)
  refine ⟨dg_top h.1.1 h.1.2 m0 c0 (by omega) (by omega), ?_, fun b b0 b1 => ?_⟩
  · have e : sm 6 (fun b => dg (k + m * 64 ^ (5 - c).toNat) (b : Int)) = sm 6 (fun b => dg k (b : Int) + m * ownV c.toNat b) := sm_congr (fun b hb => by
      rw [dg_add h.1.1 m0 c0 (by omega) (by omega) (by omega) (by omega)]
      unfold ownV
      by_cases q : b = c.toNat
      · rw [if_pos q, if_pos (by omega)]; omega
      · rw [if_neg q, if_neg (by omega)]; omega)
    rw [e, sm_add, h.2.1]
    rw [sm_own (fun _ => m) (i := c.toNat) (by omega)]
  · by_cases bneg : 0 ≤ b
    · rw [dg_add h.1.1 m0 c0 (by omega) bneg b1 (by omega), h.2.2 b b0 b1, if_neg (by omega)]; rfl
    · omega
theorem KOK.zero (n : Int) : KOK n 0 0 := ⟨by omega, sm_zero (fun b _ => dg_0 _), fun b _ _ => dg_0 b⟩
/-- the keys from first to end hold what those before held, and one more -/
def INS (K K' : Int → Int) (first e r key : Int) : Prop := (∀ j, j < first → K' j = K j) ∧ ((r = -3 ∧ e = 400) ∨ ((r = e ∨ r = e + 1) ∧ r ≤ 400 ∧ (∃ y, first ≤ y ∧ y < r ∧ K' y = key) ∧ (∀ x, first ≤ x → x < e → ∃ y, first ≤ y ∧ y < r ∧ K' y = K x) ∧ ∀ y, first ≤ y → y < r → K' y = key ∨ ∃ x, first ≤ x ∧ x < e ∧ K' y = K x))
def fRt (k : Nat) (_i _j : Int) : Prop := 12 ≤ k ∧ k ≤ 15
theorem CI.rt {S S' : wSt} (h : CI S) (f : Fr fRt S S') (hf : RLI S') : CI S' := by
  have e (k : Nat) (i : Int) (hk : ¬ (12 ≤ k ∧ k ≤ 15)) : S' k i = S k i := funext fun j => f k i j hk
  obtain ⟨h1, h2, h3, h4, h5, h6, -, h8⟩ := h
  exact ⟨by rw [e 3 16 (by omega), e 4 16 (by omega), e 5 16 (by omega)]; exact h1, by rw [e 8 0 (by omega)]; exact h2, fun c c0 c1 => by rw [e 3 c (by omega), e 4 c (by omega), e 5 c (by omega)]; exact h3 c c0 c1, fun s s0 s1 => by rw [e 1 s (by omega), e 2 s (by omega), e 3 16 (by omega)]; exact h4 s s0 s1, fun l l0 l1 => by rw [e 6 l (by omega)]; exact h5 l l0 l1, fun l j l0 l1 j0 j1 => by rw [e 7 l (by omega)]; exact h6 l j l0 l1 j0 j1, hf, by unfold FLI; rw [e 16 0 (by omega), e 17 0 (by omega), e 18 0 (by omega), e 3 16 (by omega)]; exact h8⟩
theorem fRt_tX {S S' : wSt} (h : Fr fRt S S') : Fr tX S S' := h.mono (fun k i j q => by unfold fRt at q; unfold tX; omega)
