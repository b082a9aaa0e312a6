/-! pictures of what methods do to the world -/
/-- n places of cell i of kind k hold v -/
def fiS (S : wSt) (k : Nat) (i n v : Int) : wSt := fun k' i' j' => if k' = k ∧ i' = i ∧ 0 ≤ j' ∧ j' < n then v else S k' i' j'
theorem fiS_0 (S : wSt) (k : Nat) (i v : Int) : fiS S k i 0 v = S := by
  funext k' i' j'
  exact if_neg (fun h => by omega)
theorem fiS_s (S : wSt) (k : Nat) (i n v : Int) (hn : 0 ≤ n) : ups (fiS S k i n v) k i n v = fiS S k i (n + 1) v := by
  funext k' i' j'
  simp only [ups, fiS]
  by_cases h : k' = k ∧ i' = i
  · by_cases h2 : j' = n
    · rw [if_pos ⟨h.1, h.2, h2⟩, if_pos ⟨h.1, h.2, by omega, by omega⟩]
    · rw [if_neg (fun q => h2 q.2.2)]
      by_cases h3 : 0 ≤ j' ∧ j' < n
      · rw [if_pos ⟨h.1, h.2, h3⟩, if_pos ⟨h.1, h.2, by omega, by omega⟩]
      · rw [if_neg (fun q => h3 q.2.2), if_neg (fun q => h3 ⟨q.2.2.1, by omega⟩)]
  · rw [if_neg (fun q => h ⟨q.1, q.2.1⟩), if_neg (fun q => h ⟨q.1, q.2.1⟩), if_neg (fun q => h ⟨q.1, q.2.1⟩)]
/-- the first n slots' words are empty -/
def wzS (S : wSt) (n : Int) : wSt := fun k i j => if k = 1 ∧ 0 ≤ i ∧ i < n ∧ j = 1 then 0 else S k i j
theorem wzS_0 (S : wSt) : wzS S 0 = S := by
  funext k i j
  exact if_neg (fun h => by omega)
theorem wzS_s (S : wSt) (n : Int) (hn : 0 ≤ n) : ups (wzS S n) 1 n 1 0 = wzS S (n + 1) := by
  funext k i j
  simp only [ups, wzS]
  by_cases h : k = 1 ∧ i = n ∧ j = 1
  · rw [if_pos h, if_pos ⟨h.1, by omega, by omega, h.2.2⟩]
  · rw [if_neg h]
    by_cases h3 : k = 1 ∧ 0 ≤ i ∧ i < n ∧ j = 1
    · rw [if_pos h3, if_pos ⟨h3.1, by omega, by omega, h3.2.2.2⟩]
    · rw [if_neg h3, if_neg (fun q => h3 ⟨q.1, q.2.1, by
        have : ¬ i = n := fun e => h ⟨q.1, e, q.2.2.2⟩
        omega, q.2.2.2⟩)]
def anS (S : wSt) : wSt := ups (ups (ups (ups (wzS S 8) 12 0 4 0) 12 0 5 0) 16 0 4 0) 16 0 5 0
/-- set j comes to set i -/
def teS (S : wSt) (i j : Int) : wSt := ups (cpS (cpS S 4 j 0 4 i 0 6) 5 j 0 5 i 0 36) 3 i 2 (S 3 j 2)
/-- word b comes to word a -/
def tkS (S : wSt) (a b : Int) : wSt := ups (cpS S 2 b 0 2 a 0 (S 1 b 1)) 1 a 1 (S 1 b 1)
def apS (S : wSt) (a b : Int) : wSt := ups (cpS S 2 b 0 2 a (S 1 a 1) (S 1 b 1)) 1 a 1 (S 1 a 1 + S 1 b 1)
def kpS (S : wSt) : wSt := ups (ups (teS S (S 8 0 1) 16) 8 0 1 ((S 8 0 1 + 1) % 16)) 8 0 2 (if S 8 0 2 < 16 then S 8 0 2 + 1 else S 8 0 2)
/-- nothing of the other side is touched -/
def sM (S S' : wSt) : Prop := ∀ k : Nat, 30 ≤ k → S' k = S k
theorem sM_rfl (S : wSt) : sM S S := fun _ _ => rfl
theorem sM_up {S S1 : wSt} {k : Nat} {i j z : Int} (hk : k < 30) (h : sM S S1) : sM S (ups S1 k i j z) := fun k' h' => by rw [ups_k S1 i j z (by omega)]; exact h k' h'
theorem sM_cp {S S1 : wSt} {k0 : Nat} {i0 sp : Int} {k1 : Nat} {i1 dp n : Int} (hk : k1 < 30) (h : sM S S1) : sM S (cpS S1 k0 i0 sp k1 i1 dp n) := fun k' h' => by
  funext i
  rw [cpS_ki S1 (by omega)]
  exact congrFun (h k' h') i
theorem sM_wz {S S1 : wSt} {n : Int} (h : sM S S1) : sM S (wzS S1 n) := fun k' h' => by
  funext i j
  simp only [wzS]
  rw [if_neg (by omega)]
  exact congrFun (congrFun (h k' h') i) j
theorem sM_fi {S S1 : wSt} {k : Nat} {i n v : Int} (hk : k < 30) (h : sM S S1) : sM S (fiS S1 k i n v) := fun k' h' => by
  funext i' j'
  simp only [fiS]
  rw [if_neg (by omega)]
  exact congrFun (congrFun (h k' h') i') j'
theorem sM_an {S S1 : wSt} (h : sM S S1) : sM S (anS S1) := sM_up (by decide) (sM_up (by decide) (sM_up (by decide) (sM_up (by decide) (sM_wz h))))
theorem sM_te {S S1 : wSt} {i j : Int} (h : sM S S1) : sM S (teS S1 i j) := sM_up (by decide) (sM_cp (by decide) (sM_cp (by decide) h))
theorem sM_tk {S S1 : wSt} {a b : Int} (h : sM S S1) : sM S (tkS S1 a b) := sM_up (by decide) (sM_cp (by decide) h)
theorem sM_ap {S S1 : wSt} {a b : Int} (h : sM S S1) : sM S (apS S1 a b) := sM_up (by decide) (sM_cp (by decide) h)
theorem sM_kp {S S1 : wSt} (h : sM S S1) : sM S (kpS S1) := sM_up (by decide) (sM_up (by decide) (sM_te h))
section KX
variable {E : wE} {g : wG} {nL : Nat} {S : wSt} {pc : Nat} {lv : List (Nat × Value)} {st : List Value}
theorem kw_chi {z z' : Int} (h : z = z') (kk : Wk E g nL S pc lv (vi z' :: st)) : Wk E g nL S pc lv (vi z :: st) := h ▸ kk
theorem kw_chl {z z' : Int} (h : z = z') (kk : Wk E g nL S pc lv (vl z' :: st)) : Wk E g nL S pc lv (vl z :: st) := h ▸ kk
theorem kw_chS {S' : wSt} (h : S = S') (kk : Wk E g nL S' pc lv st) : Wk E g nL S pc lv st := h ▸ kk
end KX
theorem kw_rem {a b : Int} (ha : 0 ≤ a) (ha2 : a < 2147483648) (hb : 0 < b) (hb2 : b < 2147483648) : Int32.ofInt a - Int32.ofInt a / Int32.ofInt b * Int32.ofInt b = Int32.ofInt (a % b) := by
  have h := pk_rem (a := a.toNat) (d := b.toNat) (by omega) (by omega) (by omega)
  have ea : nI a.toNat = Int32.ofInt a := by rw [nI, ← Int32.ofInt_eq_ofNat, Int.toNat_of_nonneg ha]
  have eb : nI b.toNat = Int32.ofInt b := by rw [nI, ← Int32.ofInt_eq_ofNat, Int.toNat_of_nonneg (by omega)]
  have er : nI (a.toNat % b.toNat) = Int32.ofInt (a % b) := by
    rw [nI, ← Int32.ofInt_eq_ofNat]
    congr 1
    rw [Int.natCast_emod, Int.toNat_of_nonneg ha, Int.toNat_of_nonneg (by omega)]
  rw [ea, eb, er] at h
  exact h
theorem kw_irem {E : wE} {g : wG} {cc : ByteArray} {own : String} {Ts : List Cond} {nL : Nat} {rm : Room} {S : wSt} {pc q : Nat} {lv : List (Nat × Value)} {st : List Value} {a b : Int} (hC : Cx E g cc own Ts nL rm) (hd : decode cc pc = .ok (.irem, 1)) (hq : pc + 1 = q) (ha : 0 ≤ a ∧ a < 2147483648) (hb9 : 0 < b ∧ b < 2147483648) (kk : Wk E g nL S q lv (vi (a % b) :: st)) : Wk E g nL S pc lv (vi b :: vi a :: st) := by
  obtain ⟨p, l, e, R, s, m, args, below, meth, c, A, H0, cells, slots, Q⟩ := E
  obtain ⟨hx, hb, hml, hown, hts, hK, hR, hD, hA, hc1, hc2⟩ := hC
  subst hq
  intro H locs ls hP hS hl
  have h := kk H locs ls hP hS hl
  rw [vi, ← kw_rem ha.1 ha.2 hb9.1 hb9.2] at h
  refine lv_irem hx hb hd (fun h9 => ?_) h
  have := (kw_eqI (a := b) (b := 0) (by omega) (by omega)).mp h9
  omega

set_option maxHeartbeats 4000000 in
set_option maxRecDepth 100000 in
/-- general -/
theorem c_X7_isKind {g : wG} (hD : wD g) {S : wSt} {a : Int} (ha : -2147483648 ≤ a ∧ a ≤ 2147483647) (l : Launch) : Kt l yX7_isKind wsX7_isKind ({ frames := 0, cells := 0, slots := 0, locals := 0 } : Room) g S [vi a] (pI (fun r S' => r = bz (0 ≤ a ∧ a < 3) ∧ S' = S)) := by
  refine Kt.of (cc := cX7_isKind) (nL := 1) (ret := (some .boolean)) (own := RX7) rfl hD (by decide) rfl (Nat.le_of_ble_eq_true rfl) ⟨rfl, rfl⟩ ?_
  intro E hC hR
  show Wk E g 1 S 0 [(0, vi a)] []
  refine kw_iload_n hC dX7_isKind_0 rfl 0 rfl ?_
  refine kw_if_lt (tgt := 13) hC dX7_isKind_1 rfl (by decide) (by omega) ⟨fun c1 => ?_, fun c1 => ?_⟩
  · refine kw_iconst hC dX7_isKind_13 rfl ?_
    exact hR.2.1 rfl _ _ _ _ dX7_isKind_14 (by omega) ⟨_, rfl, by first | exact (bz_t (by omega)).symm | exact (bz_f (by omega)).symm, rfl⟩
  · refine kw_iload_n hC dX7_isKind_4 rfl 0 rfl ?_
    refine kw_iconst hC dX7_isKind_5 rfl ?_
    refine kw_icmp_ge (tgt := 13) hC dX7_isKind_6 rfl (by decide) (by omega) (by omega) ⟨fun c6 => ?_, fun c6 => ?_⟩
    · refine kw_iconst hC dX7_isKind_13 rfl ?_
      exact hR.2.1 rfl _ _ _ _ dX7_isKind_14 (by omega) ⟨_, rfl, by first | exact (bz_t (by omega)).symm | exact (bz_f (by omega)).symm, rfl⟩
    · refine kw_iconst hC dX7_isKind_9 rfl ?_
      refine kw_goto (tgt := 14) hC dX7_isKind_10 rfl (by decide) ?_
      exact hR.2.1 rfl _ _ _ _ dX7_isKind_14 (by omega) ⟨_, rfl, by first | exact (bz_t (by omega)).symm | exact (bz_f (by omega)).symm, rfl⟩

set_option maxHeartbeats 4000000 in
set_option maxRecDepth 100000 in
/-- general -/
theorem c_X7_isSlot {g : wG} (hD : wD g) {S : wSt} {a : Int} (ha : -2147483648 ≤ a ∧ a ≤ 2147483647) (l : Launch) : Kt l yX7_isSlot wsX7_isSlot ({ frames := 0, cells := 0, slots := 0, locals := 0 } : Room) g S [vi a] (pI (fun r S' => r = bz (0 ≤ a ∧ a < 8) ∧ S' = S)) := by
  refine Kt.of (cc := cX7_isSlot) (nL := 1) (ret := (some .boolean)) (own := RX7) rfl hD (by decide) rfl (Nat.le_of_ble_eq_true rfl) ⟨rfl, rfl⟩ ?_
  intro E hC hR
  show Wk E g 1 S 0 [(0, vi a)] []
  refine kw_iload_n hC dX7_isSlot_0 rfl 0 rfl ?_
  refine kw_if_lt (tgt := 14) hC dX7_isSlot_1 rfl (by decide) (by omega) ⟨fun c1 => ?_, fun c1 => ?_⟩
  · refine kw_iconst hC dX7_isSlot_14 rfl ?_
    exact hR.2.1 rfl _ _ _ _ dX7_isSlot_15 (by omega) ⟨_, rfl, by first | exact (bz_t (by omega)).symm | exact (bz_f (by omega)).symm, rfl⟩
  · refine kw_iload_n hC dX7_isSlot_4 rfl 0 rfl ?_
    refine kw_bipush hC dX7_isSlot_5 rfl (by decide) ?_
    refine kw_icmp_ge (tgt := 14) hC dX7_isSlot_7 rfl (by decide) (by omega) (by omega) ⟨fun c7 => ?_, fun c7 => ?_⟩
    · refine kw_iconst hC dX7_isSlot_14 rfl ?_
      exact hR.2.1 rfl _ _ _ _ dX7_isSlot_15 (by omega) ⟨_, rfl, by first | exact (bz_t (by omega)).symm | exact (bz_f (by omega)).symm, rfl⟩
    · refine kw_iconst hC dX7_isSlot_10 rfl ?_
      refine kw_goto (tgt := 15) hC dX7_isSlot_11 rfl (by decide) ?_
      exact hR.2.1 rfl _ _ _ _ dX7_isSlot_15 (by omega) ⟨_, rfl, by first | exact (bz_t (by omega)).symm | exact (bz_f (by omega)).symm, rfl⟩

set_option maxHeartbeats 4000000 in
set_option maxRecDepth 100000 in
/-- general -/
theorem c_X7_isLeaf {g : wG} (hD : wD g) {S : wSt} {a : Int} (ha : -2147483648 ≤ a ∧ a ≤ 2147483647) (l : Launch) : Kt l yX7_isLeaf wsX7_isLeaf ({ frames := 0, cells := 0, slots := 0, locals := 0 } : Room) g S [vi a] (pI (fun r S' => r = bz (0 ≤ a ∧ a < 4) ∧ S' = S)) := by
  refine Kt.of (cc := cX7_isLeaf) (nL := 1) (ret := (some .boolean)) (own := RX7) rfl hD (by decide) rfl (Nat.le_of_ble_eq_true rfl) ⟨rfl, rfl⟩ ?_
  intro E hC hR
  show Wk E g 1 S 0 [(0, vi a)] []
  refine kw_iload_n hC dX7_isLeaf_0 rfl 0 rfl ?_
  refine kw_if_lt (tgt := 13) hC dX7_isLeaf_1 rfl (by decide) (by omega) ⟨fun c1 => ?_, fun c1 => ?_⟩
  · refine kw_iconst hC dX7_isLeaf_13 rfl ?_
    exact hR.2.1 rfl _ _ _ _ dX7_isLeaf_14 (by omega) ⟨_, rfl, by first | exact (bz_t (by omega)).symm | exact (bz_f (by omega)).symm, rfl⟩
  · refine kw_iload_n hC dX7_isLeaf_4 rfl 0 rfl ?_
    refine kw_iconst hC dX7_isLeaf_5 rfl ?_
    refine kw_icmp_ge (tgt := 13) hC dX7_isLeaf_6 rfl (by decide) (by omega) (by omega) ⟨fun c6 => ?_, fun c6 => ?_⟩
    · refine kw_iconst hC dX7_isLeaf_13 rfl ?_
      exact hR.2.1 rfl _ _ _ _ dX7_isLeaf_14 (by omega) ⟨_, rfl, by first | exact (bz_t (by omega)).symm | exact (bz_f (by omega)).symm, rfl⟩
    · refine kw_iconst hC dX7_isLeaf_9 rfl ?_
      refine kw_goto (tgt := 14) hC dX7_isLeaf_10 rfl (by decide) ?_
      exact hR.2.1 rfl _ _ _ _ dX7_isLeaf_14 (by omega) ⟨_, rfl, by first | exact (bz_t (by omega)).symm | exact (bz_f (by omega)).symm, rfl⟩

set_option maxHeartbeats 4000000 in
set_option maxRecDepth 100000 in
/-- general -/
theorem c_X7_isLane {g : wG} (hD : wD g) {S : wSt} {a : Int} (ha : -2147483648 ≤ a ∧ a ≤ 2147483647) (l : Launch) : Kt l yX7_isLane wsX7_isLane ({ frames := 0, cells := 0, slots := 0, locals := 0 } : Room) g S [vi a] (pI (fun r S' => r = bz (0 ≤ a ∧ a < 3) ∧ S' = S)) := by
  refine Kt.of (cc := cX7_isLane) (nL := 1) (ret := (some .boolean)) (own := RX7) rfl hD (by decide) rfl (Nat.le_of_ble_eq_true rfl) ⟨rfl, rfl⟩ ?_
  intro E hC hR
  show Wk E g 1 S 0 [(0, vi a)] []
  refine kw_iload_n hC dX7_isLane_0 rfl 0 rfl ?_
  refine kw_if_lt (tgt := 13) hC dX7_isLane_1 rfl (by decide) (by omega) ⟨fun c1 => ?_, fun c1 => ?_⟩
  · refine kw_iconst hC dX7_isLane_13 rfl ?_
    exact hR.2.1 rfl _ _ _ _ dX7_isLane_14 (by omega) ⟨_, rfl, by first | exact (bz_t (by omega)).symm | exact (bz_f (by omega)).symm, rfl⟩
  · refine kw_iload_n hC dX7_isLane_4 rfl 0 rfl ?_
    refine kw_iconst hC dX7_isLane_5 rfl ?_
    refine kw_icmp_ge (tgt := 13) hC dX7_isLane_6 rfl (by decide) (by omega) (by omega) ⟨fun c6 => ?_, fun c6 => ?_⟩
    · refine kw_iconst hC dX7_isLane_13 rfl ?_
      exact hR.2.1 rfl _ _ _ _ dX7_isLane_14 (by omega) ⟨_, rfl, by first | exact (bz_t (by omega)).symm | exact (bz_f (by omega)).symm, rfl⟩
    · refine kw_iconst hC dX7_isLane_9 rfl ?_
      refine kw_goto (tgt := 14) hC dX7_isLane_10 rfl (by decide) ?_
      exact hR.2.1 rfl _ _ _ _ dX7_isLane_14 (by omega) ⟨_, rfl, by first | exact (bz_t (by omega)).symm | exact (bz_f (by omega)).symm, rfl⟩

set_option maxHeartbeats 4000000 in
set_option maxRecDepth 100000 in
/-- general: Arrays.fill -/
theorem c_J7_fill {g : wG} (hD : wD g) {S : wSt} {k n : Nat} {i v : Int} (hL : ∀ r, cx g k i r = ka_l g n r) (hn : n < 2147483648) (h0 : 0 ≤ i) (h1 : i < cn k) (l : Launch) : Kt l yJ7_fill_d0a16 wsJ7_fill_d0a16 ({ frames := 0, cells := 0, slots := 0, locals := 0 } : Room) g S [vr g k i, vl v] (pV (fun S' => S' = fiS S k i n v)) := by
  refine Kt.of (cc := cJ7_fill_d0a16) (nL := 5) (ret := none) (own := RJ7) rfl hD (by decide) rfl (Nat.le_of_ble_eq_true rfl) ⟨rfl, rfl⟩ ?_
  intro E hC hR
  show Wk E g 5 S 0 [(0, vr g k i), (1, vl v)] []
  refine kw_iconst hC dJ7_fill_d0a16_0 rfl ?_
  refine kw_istore_n (lv' := [(3, _), (0, _), (1, _)]) hC dJ7_fill_d0a16_1 rfl (by decide) rfl ?_
  refine kw_aload_n hC dJ7_fill_d0a16_2 rfl 1 rfl ?_
  refine kw_alenL (n := n) hC (hL _) h0 h1 dJ7_fill_d0a16_3 rfl ?_
  refine kw_istore (lv' := [(4, _), (3, _), (0, _), (1, _)]) hC dJ7_fill_d0a16_4 rfl (by decide) rfl ?_
  have hL6 : ∀ (n9 : Nat) (x : Int), (0 ≤ x) → (x ≤ n) → ((n : Int) - x < (n9 : Int)) → Wk E g 5 (fiS S k i x v) 6 [(0, vr g k i), (1, vl v), (3, vi x), (4, vi (n : Int))] [] := by
    intro n9
    induction n9 with
    | zero => intro x hx0 hx1 hxn; exact absurd hxn (by omega)
    | succ n9 ih6 =>
      intro x hx0 hx1 hxn
      refine kw_iload_n hC dJ7_fill_d0a16_6 rfl 2 rfl ?_
      refine kw_iload hC dJ7_fill_d0a16_7 rfl 3 rfl ?_
      refine kw_icmp_ge (tgt := 22) hC dJ7_fill_d0a16_9 rfl (by decide) (by omega) (by omega) ⟨fun c9 => ?_, fun c9 => ?_⟩
      · exact hR.2.2.2 rfl _ _ _ dJ7_fill_d0a16_22 ⟨rfl, by rw [show x = (n : Int) by omega]⟩
      · refine kw_aload_n hC dJ7_fill_d0a16_12 rfl 0 rfl ?_
        refine kw_iload_n hC dJ7_fill_d0a16_13 rfl 2 rfl ?_
        refine kw_lload_n hC dJ7_fill_d0a16_14 rfl 1 rfl ?_
        refine kw_last (n := n) hC hL hn h0 h1 (by omega) (by omega) dJ7_fill_d0a16_15 rfl ?_
        rw [fiS_s S k i x v hx0]
        refine kw_iinc (lv' := [(3, _), (0, _), (1, _), (4, _)]) hC dJ7_fill_d0a16_16 rfl 2 rfl (by decide) rfl ?_
        refine kw_goto (tgt := 6) hC dJ7_fill_d0a16_19 rfl (by decide) ?_
        refine kw_lv [1, 2, 0, 3] rfl ?_
        exact ih6 (x + 1) (by omega) (by omega) (by omega)
  refine kw_lv [2, 3, 1, 0] rfl ?_
  refine kw_chS (S' := fiS S k i 0 v) (fiS_0 S k i v).symm ?_
  exact hL6 (n + 1) 0 (by omega) (by omega) (by omega)

set_option maxHeartbeats 4000000 in
set_option maxRecDepth 100000 in
/-- general -/
theorem c_X2_find {g : wG} (hD : wD g) {S : wSt} {i a : Int} (h0 : 0 ≤ i) (h1 : i < 4) (ha : -2147483648 ≤ a ∧ a ≤ 2147483647) (hh : S 6 i 1 = 0 ∨ S 6 i 1 = 1) (hl : -2147483648 ≤ S 6 i 2 ∧ S 6 i 2 ≤ 2147483647) (l : Launch) : Kt l yX2_find wsX2_find ({ frames := 0, cells := 0, slots := 0, locals := 0 } : Room) g S [vr g 6 i, vi a] (pI (fun r S' => r = (if S 6 i 1 = 0 then -11 else if S 6 i 2 = a then 0 else -12) ∧ S' = S)) := by
  refine Kt.of (cc := cX2_find) (nL := 2) (ret := (some .int)) (own := RX2) rfl hD (by decide) rfl (Nat.le_of_ble_eq_true rfl) ⟨rfl, rfl⟩ ?_
  intro E hC hR
  have f21 : Cond.fieldLink RX2 21 "MirrorBench$Leaf" "held" "Z" ∈ wsX2_find := by decide +kernel
  have f25 : Cond.fieldLink RX2 25 "MirrorBench$Leaf" "lane" "I" ∈ wsX2_find := by decide +kernel
  have w2 : ∀ w ∈ wsX20, w ∈ wsX2_find := by decide +kernel
  show Wk E g 2 S 0 [(0, vr g 6 i), (1, vi a)] []
  refine kw_aload_n hC dX2_find_0 rfl 0 rfl ?_
  refine kg_6_1 hC w2 f21 dX2_find_1 rfl (by omega) (by omega) ?_
  refine kw_if_ne (tgt := 10) hC dX2_find_4 rfl (by decide) (by omega) ⟨fun c4 => ?_, fun c4 => ?_⟩
  · refine kw_aload_n hC dX2_find_10 rfl 0 rfl ?_
    refine kg_6_2 hC w2 f25 dX2_find_11 rfl (by omega) (by omega) ?_
    refine kw_iload_n hC dX2_find_14 rfl 1 rfl ?_
    refine kw_icmp_ne (tgt := 22) hC dX2_find_15 rfl (by decide) (by omega) (by omega) ⟨fun c15 => ?_, fun c15 => ?_⟩
    · refine kw_bipush hC dX2_find_22 rfl (by decide) ?_
      exact hR.1 rfl _ _ _ _ dX2_find_24 ⟨_, rfl, by (repeat' split) <;> omega, rfl⟩
    · refine kw_iconst hC dX2_find_18 rfl ?_
      refine kw_goto (tgt := 24) hC dX2_find_19 rfl (by decide) ?_
      exact hR.1 rfl _ _ _ _ dX2_find_24 ⟨_, rfl, by (repeat' split) <;> omega, rfl⟩
  · refine kw_bipush hC dX2_find_7 rfl (by decide) ?_
    exact hR.1 rfl _ _ _ _ dX2_find_9 ⟨_, rfl, by (repeat' split) <;> omega, rfl⟩

set_option maxHeartbeats 4000000 in
set_option maxRecDepth 100000 in
/-- general -/
theorem c_X2_hold {g : wG} (hD : wD g) {S : wSt} {i a b : Int} (h0 : 0 ≤ i) (h1 : i < 4) (l : Launch) : Kt l yX2_hold wsX2_hold ({ frames := 1, cells := 0, slots := 0, locals := 24 } : Room) g S [vr g 6 i, vi a, vi b] (pV (fun S' => S' = ups (ups (ups (fiS S 7 i 40 0) 6 i 1 1) 6 i 2 a) 6 i 3 b)) := by
  refine Kt.of (cc := cX2_hold) (nL := 3) (ret := none) (own := RX2) rfl hD (by decide) rfl (Nat.le_of_ble_eq_true rfl) ⟨rfl, rfl⟩ ?_
  intro E hC hR
  have f9 : Cond.fieldLink RX2 9 "MirrorBench$Leaf" "items" "[J" ∈ wsX2_hold := by decide +kernel
  have f21 : Cond.fieldLink RX2 21 "MirrorBench$Leaf" "held" "Z" ∈ wsX2_hold := by decide +kernel
  have f25 : Cond.fieldLink RX2 25 "MirrorBench$Leaf" "lane" "I" ∈ wsX2_hold := by decide +kernel
  have f29 : Cond.fieldLink RX2 29 "MirrorBench$Leaf" "length" "I" ∈ wsX2_hold := by decide +kernel
  have w2 : ∀ w ∈ wsX20, w ∈ wsX2_hold := by decide +kernel
  show Wk E g 3 S 0 [(0, vr g 6 i), (1, vi a), (2, vi b)] []
  refine kw_aload_n hC dX2_hold_0 rfl 0 rfl ?_
  refine kg_6_0 hC w2 f9 dX2_hold_1 rfl (by omega) (by omega) ?_
  refine kw_lconst (z := 0) hC dX2_hold_4 rfl rfl ?_
  refine kw_callS hC (c_J7_fill hD (k := 7) (n := 40) (fun _ => rfl) (by decide) h0 h1) gX2_hold_J7_fill_d0a16 rfl ⟨rfl, rfl⟩ 2 (by decide +kernel) ⟨by decide, by decide⟩ rfl rfl (Nat.le_of_ble_eq_true rfl) dX2_hold_5 rfl (kd_ve ?_)
  refine kw_aload_n hC dX2_hold_8 rfl 0 rfl ?_
  refine kw_iconst hC dX2_hold_9 rfl ?_
  refine kp_6_1 hC w2 f21 dX2_hold_10 rfl (by omega) (by omega) (by omega) ?_
  refine kw_aload_n hC dX2_hold_13 rfl 0 rfl ?_
  refine kw_iload_n hC dX2_hold_14 rfl 1 rfl ?_
  refine kp_6_2 hC w2 f25 dX2_hold_15 rfl (by omega) (by omega) ?_
  refine kw_aload_n hC dX2_hold_18 rfl 0 rfl ?_
  refine kw_iload_n hC dX2_hold_19 rfl 2 rfl ?_
  refine kp_6_3 hC w2 f29 dX2_hold_20 rfl (by omega) (by omega) ?_
  exact hR.2.2.2 rfl _ _ _ dX2_hold_23 ⟨rfl, rfl⟩

set_option maxHeartbeats 4000000 in
set_option maxRecDepth 100000 in
/-- general -/
theorem c_X3_has {g : wG} (hD : wD g) {S : wSt} {i a : Int} (h0 : 0 ≤ i) (h1 : i < 17) (ha : -2147483648 ≤ a ∧ a ≤ 2147483647) (hs : -2147483648 ≤ S 3 i 2 ∧ S 3 i 2 ≤ 2147483647) (l : Launch) : Kt l yX3_has wsX3_has ({ frames := 0, cells := 0, slots := 0, locals := 0 } : Room) g S [vr g 3 i, vi a] (pI (fun r S' => r = bz (0 ≤ a ∧ a < S 3 i 2) ∧ S' = S)) := by
  refine Kt.of (cc := cX3_has) (nL := 2) (ret := (some .boolean)) (own := RX3) rfl hD (by decide) rfl (Nat.le_of_ble_eq_true rfl) ⟨rfl, rfl⟩ ?_
  intro E hC hR
  have f18 : Cond.fieldLink RX3 18 "MirrorBench$Mirrors" "size" "I" ∈ wsX3_has := by decide +kernel
  have w3 : ∀ w ∈ wsX30, w ∈ wsX3_has := by decide +kernel
  show Wk E g 2 S 0 [(0, vr g 3 i), (1, vi a)] []
  refine kw_iload_n hC dX3_has_0 rfl 1 rfl ?_
  refine kw_if_lt (tgt := 16) hC dX3_has_1 rfl (by decide) (by omega) ⟨fun c1 => ?_, fun c1 => ?_⟩
  · refine kw_iconst hC dX3_has_16 rfl ?_
    exact hR.2.1 rfl _ _ _ _ dX3_has_17 (by omega) ⟨_, rfl, by first | exact (bz_t (by omega)).symm | exact (bz_f (by omega)).symm, rfl⟩
  · refine kw_iload_n hC dX3_has_4 rfl 1 rfl ?_
    refine kw_aload_n hC dX3_has_5 rfl 0 rfl ?_
    refine kg_3_2 hC w3 f18 dX3_has_6 rfl (by omega) (by omega) ?_
    refine kw_icmp_ge (tgt := 16) hC dX3_has_9 rfl (by decide) (by omega) (by omega) ⟨fun c9 => ?_, fun c9 => ?_⟩
    · refine kw_iconst hC dX3_has_16 rfl ?_
      exact hR.2.1 rfl _ _ _ _ dX3_has_17 (by omega) ⟨_, rfl, by first | exact (bz_t (by omega)).symm | exact (bz_f (by omega)).symm, rfl⟩
    · refine kw_iconst hC dX3_has_12 rfl ?_
      refine kw_goto (tgt := 17) hC dX3_has_13 rfl (by decide) ?_
      exact hR.2.1 rfl _ _ _ _ dX3_has_17 (by omega) ⟨_, rfl, by first | exact (bz_t (by omega)).symm | exact (bz_f (by omega)).symm, rfl⟩

set_option maxHeartbeats 4000000 in
set_option maxRecDepth 100000 in
/-- general -/
theorem c_X3_addMirror {g : wG} (hD : wD g) {S : wSt} {i a : Int} (h0 : 0 ≤ i) (h1 : i < 17) (hs0 : 0 ≤ S 3 i 2) (hs1 : S 3 i 2 < 6) (l : Launch) : Kt l yX3_addMirror wsX3_addMirror ({ frames := 0, cells := 0, slots := 0, locals := 0 } : Room) g S [vr g 3 i, vi a] (pI (fun r S' => r = S 3 i 2 ∧ S' = ups (ups S 4 i (S 3 i 2) a) 3 i 2 (S 3 i 2 + 1))) := by
  refine Kt.of (cc := cX3_addMirror) (nL := 2) (ret := (some .int)) (own := RX3) rfl hD (by decide) rfl (Nat.le_of_ble_eq_true rfl) ⟨rfl, rfl⟩ ?_
  intro E hC hR
  have f9 : Cond.fieldLink RX3 9 "MirrorBench$Mirrors" "kinds" "[I" ∈ wsX3_addMirror := by decide +kernel
  have f18 : Cond.fieldLink RX3 18 "MirrorBench$Mirrors" "size" "I" ∈ wsX3_addMirror := by decide +kernel
  have w3 : ∀ w ∈ wsX30, w ∈ wsX3_addMirror := by decide +kernel
  show Wk E g 2 S 0 [(0, vr g 3 i), (1, vi a)] []
  refine kw_aload_n hC dX3_addMirror_0 rfl 0 rfl ?_
  refine kg_3_0 hC w3 f9 dX3_addMirror_1 rfl (by omega) (by omega) ?_
  refine kw_aload_n hC dX3_addMirror_4 rfl 0 rfl ?_
  refine kg_3_2 hC w3 f18 dX3_addMirror_5 rfl (by omega) (by omega) ?_
  refine kw_iload_n hC dX3_addMirror_8 rfl 1 rfl ?_
  refine ks_4 hC dX3_addMirror_9 rfl (by omega) (by omega) (by omega) (by omega) ?_
  refine kw_aload_n hC dX3_addMirror_10 rfl 0 rfl ?_
  refine kw_dup hC dX3_addMirror_11 rfl rfl ?_
  refine kg_3_2 hC w3 f18 dX3_addMirror_12 rfl (by omega) (by omega) ?_
  refine kw_chi (z' := S 3 i 2) (ups_n S a (by omega)) ?_
  refine kw_iconst hC dX3_addMirror_15 rfl ?_
  refine kw_iadd hC dX3_addMirror_16 rfl ?_
  refine kp_3_2 hC w3 f18 dX3_addMirror_17 rfl (by omega) (by omega) ?_
  refine kw_aload_n hC dX3_addMirror_20 rfl 0 rfl ?_
  refine kg_3_2 hC w3 f18 dX3_addMirror_21 rfl (by omega) (by omega) ?_
  refine kw_chi (z' := S 3 i 2 + 1) (ups_s _ 3 i 2 _) ?_
  refine kw_iconst hC dX3_addMirror_24 rfl ?_
  refine kw_isub hC dX3_addMirror_25 rfl ?_
  exact hR.1 rfl _ _ _ _ dX3_addMirror_26 ⟨_, rfl, by omega, rfl⟩

set_option maxHeartbeats 4000000 in
set_option maxRecDepth 100000 in
/-- general -/
theorem c_X3_take {g : wG} (hD : wD g) {S : wSt} {i j : Int} (h0 : 0 ≤ i) (h1 : i < 17) (g0 : 0 ≤ j) (g1 : j < 17) (l : Launch) : Kt l yX3_take wsX3_take ({ frames := 1, cells := 0, slots := 0, locals := 26 } : Room) g S [vr g 3 i, vr g 3 j] (pV (fun S' => S' = teS S i j)) := by
  refine Kt.of (cc := cX3_take) (nL := 2) (ret := none) (own := RX3) rfl hD (by decide) rfl (Nat.le_of_ble_eq_true rfl) ⟨rfl, rfl⟩ ?_
  intro E hC hR
  have f9 : Cond.fieldLink RX3 9 "MirrorBench$Mirrors" "kinds" "[I" ∈ wsX3_take := by decide +kernel
  have f15 : Cond.fieldLink RX3 15 "MirrorBench$Mirrors" "numbers" "[I" ∈ wsX3_take := by decide +kernel
  have f18 : Cond.fieldLink RX3 18 "MirrorBench$Mirrors" "size" "I" ∈ wsX3_take := by decide +kernel
  have w3 : ∀ w ∈ wsX30, w ∈ wsX3_take := by decide +kernel
  show Wk E g 2 S 0 [(0, vr g 3 i), (1, vr g 3 j)] []
  refine kw_aload_n hC dX3_take_0 rfl 1 rfl ?_
  refine kg_3_0 hC w3 f9 dX3_take_1 rfl (by omega) (by omega) ?_
  refine kw_iconst hC dX3_take_4 rfl ?_
  refine kw_aload_n hC dX3_take_5 rfl 0 rfl ?_
  refine kg_3_0 hC w3 f9 dX3_take_6 rfl (by omega) (by omega) ?_
  refine kw_iconst hC dX3_take_9 rfl ?_
  refine kw_bipush hC dX3_take_10 rfl (by decide) ?_
  refine kw_copyi (k0 := 4) (k1 := 4) (n0 := 6) (n1 := 6) hC (by decide +kernel) (by decide +kernel) (by decide +kernel) (by decide +kernel) (by decide) (Nat.le_of_ble_eq_true rfl) (fun _ => rfl) (fun _ => rfl) (by decide) (by decide) (by omega) (show (_ : Int) < 17 by omega) (by omega) (show (_ : Int) < 17 by omega) (by omega) (by omega) (by omega) (by omega) (by omega) dX3_take_12 rfl ?_
  refine kw_aload_n hC dX3_take_15 rfl 1 rfl ?_
  refine kg_3_1 hC w3 f15 dX3_take_16 rfl (by omega) (by omega) ?_
  refine kw_iconst hC dX3_take_19 rfl ?_
  refine kw_aload_n hC dX3_take_20 rfl 0 rfl ?_
  refine kg_3_1 hC w3 f15 dX3_take_21 rfl (by omega) (by omega) ?_
  refine kw_iconst hC dX3_take_24 rfl ?_
  refine kw_bipush hC dX3_take_25 rfl (by decide) ?_
  refine kw_copyi (k0 := 5) (k1 := 5) (n0 := 36) (n1 := 36) hC (by decide +kernel) (by decide +kernel) (by decide +kernel) (by decide +kernel) (by decide) (Nat.le_of_ble_eq_true rfl) (fun _ => rfl) (fun _ => rfl) (by decide) (by decide) (by omega) (show (_ : Int) < 17 by omega) (by omega) (show (_ : Int) < 17 by omega) (by omega) (by omega) (by omega) (by omega) (by omega) dX3_take_27 rfl ?_
  refine kw_aload_n hC dX3_take_30 rfl 0 rfl ?_
  refine kw_aload_n hC dX3_take_31 rfl 1 rfl ?_
  refine kg_3_2 hC w3 f18 dX3_take_32 rfl (by omega) (by omega) ?_
  refine kp_3_2 hC w3 f18 dX3_take_35 rfl (by omega) (by omega) ?_
  exact hR.2.2.2 rfl _ _ _ dX3_take_38 ⟨rfl, rfl⟩

set_option maxHeartbeats 4000000 in
set_option maxRecDepth 100000 in
/-- general -/
theorem c_X6_take {g : wG} (hD : wD g) {S : wSt} {a b : Int} (h0 : 0 ≤ a) (h1 : a < 12) (g0 : 0 ≤ b) (g1 : b < 12) (hb0 : 0 ≤ S 1 b 1) (hb1 : S 1 b 1 ≤ 100) (l : Launch) : Kt l yX6_take wsX6_take ({ frames := 1, cells := 0, slots := 0, locals := 26 } : Room) g S [vr g 1 a, vr g 1 b] (pV (fun S' => S' = tkS S a b)) := by
  refine Kt.of (cc := cX6_take) (nL := 2) (ret := none) (own := RX6) rfl hD (by decide) rfl (Nat.le_of_ble_eq_true rfl) ⟨rfl, rfl⟩ ?_
  intro E hC hR
  have f9 : Cond.fieldLink RX6 9 "MirrorBench$Word" "mirrors" "[I" ∈ wsX6_take := by decide +kernel
  have f15 : Cond.fieldLink RX6 15 "MirrorBench$Word" "length" "I" ∈ wsX6_take := by decide +kernel
  have w6 : ∀ w ∈ wsX60, w ∈ wsX6_take := by decide +kernel
  show Wk E g 2 S 0 [(0, vr g 1 a), (1, vr g 1 b)] []
  refine kw_aload_n hC dX6_take_0 rfl 1 rfl ?_
  refine kg_1_0 hC w6 f9 dX6_take_1 rfl (by omega) (by omega) ?_
  refine kw_iconst hC dX6_take_4 rfl ?_
  refine kw_aload_n hC dX6_take_5 rfl 0 rfl ?_
  refine kg_1_0 hC w6 f9 dX6_take_6 rfl (by omega) (by omega) ?_
  refine kw_iconst hC dX6_take_9 rfl ?_
  refine kw_aload_n hC dX6_take_10 rfl 1 rfl ?_
  refine kg_1_1 hC w6 f15 dX6_take_11 rfl (by omega) (by omega) ?_
  refine kw_copyi (k0 := 2) (k1 := 2) (n0 := 100) (n1 := 100) hC (by decide +kernel) (by decide +kernel) (by decide +kernel) (by decide +kernel) (by decide) (Nat.le_of_ble_eq_true rfl) (fun _ => rfl) (fun _ => rfl) (by decide) (by decide) (by omega) (show (_ : Int) < 12 by omega) (by omega) (show (_ : Int) < 12 by omega) (by omega) (by omega) (by omega) (by omega) (by omega) dX6_take_14 rfl ?_
  refine kw_aload_n hC dX6_take_17 rfl 0 rfl ?_
  refine kw_aload_n hC dX6_take_18 rfl 1 rfl ?_
  refine kg_1_1 hC w6 f15 dX6_take_19 rfl (by omega) (by omega) ?_
  refine kp_1_1 hC w6 f15 dX6_take_22 rfl (by omega) (by omega) ?_
  exact hR.2.2.2 rfl _ _ _ dX6_take_25 ⟨rfl, rfl⟩

set_option maxHeartbeats 4000000 in
set_option maxRecDepth 100000 in
/-- general -/
theorem c_X6_append {g : wG} (hD : wD g) {S : wSt} {a b : Int} (h0 : 0 ≤ a) (h1 : a < 12) (g0 : 0 ≤ b) (g1 : b < 12) (ha0 : 0 ≤ S 1 a 1) (hb0 : 0 ≤ S 1 b 1) (hab : S 1 a 1 + S 1 b 1 ≤ 100) (l : Launch) : Kt l yX6_append wsX6_append ({ frames := 1, cells := 0, slots := 0, locals := 26 } : Room) g S [vr g 1 a, vr g 1 b] (pV (fun S' => S' = apS S a b)) := by
  refine Kt.of (cc := cX6_append) (nL := 2) (ret := none) (own := RX6) rfl hD (by decide) rfl (Nat.le_of_ble_eq_true rfl) ⟨rfl, rfl⟩ ?_
  intro E hC hR
  have f9 : Cond.fieldLink RX6 9 "MirrorBench$Word" "mirrors" "[I" ∈ wsX6_append := by decide +kernel
  have f15 : Cond.fieldLink RX6 15 "MirrorBench$Word" "length" "I" ∈ wsX6_append := by decide +kernel
  have w6 : ∀ w ∈ wsX60, w ∈ wsX6_append := by decide +kernel
  show Wk E g 2 S 0 [(0, vr g 1 a), (1, vr g 1 b)] []
  refine kw_aload_n hC dX6_append_0 rfl 1 rfl ?_
  refine kg_1_0 hC w6 f9 dX6_append_1 rfl (by omega) (by omega) ?_
  refine kw_iconst hC dX6_append_4 rfl ?_
  refine kw_aload_n hC dX6_append_5 rfl 0 rfl ?_
  refine kg_1_0 hC w6 f9 dX6_append_6 rfl (by omega) (by omega) ?_
  refine kw_aload_n hC dX6_append_9 rfl 0 rfl ?_
  refine kg_1_1 hC w6 f15 dX6_append_10 rfl (by omega) (by omega) ?_
  refine kw_aload_n hC dX6_append_13 rfl 1 rfl ?_
  refine kg_1_1 hC w6 f15 dX6_append_14 rfl (by omega) (by omega) ?_
  refine kw_copyi (k0 := 2) (k1 := 2) (n0 := 100) (n1 := 100) hC (by decide +kernel) (by decide +kernel) (by decide +kernel) (by decide +kernel) (by decide) (Nat.le_of_ble_eq_true rfl) (fun _ => rfl) (fun _ => rfl) (by decide) (by decide) (by omega) (show (_ : Int) < 12 by omega) (by omega) (show (_ : Int) < 12 by omega) (by omega) (by omega) (by omega) (by omega) (by omega) dX6_append_17 rfl ?_
  refine kw_aload_n hC dX6_append_20 rfl 0 rfl ?_
  refine kw_dup hC dX6_append_21 rfl rfl ?_
  refine kg_1_1 hC w6 f15 dX6_append_22 rfl (by omega) (by omega) ?_
  refine kw_aload_n hC dX6_append_25 rfl 1 rfl ?_
  refine kg_1_1 hC w6 f15 dX6_append_26 rfl (by omega) (by omega) ?_
  refine kw_iadd hC dX6_append_29 rfl ?_
  refine kp_1_1 hC w6 f15 dX6_append_30 rfl (by omega) (by omega) ?_
  exact hR.2.2.2 rfl _ _ _ dX6_append_33 ⟨rfl, rfl⟩

set_option maxHeartbeats 4000000 in
set_option maxRecDepth 100000 in
/-- of an empty word -/
theorem c1_X6_takeInverted {g : wG} (hD : wD g) {S : wSt} {a b : Int} (h0 : 0 ≤ a) (h1 : a < 12) (g0 : 0 ≤ b) (g1 : b < 12) (hb0 : S 1 b 1 = 0) (l : Launch) : Kt l yX6_takeInverted wsX6_takeInverted ({ frames := 0, cells := 0, slots := 0, locals := 0 } : Room) g S [vr g 1 a, vr g 1 b] (pV (fun S' => S' = ups S 1 a 1 (S 1 b 1))) := by
  refine Kt.of (cc := cX6_takeInverted) (nL := 3) (ret := none) (own := RX6) rfl hD (by decide) rfl (Nat.le_of_ble_eq_true rfl) ⟨rfl, rfl⟩ ?_
  intro E hC hR
  have f15 : Cond.fieldLink RX6 15 "MirrorBench$Word" "length" "I" ∈ wsX6_takeInverted := by decide +kernel
  have w6 : ∀ w ∈ wsX60, w ∈ wsX6_takeInverted := by decide +kernel
  show Wk E g 3 S 0 [(0, vr g 1 a), (1, vr g 1 b)] []
  refine kw_aload_n hC dX6_takeInverted_0 rfl 0 rfl ?_
  refine kw_aload_n hC dX6_takeInverted_1 rfl 1 rfl ?_
  refine kg_1_1 hC w6 f15 dX6_takeInverted_2 rfl (by omega) (by omega) ?_
  refine kp_1_1 hC w6 f15 dX6_takeInverted_5 rfl (by omega) (by omega) ?_
  refine kw_iconst hC dX6_takeInverted_8 rfl ?_
  refine kw_istore_n (lv' := [(2, _), (0, _), (1, _)]) hC dX6_takeInverted_9 rfl (by decide) rfl ?_
  refine kw_iload_n hC dX6_takeInverted_10 rfl 0 rfl ?_
  refine kw_aload_n hC dX6_takeInverted_11 rfl 1 rfl ?_
  refine kg_1_1 hC w6 f15 dX6_takeInverted_12 rfl (by omega) (by omega) ?_
  refine kw_chi (z' := S 1 b 1) (ups_s _ 1 a 1 _) ?_
  refine kw_icmp_ge (tgt := 43) hC dX6_takeInverted_15 rfl (by decide) (by omega) (by omega) ⟨fun c15 => ?_, fun c15 => False.elim (by omega)⟩
  exact hR.2.2.2 rfl _ _ _ dX6_takeInverted_43 ⟨rfl, rfl⟩

set_option maxHeartbeats 4000000 in
set_option maxRecDepth 100000 in
/-- of empty words -/
theorem c1_X6_isLike {g : wG} (hD : wD g) {S : wSt} {a b : Int} (h0 : 0 ≤ a) (h1 : a < 12) (g0 : 0 ≤ b) (g1 : b < 12) (ha0 : S 1 a 1 = 0) (hb0 : S 1 b 1 = 0) (l : Launch) : Kt l yX6_isLike wsX6_isLike ({ frames := 0, cells := 0, slots := 0, locals := 0 } : Room) g S [vr g 1 a, vr g 1 b] (pI (fun r S' => r = bz True ∧ S' = S)) := by
  refine Kt.of (cc := cX6_isLike) (nL := 3) (ret := (some .boolean)) (own := RX6) rfl hD (by decide) rfl (Nat.le_of_ble_eq_true rfl) ⟨rfl, rfl⟩ ?_
  intro E hC hR
  have f15 : Cond.fieldLink RX6 15 "MirrorBench$Word" "length" "I" ∈ wsX6_isLike := by decide +kernel
  have w6 : ∀ w ∈ wsX60, w ∈ wsX6_isLike := by decide +kernel
  show Wk E g 3 S 0 [(0, vr g 1 a), (1, vr g 1 b)] []
  refine kw_aload_n hC dX6_isLike_0 rfl 0 rfl ?_
  refine kg_1_1 hC w6 f15 dX6_isLike_1 rfl (by omega) (by omega) ?_
  refine kw_aload_n hC dX6_isLike_4 rfl 1 rfl ?_
  refine kg_1_1 hC w6 f15 dX6_isLike_5 rfl (by omega) (by omega) ?_
  refine kw_icmp_eq (tgt := 13) hC dX6_isLike_8 rfl (by decide) (by omega) (by omega) ⟨fun c8 => ?_, fun c8 => False.elim (by omega)⟩
  refine kw_iconst hC dX6_isLike_13 rfl ?_
  refine kw_istore_n (lv' := [(2, _), (0, _), (1, _)]) hC dX6_isLike_14 rfl (by decide) rfl ?_
  refine kw_iload_n hC dX6_isLike_15 rfl 0 rfl ?_
  refine kw_aload_n hC dX6_isLike_16 rfl 1 rfl ?_
  refine kg_1_1 hC w6 f15 dX6_isLike_17 rfl (by omega) (by omega) ?_
  refine kw_icmp_ge (tgt := 46) hC dX6_isLike_20 rfl (by decide) (by omega) (by omega) ⟨fun c20 => ?_, fun c20 => False.elim (by omega)⟩
  refine kw_iconst hC dX6_isLike_46 rfl ?_
  exact hR.2.1 rfl _ _ _ _ dX6_isLike_47 (by omega) ⟨_, rfl, (bz_t trivial).symm, rfl⟩

set_option maxHeartbeats 4000000 in
set_option maxRecDepth 100000 in
/-- general -/
theorem c_X6_hasTwoFrom {g : wG} (hD : wD g) {S : wSt} {i k : Int} (h0 : 0 ≤ i) (h1 : i < 12) (hk : -2147483648 ≤ k ∧ k ≤ 2147483647) (hl0 : 0 ≤ S 1 i 1) (hl1 : S 1 i 1 ≤ 100) (l : Launch) : Kt l yX6_hasTwoFrom wsX6_hasTwoFrom ({ frames := 0, cells := 0, slots := 0, locals := 0 } : Room) g S [vr g 1 i, vi k] (pI (fun r S' => r = bz (0 ≤ k ∧ k < S 1 i 1 - 1) ∧ S' = S)) := by
  refine Kt.of (cc := cX6_hasTwoFrom) (nL := 2) (ret := (some .boolean)) (own := RX6) rfl hD (by decide) rfl (Nat.le_of_ble_eq_true rfl) ⟨rfl, rfl⟩ ?_
  intro E hC hR
  have f15 : Cond.fieldLink RX6 15 "MirrorBench$Word" "length" "I" ∈ wsX6_hasTwoFrom := by decide +kernel
  have w6 : ∀ w ∈ wsX60, w ∈ wsX6_hasTwoFrom := by decide +kernel
  show Wk E g 2 S 0 [(0, vr g 1 i), (1, vi k)] []
  refine kw_iload_n hC dX6_hasTwoFrom_0 rfl 1 rfl ?_
  refine kw_if_lt (tgt := 18) hC dX6_hasTwoFrom_1 rfl (by decide) (by omega) ⟨fun c1 => ?_, fun c1 => ?_⟩
  · refine kw_iconst hC dX6_hasTwoFrom_18 rfl ?_
    exact hR.2.1 rfl _ _ _ _ dX6_hasTwoFrom_19 (by omega) ⟨_, rfl, by first | exact (bz_t (by omega)).symm | exact (bz_f (by omega)).symm, rfl⟩
  · refine kw_iload_n hC dX6_hasTwoFrom_4 rfl 1 rfl ?_
    refine kw_aload_n hC dX6_hasTwoFrom_5 rfl 0 rfl ?_
    refine kg_1_1 hC w6 f15 dX6_hasTwoFrom_6 rfl (by omega) (by omega) ?_
    refine kw_iconst hC dX6_hasTwoFrom_9 rfl ?_
    refine kw_isub hC dX6_hasTwoFrom_10 rfl ?_
    refine kw_icmp_ge (tgt := 18) hC dX6_hasTwoFrom_11 rfl (by decide) (by omega) (by omega) ⟨fun c11 => ?_, fun c11 => ?_⟩
    · refine kw_iconst hC dX6_hasTwoFrom_18 rfl ?_
      exact hR.2.1 rfl _ _ _ _ dX6_hasTwoFrom_19 (by omega) ⟨_, rfl, by first | exact (bz_t (by omega)).symm | exact (bz_f (by omega)).symm, rfl⟩
    · refine kw_iconst hC dX6_hasTwoFrom_14 rfl ?_
      refine kw_goto (tgt := 19) hC dX6_hasTwoFrom_15 rfl (by decide) ?_
      exact hR.2.1 rfl _ _ _ _ dX6_hasTwoFrom_19 (by omega) ⟨_, rfl, by first | exact (bz_t (by omega)).symm | exact (bz_f (by omega)).symm, rfl⟩

set_option maxHeartbeats 4000000 in
set_option maxRecDepth 100000 in
/-- general -/
theorem c_X1_keep {g : wG} (hD : wD g) {S : wSt} (h0 : 0 ≤ S 8 0 1) (h1 : S 8 0 1 < 16) (s0 : 0 ≤ S 8 0 2) (s1 : S 8 0 2 ≤ 16) (l : Launch) : Kt l yX1_keep wsX1_keep ({ frames := 2, cells := 0, slots := 0, locals := 47 } : Room) g S [vr g 8 0, vr g 3 16] (pV (fun S' => S' = kpS S)) := by
  refine Kt.of (cc := cX1_keep) (nL := 2) (ret := none) (own := RX1) rfl hD (by decide) rfl (Nat.le_of_ble_eq_true rfl) ⟨rfl, rfl⟩ ?_
  intro E hC hR
  have f11 : Cond.fieldLink RX1 11 "MirrorBench$History" "kept" "[LMirrorBench$Mirrors;" ∈ wsX1_keep := by decide +kernel
  have f18 : Cond.fieldLink RX1 18 "MirrorBench$History" "after" "I" ∈ wsX1_keep := by decide +kernel
  have f26 : Cond.fieldLink RX1 26 "MirrorBench$History" "steps" "I" ∈ wsX1_keep := by decide +kernel
  have w1 : ∀ w ∈ wsX10, w ∈ wsX1_keep := by decide +kernel
  show Wk E g 2 S 0 [(0, vr g 8 0), (1, vr g 3 16)] []
  refine kw_aload_n hC dX1_keep_0 rfl 0 rfl ?_
  refine kg_8_0 hC w1 f11 dX1_keep_1 rfl (by decide) (by decide) ?_
  refine kw_aload_n hC dX1_keep_4 rfl 0 rfl ?_
  refine kg_8_1 hC w1 f18 dX1_keep_5 rfl (by decide) (by decide) ?_
  refine ka_9 hC dX1_keep_8 rfl (by decide) (by decide) (by omega) (by omega) ?_
  refine kw_aload_n hC dX1_keep_9 rfl 1 rfl ?_
  refine kw_callV hC (c_X3_take hD (by omega) (by omega) (by omega) (by omega)) gX1_keep_X3_take ⟨_, rfl⟩ rfl (by omega) (show (_ : Int) < 17 by omega) rfl ⟨rfl, rfl⟩ 1 (by decide +kernel) ⟨by decide, by decide⟩ rfl rfl (Nat.le_of_ble_eq_true rfl) dX1_keep_10 rfl (kd_ve ?_)
  refine kw_aload_n hC dX1_keep_13 rfl 0 rfl ?_
  refine kw_aload_n hC dX1_keep_14 rfl 0 rfl ?_
  refine kg_8_1 hC w1 f18 dX1_keep_15 rfl (by decide) (by decide) ?_
  refine kw_chi (z' := S 8 0 1) rfl ?_
  refine kw_iconst hC dX1_keep_18 rfl ?_
  refine kw_iadd hC dX1_keep_19 rfl ?_
  refine kw_bipush hC dX1_keep_20 rfl (by decide) ?_
  refine kw_irem hC dX1_keep_22 rfl (by omega) (by omega) ?_
  refine kp_8_1 hC w1 f18 dX1_keep_23 rfl (by decide) (by decide) ?_
  refine kw_aload_n hC dX1_keep_26 rfl 0 rfl ?_
  refine kg_8_2 hC w1 f26 dX1_keep_27 rfl (by decide) (by decide) ?_
  refine kw_chi (z' := S 8 0 2) rfl ?_
  refine kw_bipush hC dX1_keep_30 rfl (by decide) ?_
  refine kw_icmp_ge (tgt := 45) hC dX1_keep_32 rfl (by decide) (by omega) (by omega) ⟨fun c32 => ?_, fun c32 => ?_⟩
  · exact hR.2.2.2 rfl _ _ _ dX1_keep_45 ⟨rfl, by unfold kpS; rw [if_neg (by omega)]; funext k i j; by_cases h : k = 8 ∧ i = 0 ∧ j = 2 <;> simp [ups, h] <;> rfl⟩
  · refine kw_aload_n hC dX1_keep_35 rfl 0 rfl ?_
    refine kw_dup hC dX1_keep_36 rfl rfl ?_
    refine kg_8_2 hC w1 f26 dX1_keep_37 rfl (by decide) (by decide) ?_
    refine kw_chi (z' := S 8 0 2) rfl ?_
    refine kw_iconst hC dX1_keep_40 rfl ?_
    refine kw_iadd hC dX1_keep_41 rfl ?_
    refine kp_8_2 hC w1 f26 dX1_keep_42 rfl (by decide) (by decide) ?_
    exact hR.2.2.2 rfl _ _ _ dX1_keep_45 ⟨rfl, by unfold kpS; rw [if_pos (by omega)]⟩

set_option maxHeartbeats 4000000 in
set_option maxRecDepth 100000 in
/-- general -/
theorem c_X4_forget {g : wG} (hD : wD g) {S : wSt}  (l : Launch) : Kt l yX4_forget wsX4_forget ({ frames := 0, cells := 0, slots := 0, locals := 0 } : Room) g S [vr g 12 0] (pV (fun S' => S' = ups (ups S 12 0 4 0) 12 0 5 0)) := by
  refine Kt.of (cc := cX4_forget) (nL := 1) (ret := none) (own := RX4) rfl hD (by decide) rfl (Nat.le_of_ble_eq_true rfl) ⟨rfl, rfl⟩ ?_
  intro E hC hR
  have f26 : Cond.fieldLink RX4 26 "MirrorBench$RootList" "height" "I" ∈ wsX4_forget := by decide +kernel
  have f30 : Cond.fieldLink RX4 30 "MirrorBench$RootList" "full" "Z" ∈ wsX4_forget := by decide +kernel
  have w4 : ∀ w ∈ wsX40, w ∈ wsX4_forget := by decide +kernel
  show Wk E g 1 S 0 [(0, vr g 12 0)] []
  refine kw_aload_n hC dX4_forget_0 rfl 0 rfl ?_
  refine kw_iconst hC dX4_forget_1 rfl ?_
  refine kp_12_4 hC w4 f26 dX4_forget_2 rfl (by decide) (by decide) ?_
  refine kw_aload_n hC dX4_forget_5 rfl 0 rfl ?_
  refine kw_iconst hC dX4_forget_6 rfl ?_
  refine kp_12_5 hC w4 f30 dX4_forget_7 rfl (by decide) (by decide) (by omega) ?_
  exact hR.2.2.2 rfl _ _ _ dX4_forget_10 ⟨rfl, rfl⟩

set_option maxHeartbeats 4000000 in
set_option maxRecDepth 100000 in
/-- general -/
theorem c_X0_forget {g : wG} (hD : wD g) {S : wSt}  (l : Launch) : Kt l yX0_forget wsX0_forget ({ frames := 0, cells := 0, slots := 0, locals := 0 } : Room) g S [vr g 16 0] (pV (fun S' => S' = ups (ups S 16 0 4 0) 16 0 5 0)) := by
  refine Kt.of (cc := cX0_forget) (nL := 1) (ret := none) (own := RX0) rfl hD (by decide) rfl (Nat.le_of_ble_eq_true rfl) ⟨rfl, rfl⟩ ?_
  intro E hC hR
  have f26 : Cond.fieldLink RX0 26 "MirrorBench$FormList" "length" "I" ∈ wsX0_forget := by decide +kernel
  have f30 : Cond.fieldLink RX0 30 "MirrorBench$FormList" "full" "Z" ∈ wsX0_forget := by decide +kernel
  have w0 : ∀ w ∈ wsX00, w ∈ wsX0_forget := by decide +kernel
  show Wk E g 1 S 0 [(0, vr g 16 0)] []
  refine kw_aload_n hC dX0_forget_0 rfl 0 rfl ?_
  refine kw_iconst hC dX0_forget_1 rfl ?_
  refine kp_16_4 hC w0 f26 dX0_forget_2 rfl (by decide) (by decide) ?_
  refine kw_aload_n hC dX0_forget_5 rfl 0 rfl ?_
  refine kw_iconst hC dX0_forget_6 rfl ?_
  refine kp_16_5 hC w0 f30 dX0_forget_7 rfl (by decide) (by decide) (by omega) ?_
  exact hR.2.2.2 rfl _ _ _ dX0_forget_10 ⟨rfl, rfl⟩

set_option maxHeartbeats 4000000 in
set_option maxRecDepth 100000 in
/-- general -/
theorem c_X7_startAnew {g : wG} (hD : wD g) {S : wSt}  (l : Launch) : Kt l yX7_startAnew wsX7_startAnew ({ frames := 1, cells := 0, slots := 0, locals := 20 } : Room) g S [vr g 0 0] (pV (fun S' => S' = anS S)) := by
  refine Kt.of (cc := cX7_startAnew) (nL := 2) (ret := none) (own := RX7) rfl hD (by decide) rfl (Nat.le_of_ble_eq_true rfl) ⟨rfl, rfl⟩ ?_
  intro E hC hR
  have f25 : Cond.fieldLink RX7 25 "MirrorBench" "slots" "[LMirrorBench$Word;" ∈ wsX7_startAnew := by decide +kernel
  have f47 : Cond.fieldLink RX7 47 "MirrorBench" "rootList" "LMirrorBench$RootList;" ∈ wsX7_startAnew := by decide +kernel
  have f54 : Cond.fieldLink RX7 54 "MirrorBench" "formList" "LMirrorBench$FormList;" ∈ wsX7_startAnew := by decide +kernel
  have f131 : Cond.fieldLink RX7 131 "MirrorBench$Word" "length" "I" ∈ wsX7_startAnew := by decide +kernel
  have w6 : ∀ w ∈ wsX60, w ∈ wsX7_startAnew := by decide +kernel
  have w7 : ∀ w ∈ wsX70, w ∈ wsX7_startAnew := by decide +kernel
  show Wk E g 2 S 0 [(0, vr g 0 0)] []
  refine kw_iconst hC dX7_startAnew_0 rfl ?_
  refine kw_istore_n (lv' := [(1, _), (0, _)]) hC dX7_startAnew_1 rfl (by decide) rfl ?_
  have hL2 : ∀ (n : Nat) (x : Int), (0 ≤ x) → (x ≤ 8) → (8 - x < (n : Int)) → Wk E g 2 (wzS S x) 2 [(0, vr g 0 0), (1, vi x)] [] := by
    intro n
    induction n with
    | zero => intro x hx0 hx1 hxn; exact absurd hxn (by omega)
    | succ n ih2 =>
      intro x hx0 hx1 hxn
      refine kw_iload_n hC dX7_startAnew_2 rfl 1 rfl ?_
      refine kw_bipush hC dX7_startAnew_3 rfl (by decide) ?_
      refine kw_icmp_ge (tgt := 24) hC dX7_startAnew_5 rfl (by decide) (by omega) (by omega) ⟨fun c5 => ?_, fun c5 => ?_⟩
      · obtain rfl : x = 8 := by omega
        refine kw_aload_n hC dX7_startAnew_24 rfl 0 rfl ?_
        refine kg_0_5 hC w7 f47 dX7_startAnew_25 rfl (by decide) (by decide) ?_
        refine kw_callV hC (c_X4_forget hD ) gX7_startAnew_X4_forget ⟨_, rfl⟩ rfl (by decide) (by decide) rfl ⟨rfl, rfl⟩ 0 (by decide +kernel) ⟨by decide, by decide⟩ rfl rfl (Nat.le_of_ble_eq_true rfl) dX7_startAnew_28 rfl (kd_ve ?_)
        refine kw_aload_n hC dX7_startAnew_31 rfl 0 rfl ?_
        refine kg_0_6 hC w7 f54 dX7_startAnew_32 rfl (by decide) (by decide) ?_
        refine kw_callV hC (c_X0_forget hD ) gX7_startAnew_X0_forget ⟨_, rfl⟩ rfl (by decide) (by decide) rfl ⟨rfl, rfl⟩ 0 (by decide +kernel) ⟨by decide, by decide⟩ rfl rfl (Nat.le_of_ble_eq_true rfl) dX7_startAnew_35 rfl (kd_ve ?_)
        exact hR.2.2.2 rfl _ _ _ dX7_startAnew_38 ⟨rfl, rfl⟩
      · refine kw_aload_n hC dX7_startAnew_8 rfl 0 rfl ?_
        refine kg_0_2 hC w7 f25 dX7_startAnew_9 rfl (by decide) (by decide) ?_
        refine kw_iload_n hC dX7_startAnew_12 rfl 1 rfl ?_
        refine ka_20 hC dX7_startAnew_13 rfl (by decide) (by decide) (by omega) (by omega) ?_
        refine kw_iconst hC dX7_startAnew_14 rfl ?_
        refine kp_1_1 hC w6 f131 dX7_startAnew_15 rfl (by omega) (by omega) ?_
        rw [wzS_s S x hx0]
        refine kw_iinc (lv' := [(1, _), (0, _)]) hC dX7_startAnew_18 rfl 1 rfl (by decide) rfl ?_
        refine kw_goto (tgt := 2) hC dX7_startAnew_21 rfl (by decide) ?_
        refine kw_lv [1, 0] rfl ?_
        exact ih2 (x + 1) (by omega) (by omega) (by omega)
  refine kw_lv [1, 0] rfl ?_
  refine kw_chS (S' := wzS S 0) (wzS_0 S).symm ?_
  exact hL2 9 0 (by omega) (by omega) (by omega)

set_option maxHeartbeats 4000000 in
set_option maxRecDepth 100000 in
/-- general -/
theorem c_X7_store {g : wG} (hD : wD g) {S : wSt} {b a : Int} (h0 : 0 ≤ a) (h1 : a < 8) (g0 : 0 ≤ b) (g1 : b < 12) (hb0 : 0 ≤ S 1 b 1) (hb1 : S 1 b 1 ≤ 100) (l : Launch) : Kt l yX7_store wsX7_store ({ frames := 2, cells := 0, slots := 0, locals := 47 } : Room) g S [vr g 0 0, vr g 1 b, vi a] (pI (fun r S' => r = S 1 b 1 ∧ S' = tkS S a b)) := by
  refine Kt.of (cc := cX7_store) (nL := 3) (ret := (some .int)) (own := RX7) rfl hD (by decide) rfl (Nat.le_of_ble_eq_true rfl) ⟨rfl, rfl⟩ ?_
  intro E hC hR
  have f25 : Cond.fieldLink RX7 25 "MirrorBench" "slots" "[LMirrorBench$Word;" ∈ wsX7_store := by decide +kernel
  have f131 : Cond.fieldLink RX7 131 "MirrorBench$Word" "length" "I" ∈ wsX7_store := by decide +kernel
  have w6 : ∀ w ∈ wsX60, w ∈ wsX7_store := by decide +kernel
  have w7 : ∀ w ∈ wsX70, w ∈ wsX7_store := by decide +kernel
  show Wk E g 3 S 0 [(0, vr g 0 0), (1, vr g 1 b), (2, vi a)] []
  refine kw_aload_n hC dX7_store_0 rfl 0 rfl ?_
  refine kg_0_2 hC w7 f25 dX7_store_1 rfl (by decide) (by decide) ?_
  refine kw_iload_n hC dX7_store_4 rfl 2 rfl ?_
  refine ka_20 hC dX7_store_5 rfl (by decide) (by decide) (by omega) (by omega) ?_
  refine kw_aload_n hC dX7_store_6 rfl 1 rfl ?_
  refine kw_callV hC (c_X6_take hD (by omega) (by omega) (by omega) (by omega) (by omega) (by omega)) gX7_store_X6_take ⟨_, rfl⟩ rfl (by omega) (show (_ : Int) < 12 by omega) rfl ⟨rfl, rfl⟩ 1 (by decide +kernel) ⟨by decide, by decide⟩ rfl rfl (Nat.le_of_ble_eq_true rfl) dX7_store_7 rfl (kd_ve ?_)
  refine kw_aload_n hC dX7_store_10 rfl 1 rfl ?_
  refine kg_1_1 hC w6 f131 dX7_store_11 rfl (by omega) (by omega) ?_
  exact hR.1 rfl _ _ _ _ dX7_store_14 ⟨_, rfl, by by_cases h : b = a <;> simp [tkS, ups, cpS, h], rfl⟩
