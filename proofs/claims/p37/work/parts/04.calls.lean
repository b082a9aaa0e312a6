section KD
variable {E : wE} {g : wG} {nL : Nat} {q : Nat} {lv : List (Nat × Value)} {st : List Value}
theorem kd_i {post : Int → wSt → Prop} (kk : ∀ (r : Int) (S' : wSt), post r S' → Wk E g nL S' q lv (vi r :: st)) : ∀ (v : Option Value) (S' : wSt), pI post v S' → Wk E g nL S' q lv (v.toList ++ st) := by
  rintro v S' ⟨r, rfl, hp⟩
  exact kk r S' hp
theorem kd_l {post : Int → wSt → Prop} (kk : ∀ (r : Int) (S' : wSt), post r S' → Wk E g nL S' q lv (vl r :: st)) : ∀ (v : Option Value) (S' : wSt), pL post v S' → Wk E g nL S' q lv (v.toList ++ st) := by
  rintro v S' ⟨r, rfl, hp⟩
  exact kk r S' hp
theorem kd_v {post : wSt → Prop} (kk : ∀ (S' : wSt), post S' → Wk E g nL S' q lv st) : ∀ (v : Option Value) (S' : wSt), pV post v S' → Wk E g nL S' q lv (v.toList ++ st) := by
  rintro v S' ⟨rfl, hp⟩
  exact kk S' hp
theorem kd_ie {f : Int} {S1 : wSt} (kk : Wk E g nL S1 q lv (vi f :: st)) : ∀ (v : Option Value) (S' : wSt), pI (fun r S' => r = f ∧ S' = S1) v S' → Wk E g nL S' q lv (v.toList ++ st) := by
  rintro v S' ⟨r, rfl, rfl, rfl⟩
  exact kk
theorem kd_le {f : Int} {S1 : wSt} (kk : Wk E g nL S1 q lv (vl f :: st)) : ∀ (v : Option Value) (S' : wSt), pL (fun r S' => r = f ∧ S' = S1) v S' → Wk E g nL S' q lv (v.toList ++ st) := by
  rintro v S' ⟨r, rfl, rfl, rfl⟩
  exact kk
theorem kd_ve {S1 : wSt} (kk : Wk E g nL S1 q lv st) : ∀ (v : Option Value) (S' : wSt), pV (fun S' => S' = S1) v S' → Wk E g nL S' q lv (v.toList ++ st) := by
  rintro v S' ⟨rfl, rfl⟩
  exact kk
end KD
/-- n places of cell i0 of kind k0 from sp on come to cell i1 of kind k1 from dp on -/
def cpS (S : wSt) (k0 : Nat) (i0 sp : Int) (k1 : Nat) (i1 dp n : Int) : wSt := fun k i j => if k = k1 ∧ i = i1 ∧ dp ≤ j ∧ j < dp + n then S k0 i0 (sp + (j - dp)) else S k i j
theorem cpS_ki (S : wSt) {k0 : Nat} {i0 sp : Int} {k1 : Nat} {i1 dp n : Int} {k : Nat} {i : Int} (h : ¬ (k = k1 ∧ i = i1)) : cpS S k0 i0 sp k1 i1 dp n k i = S k i := funext fun j => if_neg (fun q => h ⟨q.1, q.2.1⟩)
theorem kw_copyi {E : wE} {g : wG} {cc : ByteArray} {own : String} {Ts : List Cond} {nL : Nat} {rm : Room} {S : wSt} {pc q index : Nat} {lv : List (Nat × Value)} {st : List Value} {k0 k1 n0 n1 : Nat} {i0 i1 sp dp n : Int} (hC : Cx E g cc own Ts nL rm) (hlink : Cond.methodLink own index arraycopyName ∈ Ts) (hnat : Cond.native arraycopyName ∈ Ts) (hstat : Cond.static arraycopyName ∈ Ts) (hini : Cond.initialized "java/lang/System" ∈ Ts) (hframes : 1 ≤ rm.frames) (hlocals : (st.map fun v => v.category).sum + (nativeFrameWords "java/lang/System" "arraycopy" 5 + 11) ≤ rm.locals)
    (hc0 : ∀ r, cx g k0 i0 r = ka_i g n0 r) (hc1 : ∀ r, cx g k1 i1 r = ka_i g n1 r) (hn0 : n0 < 2147483648) (hn1 : n1 < 2147483648) (a0 : 0 ≤ i0) (a1 : i0 < cn k0) (b0 : 0 ≤ i1) (b1 : i1 < cn k1) (hsp : 0 ≤ sp) (hdp : 0 ≤ dp) (hn : 0 ≤ n) (h4 : sp + n ≤ n0) (h5 : dp + n ≤ n1) (hd : decode cc pc = .ok (.invokestatic index, 3)) (hq : pc + 3 = q)
    (kk : Wk E g nL (cpS S k0 i0 sp k1 i1 dp n) q lv st) : Wk E g nL S pc lv (vi n :: vi dp :: vr g k1 i1 :: vi sp :: vr g k0 i0 :: st) := by
  obtain ⟨p, l, e, R, s, m, args, below, meth, c, A, H0, cells, slots, Q⟩ := E
  obtain ⟨hx, hb, hml, hown, hts, hK, hR, hD, hA, hx1, hx2⟩ := hC
  subst hq
  subst hR
  intro H locs ls hP hS hl T hT X
  have e0 : H[g.2.2 k0 i0]? = some (vp_cell (g.2.1 0) (n0, .inl (fun j => Int32.ofInt (S k0 i0 (j : Int))))) := by
    have h := hP k0 i0 a0 a1
    rw [hc0] at h
    exact h
  have e1 : H[g.2.2 k1 i1]? = some (vp_cell (g.2.1 0) (n1, .inl (fun j => Int32.ofInt (S k1 i1 (j : Int))))) := by
    have h := hP k1 i1 b0 b1
    rw [hc1] at h
    exact h
  have nn : ∀ z : Int, 0 ≤ z → z < 2147483648 → (Int32.ofInt z).toInt = ((Int32.ofInt z).toNatClampNeg : Int) := fun z h0 h1 => by rw [kw_ti (by omega), kw_cl h0 h1, Int.toNat_of_nonneg h0]
  have nneg : ∀ z : Int, 0 ≤ z → z < 2147483648 → ¬ Int32.ofInt z < 0 := fun z h0 h1 => by rw [Int32.lt_iff_toInt_lt, kw_ti (by omega), Int32.toInt_zero]; omega
  obtain ⟨-, k9, hk9, cm9, hkk9⟩ := (hK.1.2 0 _ rfl).1 n0 (fun j => .int (Int32.ofInt (S k0 i0 (j : Int))))
  obtain ⟨-, k8, hk8, cm8, hkk8⟩ := (hK.1.2 0 _ rfl).1 n1 (fun j => .int (Int32.ofInt (S k1 i1 (j : Int))))
  obtain ⟨vm', X', step⟩ := X.arraycopy hx hown (hts _ hlink) (hts _ hnat) (hts _ hstat) (hts _ hini) (src := g.2.2 k0 i0) (dst := g.2.2 k1 i1) (cs := vp_cell (g.2.1 0) (n0, .inl (fun j => Int32.ofInt (S k0 i0 (j : Int))))) (cd := vp_cell (g.2.1 0) (n1, .inl (fun j => Int32.ofInt (S k1 i1 (j : Int))))) (srcPos := Int32.ofInt sp) (destPos := Int32.ofInt dp) (n := Int32.ofInt n) (by rw [hT]; exact e0) (by rw [hT]; exact e1)
    (fun _ h => by cases h) (fun _ h => by cases h) (fun h => by cases h) (fun h => by cases h) hk9 hk8 hkk9 hkk8 (by simp [refKind]) (nneg sp hsp (by omega)) (nneg dp hdp (by omega)) (nneg n hn (by omega))
    (by rw [nn sp hsp (by omega), nn n hn (by omega), kw_cl hsp (by omega), kw_cl hn (by omega)]; show ¬ _ > ((arrV (g.2.1 0) n0 (fun j => .int (Int32.ofInt (S k0 i0 (j : Int))))).slots.size : Int); rw [arrV_size]; omega)
    (by rw [nn dp hdp (by omega), nn n hn (by omega), kw_cl hdp (by omega), kw_cl hn (by omega)]; show ¬ _ > ((arrV (g.2.1 0) n1 (fun j => .int (Int32.ofInt (S k1 i1 (j : Int))))).slots.size : Int); rw [arrV_size]; omega)
    (fun vm₁ _ i hi => by
      have hi2 : i < n.toNat := by rw [kw_cl hn (by omega)] at hi; exact hi
      have e : (vp_cell (g.2.1 0) (n0, .inl (fun j => Int32.ofInt (S k0 i0 (j : Int))))).slots.getD ((Int32.ofInt sp).toNatClampNeg + i) .null = .int (Int32.ofInt (S k0 i0 (((Int32.ofInt sp).toNatClampNeg + i : Nat) : Int))) := by
        show (arrV (g.2.1 0) n0 (fun j => .int (Int32.ofInt (S k0 i0 (j : Int))))).slots.getD _ _ = _
        rw [Array.getD_eq_getD_getElem?, arrV_read _ _ (by rw [kw_cl hsp (by omega)]; omega)]
        rfl
      refine ⟨?_, ?_⟩
      · rw [e]
        rfl
      · rw [e]
        exact trivial)
    (g := F0 m pc ls (vi n :: vi dp :: vr g k1 i1 :: vi sp :: vr g k0 i0 :: st)) rfl (by rw [hml]; exact hl.1) (rest := st) rfl (by rw [hb]; exact hd) hframes (by show 2 * 0 + _ + _ ≤ _; omega)
  have e2 : copied (vp_cell (g.2.1 0) (n0, .inl (fun j => Int32.ofInt (S k0 i0 (j : Int))))) (vp_cell (g.2.1 0) (n1, .inl (fun j => Int32.ofInt (S k1 i1 (j : Int))))) (Int32.ofInt sp) (Int32.ofInt dp) (Int32.ofInt n) = vp_cell (g.2.1 0) (n1, .inl (va_cpy (fun j => Int32.ofInt (S k0 i0 (j : Int))) (fun j => Int32.ofInt (S k1 i1 (j : Int))) (Int32.ofInt sp).toNatClampNeg (Int32.ofInt dp).toNatClampNeg (Int32.ofInt n).toNatClampNeg)) := va_copied (fun z => .int z) (g.2.1 0) (g.2.1 0) (fun j => Int32.ofInt (S k0 i0 (j : Int))) (fun j => Int32.ofInt (S k1 i1 (j : Int))) (by rw [kw_cl hsp (by omega), kw_cl hn (by omega)]; omega)
  rw [e2] at X' step
  have hl9 : g.2.2 k1 i1 < H.size := (Array.getElem?_eq_some_iff.mp e1).1
  have hheap : ((T.setVm vm').setCell (g.2.2 k1 i1) (vp_cell (g.2.1 0) (n1, .inl (va_cpy (fun j => Int32.ofInt (S k0 i0 (j : Int))) (fun j => Int32.ofInt (S k1 i1 (j : Int))) (Int32.ofInt sp).toNatClampNeg (Int32.ofInt dp).toNatClampNeg (Int32.ofInt n).toNatClampNeg)))).heap = H.setIfInBounds (g.2.2 k1 i1) (vp_cell (g.2.1 0) (n1, .inl (va_cpy (fun j => Int32.ofInt (S k0 i0 (j : Int))) (fun j => Int32.ofInt (S k1 i1 (j : Int))) (Int32.ofInt sp).toNatClampNeg (Int32.ofInt dp).toNatClampNeg (Int32.ofInt n).toNatClampNeg))) := by rw [← hT]; rfl
  have oq : ∀ q : Nat, q ≠ g.2.2 k1 i1 → (H.setIfInBounds (g.2.2 k1 i1) (vp_cell (g.2.1 0) (n1, .inl (va_cpy (fun j => Int32.ofInt (S k0 i0 (j : Int))) (fun j => Int32.ofInt (S k1 i1 (j : Int))) (Int32.ofInt sp).toNatClampNeg (Int32.ofInt dp).toNatClampNeg (Int32.ofInt n).toNatClampNeg))))[q]? = H[q]? := fun q hq => by simp [Array.getElem?_setIfInBounds, Ne.symm hq]
  have hA1 : A (g.2.2 k1 i1) := hA _ ⟨k1, i1, b0, b1, rfl⟩
  have hP2 : wP g (cpS S k0 i0 sp k1 i1 dp n) (H.setIfInBounds (g.2.2 k1 i1) (vp_cell (g.2.1 0) (n1, .inl (va_cpy (fun j => Int32.ofInt (S k0 i0 (j : Int))) (fun j => Int32.ofInt (S k1 i1 (j : Int))) (Int32.ofInt sp).toNatClampNeg (Int32.ofInt dp).toNatClampNeg (Int32.ofInt n).toNatClampNeg)))) := by
    intro k i h0 h1
    by_cases ek : k = k1 ∧ i = i1
    · obtain ⟨rfl, rfl⟩ := ek
      rw [hc1]
      have eF : (fun j : Nat => Int32.ofInt (cpS S k0 i0 sp k i dp n k i (j : Int))) = va_cpy (fun j => Int32.ofInt (S k0 i0 (j : Int))) (fun j => Int32.ofInt (S k i (j : Int))) (Int32.ofInt sp).toNatClampNeg (Int32.ofInt dp).toNatClampNeg (Int32.ofInt n).toNatClampNeg := by
        funext j
        simp only [va_cpy, cpS, kw_cl hsp (show sp < 2147483648 by omega), kw_cl hdp (show dp < 2147483648 by omega), kw_cl hn (show n < 2147483648 by omega)]
        by_cases hj : dp.toNat ≤ j ∧ j < dp.toNat + n.toNat
        · rw [if_pos hj, if_pos ⟨trivial, trivial, by omega, by omega⟩]
          congr 2
          omega
        · rw [if_neg hj, if_neg (fun q => hj ⟨by omega, by omega⟩)]
      show (H.setIfInBounds _ _)[_]? = some (vp_cell _ (_, .inl (fun j : Nat => Int32.ofInt (cpS S k0 i0 sp k i dp n k i (j : Int)))))
      rw [eF, Array.getElem?_setIfInBounds_self_of_lt hl9]
    · rw [cpS_ki S ek]
      exact (hP k i h0 h1).kept (oq _ (fun z => ek (hD k i k1 i1 h0 h1 b0 b1 z)))
  obtain ⟨t, a9, b9⟩ := kk _ _ ls hP2 ⟨by simp; exact hS.1, fun q g1 g2 => by
      rw [oq q (fun e => g2 (by rw [e]; exact hA1))]
      exact hS.2.1 q g1 g2, fun q hq => by
      rcases List.mem_append.mp hq with h | h
      · exact hS.2.2 q h
      · obtain ⟨z, -, hz⟩ := List.mem_map.mp h
        rw [← hz]
        exact hA1⟩ hl _ hheap X'
  exact ⟨t, step t a9, b9⟩
theorem kw_copyl {E : wE} {g : wG} {cc : ByteArray} {own : String} {Ts : List Cond} {nL : Nat} {rm : Room} {S : wSt} {pc q index : Nat} {lv : List (Nat × Value)} {st : List Value} {k0 k1 n0 n1 : Nat} {i0 i1 sp dp n : Int} (hC : Cx E g cc own Ts nL rm) (hlink : Cond.methodLink own index arraycopyName ∈ Ts) (hnat : Cond.native arraycopyName ∈ Ts) (hstat : Cond.static arraycopyName ∈ Ts) (hini : Cond.initialized "java/lang/System" ∈ Ts) (hframes : 1 ≤ rm.frames) (hlocals : (st.map fun v => v.category).sum + (nativeFrameWords "java/lang/System" "arraycopy" 5 + 11) ≤ rm.locals)
    (hc0 : ∀ r, cx g k0 i0 r = ka_l g n0 r) (hc1 : ∀ r, cx g k1 i1 r = ka_l g n1 r) (hn0 : n0 < 2147483648) (hn1 : n1 < 2147483648) (a0 : 0 ≤ i0) (a1 : i0 < cn k0) (b0 : 0 ≤ i1) (b1 : i1 < cn k1) (hsp : 0 ≤ sp) (hdp : 0 ≤ dp) (hn : 0 ≤ n) (h4 : sp + n ≤ n0) (h5 : dp + n ≤ n1) (hd : decode cc pc = .ok (.invokestatic index, 3)) (hq : pc + 3 = q)
    (kk : Wk E g nL (cpS S k0 i0 sp k1 i1 dp n) q lv st) : Wk E g nL S pc lv (vi n :: vi dp :: vr g k1 i1 :: vi sp :: vr g k0 i0 :: st) := by
  obtain ⟨p, l, e, R, s, m, args, below, meth, c, A, H0, cells, slots, Q⟩ := E
  obtain ⟨hx, hb, hml, hown, hts, hK, hR, hD, hA, hx1, hx2⟩ := hC
  subst hq
  subst hR
  intro H locs ls hP hS hl T hT X
  have e0 : H[g.2.2 k0 i0]? = some (vp_cell (g.2.1 1) (n0, .inr (.inl (fun j => Int64.ofInt (S k0 i0 (j : Int)))))) := by
    have h := hP k0 i0 a0 a1
    rw [hc0] at h
    exact h
  have e1 : H[g.2.2 k1 i1]? = some (vp_cell (g.2.1 1) (n1, .inr (.inl (fun j => Int64.ofInt (S k1 i1 (j : Int)))))) := by
    have h := hP k1 i1 b0 b1
    rw [hc1] at h
    exact h
  have nn : ∀ z : Int, 0 ≤ z → z < 2147483648 → (Int32.ofInt z).toInt = ((Int32.ofInt z).toNatClampNeg : Int) := fun z h0 h1 => by rw [kw_ti (by omega), kw_cl h0 h1, Int.toNat_of_nonneg h0]
  have nneg : ∀ z : Int, 0 ≤ z → z < 2147483648 → ¬ Int32.ofInt z < 0 := fun z h0 h1 => by rw [Int32.lt_iff_toInt_lt, kw_ti (by omega), Int32.toInt_zero]; omega
  obtain ⟨-, k9, hk9, cm9, hkk9⟩ := (hK.1.2 1 _ rfl).1 n0 (fun j => .long (Int64.ofInt (S k0 i0 (j : Int))))
  obtain ⟨-, k8, hk8, cm8, hkk8⟩ := (hK.1.2 1 _ rfl).1 n1 (fun j => .long (Int64.ofInt (S k1 i1 (j : Int))))
  obtain ⟨vm', X', step⟩ := X.arraycopy hx hown (hts _ hlink) (hts _ hnat) (hts _ hstat) (hts _ hini) (src := g.2.2 k0 i0) (dst := g.2.2 k1 i1) (cs := vp_cell (g.2.1 1) (n0, .inr (.inl (fun j => Int64.ofInt (S k0 i0 (j : Int)))))) (cd := vp_cell (g.2.1 1) (n1, .inr (.inl (fun j => Int64.ofInt (S k1 i1 (j : Int)))))) (srcPos := Int32.ofInt sp) (destPos := Int32.ofInt dp) (n := Int32.ofInt n) (by rw [hT]; exact e0) (by rw [hT]; exact e1)
    (fun _ h => by cases h) (fun _ h => by cases h) (fun h => by cases h) (fun h => by cases h) hk9 hk8 hkk9 hkk8 (by simp [refKind]) (nneg sp hsp (by omega)) (nneg dp hdp (by omega)) (nneg n hn (by omega))
    (by rw [nn sp hsp (by omega), nn n hn (by omega), kw_cl hsp (by omega), kw_cl hn (by omega)]; show ¬ _ > ((arrV (g.2.1 1) n0 (fun j => .long (Int64.ofInt (S k0 i0 (j : Int))))).slots.size : Int); rw [arrV_size]; omega)
    (by rw [nn dp hdp (by omega), nn n hn (by omega), kw_cl hdp (by omega), kw_cl hn (by omega)]; show ¬ _ > ((arrV (g.2.1 1) n1 (fun j => .long (Int64.ofInt (S k1 i1 (j : Int))))).slots.size : Int); rw [arrV_size]; omega)
    (fun vm₁ _ i hi => by
      have hi2 : i < n.toNat := by rw [kw_cl hn (by omega)] at hi; exact hi
      have e : (vp_cell (g.2.1 1) (n0, .inr (.inl (fun j => Int64.ofInt (S k0 i0 (j : Int)))))).slots.getD ((Int32.ofInt sp).toNatClampNeg + i) .null = .long (Int64.ofInt (S k0 i0 (((Int32.ofInt sp).toNatClampNeg + i : Nat) : Int))) := by
        show (arrV (g.2.1 1) n0 (fun j => .long (Int64.ofInt (S k0 i0 (j : Int))))).slots.getD _ _ = _
        rw [Array.getD_eq_getD_getElem?, arrV_read _ _ (by rw [kw_cl hsp (by omega)]; omega)]
        rfl
      refine ⟨?_, ?_⟩
      · rw [e]
        rfl
      · rw [e]
        exact trivial)
    (g := F0 m pc ls (vi n :: vi dp :: vr g k1 i1 :: vi sp :: vr g k0 i0 :: st)) rfl (by rw [hml]; exact hl.1) (rest := st) rfl (by rw [hb]; exact hd) hframes (by show 2 * 0 + _ + _ ≤ _; omega)
  have e2 : copied (vp_cell (g.2.1 1) (n0, .inr (.inl (fun j => Int64.ofInt (S k0 i0 (j : Int)))))) (vp_cell (g.2.1 1) (n1, .inr (.inl (fun j => Int64.ofInt (S k1 i1 (j : Int)))))) (Int32.ofInt sp) (Int32.ofInt dp) (Int32.ofInt n) = vp_cell (g.2.1 1) (n1, .inr (.inl (va_cpy (fun j => Int64.ofInt (S k0 i0 (j : Int))) (fun j => Int64.ofInt (S k1 i1 (j : Int))) (Int32.ofInt sp).toNatClampNeg (Int32.ofInt dp).toNatClampNeg (Int32.ofInt n).toNatClampNeg))) := va_copied (fun z => .long z) (g.2.1 1) (g.2.1 1) (fun j => Int64.ofInt (S k0 i0 (j : Int))) (fun j => Int64.ofInt (S k1 i1 (j : Int))) (by rw [kw_cl hsp (by omega), kw_cl hn (by omega)]; omega)
  rw [e2] at X' step
  have hl9 : g.2.2 k1 i1 < H.size := (Array.getElem?_eq_some_iff.mp e1).1
  have hheap : ((T.setVm vm').setCell (g.2.2 k1 i1) (vp_cell (g.2.1 1) (n1, .inr (.inl (va_cpy (fun j => Int64.ofInt (S k0 i0 (j : Int))) (fun j => Int64.ofInt (S k1 i1 (j : Int))) (Int32.ofInt sp).toNatClampNeg (Int32.ofInt dp).toNatClampNeg (Int32.ofInt n).toNatClampNeg))))).heap = H.setIfInBounds (g.2.2 k1 i1) (vp_cell (g.2.1 1) (n1, .inr (.inl (va_cpy (fun j => Int64.ofInt (S k0 i0 (j : Int))) (fun j => Int64.ofInt (S k1 i1 (j : Int))) (Int32.ofInt sp).toNatClampNeg (Int32.ofInt dp).toNatClampNeg (Int32.ofInt n).toNatClampNeg)))) := by rw [← hT]; rfl
  have oq : ∀ q : Nat, q ≠ g.2.2 k1 i1 → (H.setIfInBounds (g.2.2 k1 i1) (vp_cell (g.2.1 1) (n1, .inr (.inl (va_cpy (fun j => Int64.ofInt (S k0 i0 (j : Int))) (fun j => Int64.ofInt (S k1 i1 (j : Int))) (Int32.ofInt sp).toNatClampNeg (Int32.ofInt dp).toNatClampNeg (Int32.ofInt n).toNatClampNeg)))))[q]? = H[q]? := fun q hq => by simp [Array.getElem?_setIfInBounds, Ne.symm hq]
  have hA1 : A (g.2.2 k1 i1) := hA _ ⟨k1, i1, b0, b1, rfl⟩
  have hP2 : wP g (cpS S k0 i0 sp k1 i1 dp n) (H.setIfInBounds (g.2.2 k1 i1) (vp_cell (g.2.1 1) (n1, .inr (.inl (va_cpy (fun j => Int64.ofInt (S k0 i0 (j : Int))) (fun j => Int64.ofInt (S k1 i1 (j : Int))) (Int32.ofInt sp).toNatClampNeg (Int32.ofInt dp).toNatClampNeg (Int32.ofInt n).toNatClampNeg))))) := by
    intro k i h0 h1
    by_cases ek : k = k1 ∧ i = i1
    · obtain ⟨rfl, rfl⟩ := ek
      rw [hc1]
      have eF : (fun j : Nat => Int64.ofInt (cpS S k0 i0 sp k i dp n k i (j : Int))) = va_cpy (fun j => Int64.ofInt (S k0 i0 (j : Int))) (fun j => Int64.ofInt (S k i (j : Int))) (Int32.ofInt sp).toNatClampNeg (Int32.ofInt dp).toNatClampNeg (Int32.ofInt n).toNatClampNeg := by
        funext j
        simp only [va_cpy, cpS, kw_cl hsp (show sp < 2147483648 by omega), kw_cl hdp (show dp < 2147483648 by omega), kw_cl hn (show n < 2147483648 by omega)]
        by_cases hj : dp.toNat ≤ j ∧ j < dp.toNat + n.toNat
        · rw [if_pos hj, if_pos ⟨trivial, trivial, by omega, by omega⟩]
          congr 2
          omega
        · rw [if_neg hj, if_neg (fun q => hj ⟨by omega, by omega⟩)]
      show (H.setIfInBounds _ _)[_]? = some (vp_cell _ (_, .inr (.inl (fun j : Nat => Int64.ofInt (cpS S k0 i0 sp k i dp n k i (j : Int))))))
      rw [eF, Array.getElem?_setIfInBounds_self_of_lt hl9]
    · rw [cpS_ki S ek]
      exact (hP k i h0 h1).kept (oq _ (fun z => ek (hD k i k1 i1 h0 h1 b0 b1 z)))
  obtain ⟨t, a9, b9⟩ := kk _ _ ls hP2 ⟨by simp; exact hS.1, fun q g1 g2 => by
      rw [oq q (fun e => g2 (by rw [e]; exact hA1))]
      exact hS.2.1 q g1 g2, fun q hq => by
      rcases List.mem_append.mp hq with h | h
      · exact hS.2.2 q h
      · obtain ⟨z, -, hz⟩ := List.mem_map.mp h
        rw [← hz]
        exact hA1⟩ hl _ hheap X'
  exact ⟨t, step t a9, b9⟩
