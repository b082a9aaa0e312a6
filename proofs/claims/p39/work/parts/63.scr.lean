section
/-! the script -/
def sv (xs : Nat → Int32) (n : Nat) : Int := (xs n).toInt
theorem sv_r (xs : Nat → Int32) (n : Nat) : -2147483648 ≤ sv xs n ∧ sv xs n ≤ 2147483647 := by
  have h1 := Int32.le_toInt (xs n)
  have h2 := Int32.toInt_lt (xs n)
  unfold sv
  omega
theorem vi_sv (xs : Nat → Int32) (n : Nat) : vi (sv xs n) = .int (xs n) := by unfold vi sv; rw [Int32.ofInt_toInt]
def Lx (E : wE) (b L : Nat) (xs : Nat → Int32) : Prop := match E with
  | (_, _, _, _, s, _, _, _, _, _, A, H0, _, _, _) => va_X b L xs s H0 ∧ b < H0.size ∧ ¬ A b
section LW
variable {E : wE} {g : wG} {cc : ByteArray} {own : String} {Ts : List Cond} {nL : Nat} {rm : Room} {S : wSt} {pc q : Nat} {lv : List (Nat × Value)} {st : List Value} {b L : Nat} {xs : Nat → Int32}
theorem kw_rload_n {k : Fin 4} {a : Nat} (hC : Cx E g cc own Ts nL rm) (hd : decode cc pc = .ok (.aload_n k, 1)) (hq : pc + 1 = q) (j : Nat) (hj : lv[j]? = some ((k : Nat), .ref a)) (kk : Wk E g nL S q lv (.ref a :: st)) : Wk E g nL S pc lv (st) := by
  obtain ⟨p, l, e, R, s, m, args, below, meth, c, A, H0, cells, slots, Q⟩ := E
  obtain ⟨hx, hb, hml, hown, hts, hK, hR, hD, hA, hc1, hc2⟩ := hC
  subst hq
  intro H locs ls hP hS hl
  exact lv_aload_n hx hb hd rfl (lv_at hl j hj) (kk H locs ls hP hS hl)
theorem kw_slen (hC : Cx E g cc own Ts nL rm) (hd : decode cc pc = .ok (.arraylength, 1)) (hq : pc + 1 = q) (hX : Lx E b L xs) (kk : Wk E g nL S q lv (vi (L : Int) :: st)) : Wk E g nL S pc lv (.ref b :: st) := by
  obtain ⟨p, l, e, R, s, m, args, below, meth, c, A, H0, cells, slots, Q⟩ := E
  obtain ⟨hx, hb, hml, hown, hts, hK, hR, hD, hA, hc1, hc2⟩ := hC
  subst hq
  intro H locs ls hP hS hl
  obtain ⟨x1, x2, x3⟩ := hX
  have h := kk H locs ls hP hS hl
  rw [vi, Int32.ofInt_eq_ofNat] at h
  exact va_slen hx hb x1 x2 x3 hS hd h
theorem kw_sld {z : Int} (hC : Cx E g cc own Ts nL rm) (hd : decode cc pc = .ok (.iaload, 1)) (hq : pc + 1 = q) (hX : Lx E b L xs) (h0 : 0 ≤ z) (h1 : z < L) (hLs : L < 2147483648) (kk : Wk E g nL S q lv (vi (sv xs z.toNat) :: st)) : Wk E g nL S pc lv (vi z :: .ref b :: st) := by
  obtain ⟨p, l, e, R, s, m, args, below, meth, c, A, H0, cells, slots, Q⟩ := E
  obtain ⟨hx, hb, hml, hown, hts, hK, hR, hD, hA, hc1, hc2⟩ := hC
  subst hq
  intro H locs ls hP hS hl
  obtain ⟨x1, x2, x3⟩ := hX
  have h := kk H locs ls hP hS hl
  rw [vi_sv] at h
  exact va_sld hx hb x1 x2 x3 hS (kw_vpin h0 h1 hLs) hd (by rw [kw_cl h0 (by omega)]; exact h)
theorem kw_ldc {index : Nat} {v : Int32} (hC : Cx E g cc own Ts nL rm) (hw : Cond.constant own index v ∈ Ts) (hd : decode cc pc = .ok (.ldc index, 2)) (hq : pc + 2 = q) {z : Int} (hz : Int32.ofInt z = v) (kk : Wk E g nL S q lv (vi z :: st)) : Wk E g nL S pc lv st := by
  obtain ⟨p, l, e, R, s, m, args, below, meth, c, A, H0, cells, slots, Q⟩ := E
  obtain ⟨hx, hb, hml, hown, hts, hK, hR, hD, hA, hc1, hc2⟩ := hC
  subst hq
  subst hz
  intro H locs ls hP hS hl
  exact lv_ldc hx hb hown (hts _ hw) hd (kk H locs ls hP hS hl)
theorem kw_and31 {a : Int} (hC : Cx E g cc own Ts nL rm) (hd : decode cc pc = .ok (.iand, 1)) (hq : pc + 1 = q) (kk : ∀ k : Int, 0 ≤ k → k < 2147483648 → Wk E g nL S q lv (vi k :: st)) : Wk E g nL S pc lv (vi 2147483647 :: vi a :: st) := by
  obtain ⟨p, l, e, R, s, m, args, below, meth, c, A, H0, cells, slots, Q⟩ := E
  obtain ⟨hx, hb, hml, hown, hts, hK, hR, hD, hA, hc1, hc2⟩ := hC
  subst hq
  intro H locs ls hP hS hl
  obtain ⟨j, hj, e9⟩ := pk_andE (Int32.ofInt a) (m := 2147483647) 31 (by decide)
  have h := kk (j : Int) (by omega) (by omega) H locs ls hP hS hl
  have e2 : Int32.ofInt a &&& Int32.ofInt 2147483647 = Int32.ofInt (j : Int) := by rw [show Int32.ofInt 2147483647 = 2147483647 from rfl, e9, nI, Int32.ofInt_eq_ofNat]
  rw [vi, ← e2] at h
  exact lv_iand hx hb hd h
end LW
/-- a contract of a method that reads the script too -/
def KtS (l : Launch) (y : MethodName) (ws : List Cond) (rm : Room) (g : wG) (b L : Nat) (xs : Nat → Int32) (S : wSt) (As : List Value) (post : Option Value → wSt → Prop) : Prop :=
  Met l y ws rm (va_Pc As (fun U => wP g S U.heap ∧ wK g U ∧ va_X b L xs U U.heap ∧ b < U.heap.size ∧ ¬ wA g b)) (fun _ st o t => (∃ (v : Option Value) (S' : wSt), o = .returned v ∧ post v S' ∧ wP g S' t.heap) ∧ va_F (wA g) st t) 0 0 (wA g)
theorem KtS.of {l : Launch} {y : MethodName} {ws ws' : List Cond} {rm : Room} {g : wG} {b L : Nat} {xs : Nat → Int32} {S : wSt} {As : List Value} {post : Option Value → wSt → Prop} {cc : ByteArray} {nL : Nat} {ret : Option FieldType} {own : String} (hown : y.cls = own) (hD : wD g) (hy : plainName y.cls = true) (hw : ws = Cond.code y cc nL ret :: ws') (hlen : (lg_sl As).length ≤ nL) (hrm : rm.cells = 0 ∧ rm.slots = 0)
    (body : ∀ E : wE, Cx E g cc own ws nL rm → Lx E b L xs → Rt E g cc nL ret post → Wk E g nL S 0 (lv_args 0 As) []) : KtS l y ws rm g b L xs S As post := by
  refine Met.ofW (cc := cc) (maxL := nL) (ret := ret) hy hw ?_
  intro p e s m args below meth c s₁ B hml hv
  obtain ⟨rfl, hP, hK, hX⟩ := hv
  have hx := B.exec
  have hb := B.bytes
  have hr := B.returns
  have hts := atoms_spec (ws := ws) B.pre
  have hown2 : s.vm.findClass own = some m.cls := by rw [← hown]; exact findClass_of_methodNamed B.named
  have hlocks := B.notSynchronized
  have hl := lv_entry As hlen
  rw [lg_entry_eq]
  have hbody := body (p, l, e, rm, s, m, As.toArray, below, meth, c, wA g, s.heap, 0, 0, MQ below (fun _ st o t => (∃ (v : Option Value) (S' : wSt), o = .returned v ∧ post v S' ∧ wP g S' t.heap) ∧ va_F (wA g) st t) As.toArray s 0 0 (wA g))
    ⟨hx, hb, hml, hown2, hts, hK, rfl, hD, fun _ h => h, Nat.zero_le _, Nat.zero_le _⟩ hX
    ⟨fun e1 S' pc lv r hd hp H locs ls hP' hS hl' => by
        subst e1
        exact W.iret hx hb hr (fun t ht hW => ⟨⟨some (vi r), S', rfl, hp, by rw [ht]; exact hP'⟩, hS.F ht⟩) hS.2.2 hd,
     fun e1 S' pc lv r hd h01 hp H locs ls hP' hS hl' => by
        subst e1
        refine W.zret (ty := .boolean) hx hb hr ?_ (fun t ht hW => ⟨⟨some (vi r), S', rfl, hp, by rw [ht]; exact hP'⟩, hS.F ht⟩) hS.2.2 hd
        rcases h01 with rfl | rfl <;> rfl,
     fun e1 S' pc lv r hd hp H locs ls hP' hS hl' => by
        subst e1
        exact W.lret hx hb hr (fun t ht hW => ⟨⟨some (vl r), S', rfl, hp, by rw [ht]; exact hP'⟩, hS.F ht⟩) hS.2.2 hd,
     fun e1 S' pc lv hd hp H locs ls hP' hS hl' => by
        subst e1
        exact W.vret hx hb hr (fun t ht hW => ⟨⟨none, S', rfl, hp, by rw [ht]; exact hP'⟩, hS.F ht⟩) hS.2.2 hd⟩
  exact hbody s.heap [] _ hP va_S.rf hl
theorem KtS_blind {g : wG} {b L : Nat} {xs : Nat → Int32} {S : wSt} {As : List Value} : FrameBlind (va_Pc As (fun U => wP g S U.heap ∧ wK g U ∧ va_X b L xs U U.heap ∧ b < U.heap.size ∧ ¬ wA g b)) := fun a U f mk q => ⟨q.1, q.2.1, q.2.2.1.blind, va_X.moved (u := U) (U := U.calling f mk a) (Vm.Alike.refl U.vm) q.2.2.2.1, q.2.2.2.2⟩
section KC
variable {E : wE} {g : wG} {cc : ByteArray} {own : String} {Ts : List Cond} {nL : Nat} {rm : Room} {S : wSt} {pc q : Nat} {lv : List (Nat × Value)} {st stk : List Value}
  {y : MethodName} {ws ws' : List Cond} {rmc : Room} {As : List Value} {post : Option Value → wSt → Prop} {bytes : ByteArray} {maxL index : Nat} {ret : Option FieldType} {b L : Nat} {xs : Nat → Int32}
theorem kw_callSS (hC : Cx E g cc own Ts nL rm) (hX : Lx E b L xs) (hM : ∀ l, KtS l y ws rmc g b L xs S As post) (hG : GoodIn Ts (va_wsS own index y ws)) (hw : ws = Cond.code y bytes maxL ret :: ws') (hrm : rmc.cells = 0 ∧ rmc.slots = 0) (n : Nat) (hy : y.cls ≠ "java/lang/invoke/MethodHandle" ∧ y.cls ≠ "java/lang/invoke/VarHandle" ∧ (parseMethodDescriptor y.desc).map (fun d => d.parameters.length) = some n) (hroom : rmc.frames + 1 ≤ rm.frames ∧ 8 + (maxL + 11) + rmc.locals ≤ rm.locals) (hn : As.length = n) (hst : stk = As.reverse ++ st) (hsum : (st.map fun v => v.category).sum ≤ 8) (hd : decode cc pc = .ok (.invokestatic index, 3)) (hq : pc + 3 = q)
    (kk : ∀ (v : Option Value) (S' : wSt), post v S' → Wk E g nL S' q lv (v.toList ++ st)) : Wk E g nL S pc lv stk := by
  obtain ⟨p, l, e, R, s, m, args, below, meth, c, A, H0, cells, slots, Q⟩ := E
  obtain ⟨hx, hb, hml, hown, hts, hK, hR, hD, hA, hc1, hc2⟩ := hC
  subst hq
  subst hR
  obtain ⟨x1, x2, x3⟩ := hX
  intro H locs ls hP hS hl
  refine kw_ran (a := As.toArray) (va_runS (As := As) (rest := st) ⟨hx, hb, hml, hown, hts⟩ (hM l) (va_cwS n hts hG hw hrm.1 hrm.2 hy hroom) ⟨KtS_blind, fun U hU hW => ⟨rfl, by rw [hU]; exact hP, ⟨va_K.moved hW.alike hK.1, wN.moved hW hK.2⟩, va_X.moved hW.alike (by rw [hU]; exact x1.kept (hS.2.1 b x2 x3)), by rw [hU]; exact Nat.lt_of_lt_of_le x2 hS.1, fun z => x3 (hA b z)⟩⟩ rfl hn hl.1 hst (lv_room hsum) hd ⟨hc1, hc2⟩) hS hA hl kk
end KC
set_option maxRecDepth 100000 in
theorem d_L_cell {g : wG} (hD : wD g) {b L : Nat} {xs : Nat → Int32} (hLs : L < 2147483648) {S : wSt} {k : Int} (hk : 0 ≤ k ∧ k < 2147483648) (l : Launch) : KtS l yL_cell wsL_cell ({ frames := 0, cells := 0, slots := 0, locals := 0 } : Room) g b L xs S [.ref b, vi k] (pI (fun r S' => (0 ≤ r ∧ r < 2147483648) ∧ S' = S)) := by
  refine KtS.of (cc := cL_cell) (nL := 2) (ret := some .int) (own := RL) rfl hD (by decide) rfl (Nat.le_of_ble_eq_true rfl) ⟨rfl, rfl⟩ ?_
  intro E hC hX hR9
  show Wk E g 2 S 0 [(0, .ref b), (1, vi k)] []
  have l7 : Cond.constant RL 7 (15485957) ∈ wsL_cell := by decide +kernel
  have l8 : Cond.constant RL 8 (2147483647) ∈ wsL_cell := by decide +kernel
  have k19 : ∀ z, Wk E g 2 S 19 [(0, .ref b), (1, vi k)] [vi z] := by
    intro z
    refine kw_ldc (z := 2147483647) hC l8 dL_cell_19 rfl rfl ?_
    refine kw_and31 hC dL_cell_21 rfl (fun r r0 r1 => ?_)
    exact hR9.1 rfl _ _ _ _ dL_cell_22 ⟨_, rfl, ⟨r0, r1⟩, rfl⟩
  refine kw_iload_n hC dL_cell_0 rfl 1 rfl ?_
  refine kw_rload_n hC dL_cell_1 rfl 0 rfl ?_
  refine kw_slen hC dL_cell_2 rfl hX ?_
  refine kw_icmp_ge (tgt := 12) hC dL_cell_3 rfl (by decide) (by omega) (by omega) ⟨fun c3 => ?_, fun c3 => ?_⟩
  · refine kw_ldc (z := 15485957) hC l7 dL_cell_12 rfl rfl ?_
    refine kw_iload_n hC dL_cell_14 rfl 1 rfl ?_
    refine kw_imul hC dL_cell_15 rfl ?_
    refine kw_bipush hC dL_cell_16 rfl (by decide) ?_
    refine kw_iadd hC dL_cell_18 rfl ?_
    exact k19 _
  · refine kw_rload_n hC dL_cell_6 rfl 0 rfl ?_
    refine kw_iload_n hC dL_cell_7 rfl 1 rfl ?_
    refine kw_sld hC dL_cell_8 rfl hX hk.1 (by omega) hLs ?_
    refine kw_goto (tgt := 19) hC dL_cell_9 rfl (by decide) ?_
    exact k19 _
end
