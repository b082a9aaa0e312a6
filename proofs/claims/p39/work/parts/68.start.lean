theorem ao_int {args : Array Value} {s : State} (h : (Cond.arrayClass .int).before args s = true) : ∃ cA : ClassId, ArrOfT s cA .int ∧ va_RA s cA .int := by
  obtain ⟨c, k, comp, h1, h2, h3⟩ := Cond.arrayClass_spec h
  exact ⟨c, fun n z => ⟨fun k h => (by cases h), k, h2, comp, h3⟩, h1⟩
theorem ao_long {args : Array Value} {s : State} (h : (Cond.arrayClass .long).before args s = true) : ∃ cA : ClassId, ArrOfT s cA .long ∧ va_RA s cA .long := by
  obtain ⟨c, k, comp, h1, h2, h3⟩ := Cond.arrayClass_spec h
  exact ⟨c, fun n z => ⟨fun k h => (by cases h), k, h2, comp, h3⟩, h1⟩
theorem ao_obj {C : String} {args : Array Value} {s : State} (h : (Cond.arrayOver (.object C)).before args s = true) : ∃ cA : ClassId, ArrOfT s cA (.object C) ∧ va_RA s cA (.object C) := by
  obtain ⟨comp, c, k, h1, h2, h3, h4, h5⟩ := Cond.arrayOver_spec h
  exact ⟨c, fun n z => ⟨fun k h => (by cases h), k, h3, comp, h4⟩, k, comp, h3, h4, h1, h5⟩
theorem ao_arl {args : Array Value} {s : State} (h : (Cond.arrayOver (.array .long)).before args s = true) : ∃ cA : ClassId, ArrOfT s cA (.array .long) ∧ va_RA s cA (.array .long) := by
  obtain ⟨comp, c, k, h1, h2, h3, h4, h5⟩ := arrayOver_specB h
  exact ⟨c, fun n z => ⟨fun k h => (by cases h), k, h3, comp, h4⟩, h5⟩
theorem nest_tbl : ∀ w ∈ nestX, w ∈ lw_tbl := by decide +kernel
theorem aoX_tbl : ∀ w ∈ aoX, w ∈ lw_tbl := by decide +kernel
set_option maxHeartbeats 4000000 in
set_option maxRecDepth 100000 in
/-- the worlds' names, at any address h, out of the tables' words -/
theorem law_names {args : Array Value} {s : State} (h : Nat) (hts : ∀ w ∈ lw_tbl, w.before args s = true) : ∃ g : wG, g.2.2 = adX h ∧ wKc g s := by
  obtain ⟨c0, i0, hK0⟩ := u_known (C := RX0) (T := TX0) (N := 6) (n := 6) hts inX0 (hts (.instantiable RX0 6) (by decide +kernel))
  obtain ⟨c1, i1, hK1⟩ := u_known (C := RX1) (T := TX1) (N := 3) (n := 3) hts inX1 (hts (.instantiable RX1 3) (by decide +kernel))
  obtain ⟨c2, i2, hK2⟩ := u_known (C := RX2) (T := TX2) (N := 4) (n := 4) hts inX2 (hts (.instantiable RX2 4) (by decide +kernel))
  obtain ⟨c3, i3, hK3⟩ := u_known (C := RX3) (T := TX3) (N := 3) (n := 3) hts inX3 (hts (.instantiable RX3 3) (by decide +kernel))
  obtain ⟨c4, i4, hK4⟩ := u_known (C := RX4) (T := TX4) (N := 6) (n := 6) hts inX4 (hts (.instantiable RX4 6) (by decide +kernel))
  obtain ⟨c5, i5, hK5⟩ := u_known (C := RX5) (T := TX5) (N := 3) (n := 3) hts inX5 (hts (.instantiable RX5 3) (by decide +kernel))
  obtain ⟨c6, i6, hK6⟩ := u_known (C := RX6) (T := TX6) (N := 2) (n := 2) hts inX6 (hts (.instantiable RX6 2) (by decide +kernel))
  obtain ⟨c7, i7, hK7⟩ := u_known (C := RX7) (T := TX7) (N := 12) (n := 12) hts inX7 (hts (.instantiable RX7 12) (by decide +kernel))
  obtain ⟨a0, A0⟩ := ao_int (hts (.arrayClass .int) (by decide +kernel))
  obtain ⟨a1, A1⟩ := ao_long (hts (.arrayClass .long) (by decide +kernel))
  obtain ⟨a2, A2⟩ := ao_obj (hts (.arrayOver (.object "MirrorBench$Word")) (by decide +kernel))
  obtain ⟨a3, A3⟩ := ao_obj (hts (.arrayOver (.object "MirrorBench$Leaf")) (by decide +kernel))
  obtain ⟨a4, A4⟩ := ao_obj (hts (.arrayOver (.object "MirrorBench$Mirrors")) (by decide +kernel))
  obtain ⟨a5, A5⟩ := ao_arl (hts (.arrayOver (.array .long)) (by decide +kernel))
  refine ⟨((fun k => if k = 0 then c0 else if k = 1 then c1 else if k = 2 then c2 else if k = 3 then c3 else if k = 4 then c4 else if k = 5 then c5 else if k = 6 then c6 else c7, fun k => if k = 0 then i0 else if k = 1 then i1 else if k = 2 then i2 else if k = 3 then i3 else if k = 4 then i4 else if k = 5 then i5 else if k = 6 then i6 else i7), fun k => if k = 0 then a0 else if k = 1 then a1 else if k = 2 then a2 else if k = 3 then a3 else if k = 4 then a4 else a5, adX h), rfl, ⟨⟨?_, ?_⟩, ?_⟩, ?_⟩
  · intro k q hq
    match k, hq with
    | 0, hq => cases hq; exact hK0
    | 1, hq => cases hq; exact hK1
    | 2, hq => cases hq; exact hK2
    | 3, hq => cases hq; exact hK3
    | 4, hq => cases hq; exact hK4
    | 5, hq => cases hq; exact hK5
    | 6, hq => cases hq; exact hK6
    | 7, hq => cases hq; exact hK7
    | k + 8, hq => simp [vwCl] at hq
  · intro k q hq
    match k, hq with
    | 0, hq => cases hq; exact A0
    | 1, hq => cases hq; exact A1
    | 2, hq => cases hq; exact A2
    | 3, hq => cases hq; exact A3
    | 4, hq => cases hq; exact A4
    | 5, hq => cases hq; exact A5
    | k + 6, hq => simp [tysX] at hq
  · exact fun w hw => va_tabs (by revert w; decide +kernel) rfl (hts w (nest_tbl w hw))
  · intro w hw
    have h9 := hts w (aoX_tbl w hw)
    simp only [aoX, List.mem_cons, List.not_mem_nil, or_false] at hw
    rcases hw with rfl | rfl | rfl | rfl <;> exact h9
/-! THE CLAIM OUT OF ONE WALK OF THE LAW'S BODY. Your part is whole_start (and what it stands on); all else here is the same for every law, but numbers. -/
def R_law : String := "MirrorBenchLaw"
def lw_P (b : Addr) (xs : List Int32) (args : Array Value) (s : State) : Prop := args = #[.ref b] ∧ s.IntsAt b xs ∧ xs.length ≤ 260 ∧ (Jvm.Cond.and given_1 narrow_1).before args s = true
def lw_Q (_ : Array Value) (s : State) (o : Outcome) (t : State) : Prop := o = .returned (some (.int 1)) ∧ Framed s o t [] 600000 7302250
def lw_Z (below : List Frame) (a : Array Value) (s : State) : State → Prop := fun t => ∃ o, t.status = .running ∧ Ended t below o ∧ lw_Q a s o t
/-- the law's own end, with 1 on the stack, nothing written that was there before, its room as the claim has it -/
theorem lw_ret {p : Program} {l : Launch} {e : Env} {s : State} {m : MethodId} {below : List Frame} {meth : Method} {c : Code} {b : Nat} (hx : p.tables.exec = Jvm.exec) (hb : c.code = code) (hr : meth.sig.returnType = ret) (hlocks : meth.locks = false) {pc : Nat} {H : Heap} {ls : Array Slot} (hdg : decode code pc = .ok (.ireturn, 1)) : W p l e room_1 s m #[Value.ref b] below meth c H [] 600000 7302250 (lw_Z below #[Value.ref b] s) (F0 m pc ls [.int 1]) := by
  intro T hT X
  obtain ⟨fs, hret, hrun, hended, hW, hframe⟩ := X.leave (v := some (.int 1)) (hlocks := hlocks) (fun h => by rw [hr] at h; cases h)
  have hmeth' : T.vm.method? m = some meth := X.method'
  refine ⟨T.setFrames fs, ?_, .returned (some (.int 1)), hrun, hended, rfl, ⟨_, rfl⟩, hW, hframe⟩
  jvm_step X.here [X.here.top, hx, hb, hdg, hmeth', hr, ret, narrow_b1]
  (try refine ⟨rfl, ?_⟩); (try refine ⟨rfl, ?_⟩)
  first | (intro acts; rw [hret _ acts rfl rfl rfl]) | rw [hret _ _ rfl rfl rfl]
  exact Steps.refl _
/-- what holds at the law's entry: the machine, the code, the tables' words (any of lw_tbl by 'hts w (by decide +kernel)'), the script of L ints xs at the cell b, what the Statement gives of the start (any of its parts by flat_of_before) -/
def lw_At (p : Program) (s : State) (m : MethodId) (meth : Method) (c : Code) (b L : Nat) (xs : Nat → Int32) : Prop :=
  p.tables.exec = Jvm.exec ∧ c.code = code ∧ meth.sig.returnType = ret ∧ c.maxLocals = 14 ∧ s.vm.findClass R_law = some m.cls ∧ (∀ w ∈ lw_tbl, w.before #[Value.ref b] s = true) ∧ va_X b L xs s s.heap ∧ b < s.heap.size ∧ meth.locks = false ∧ (Jvm.Cond.and given_1 narrow_1).before #[Value.ref b] s = true
theorem cOK_0 : cOK 0 (fun _ => 0) (fun _ => 0) := ⟨⟨by omega, fun _ _ _ => by show (0 : Int) ≤ 0 ∧ (0 : Int) ≤ 2; decide, fun _ _ _ _ _ _ => by show (0 : Int) ≤ 0 ∧ (0 : Int) ≤ 4; decide, fun _ _ _ => rfl, fun _ _ _ _ _ _ _ => rfl, fun _ _ _ _ _ _ => by show (0 : Int) * 0 ≤ 4; decide⟩, fun _ _ _ _ _ _ _ => rfl⟩
theorem S0_18 (j : Int) : S0_ 18 0 j = if j = 0 then 1 else 0 := by
  show (if (18 : Nat) = 18 ∧ j = 0 then (1 : Int) else if (18 : Nat) = 69 ∧ 0 ≤ j ∧ j < 4 then -1 else 0) = _
  by_cases h : j = 0
  · rw [if_pos ⟨rfl, h⟩, if_pos h]
  · rw [if_neg (fun q => h q.2), if_neg h, if_neg (fun q => absurd q.1 (by decide))]
theorem S0_69 (j : Int) (h : 0 ≤ j ∧ j < 4) : S0_ 69 0 j = -1 := by
  show (if (69 : Nat) = 18 ∧ j = 0 then (1 : Int) else if (69 : Nat) = 69 ∧ 0 ≤ j ∧ j < 4 then -1 else 0) = _
  rw [if_neg (fun q => absurd q.1 (by decide)), if_pos ⟨rfl, h⟩]
theorem S0_z {k : Nat} {i j : Int} (h : k ≠ 18) (h2 : k ≠ 69) : S0_ k i j = 0 := by
  show (if k = 18 ∧ j = 0 then (1 : Int) else if k = 69 ∧ 0 ≤ j ∧ j < 4 then -1 else 0) = _
  rw [if_neg (fun q => h q.1), if_neg (fun q => h2 q.1)]
theorem of_106 : ∀ k, k < 30 → ∀ i : Nat, i < 17 → (i : Int) < cn k → of_ k (i : Int) < 106 := by decide +kernel
theorem cn_m17 : ∀ k, k < 30 → cn k ≤ 17 := by decide +kernel
theorem cn_30 : ∀ k, 30 ≤ k → cn k = 0 := by
  intro k h
  match k, h with
  | k + 30, _ => rfl
theorem wc_wk {E : wE} {g : wG} {nL : Nat} {pc : Nat} {lv : List (Nat × Value)} {st : List Value} {h N cells slots : Nat} (hg : g.2.2 = adX h) (hN : h + 105 < N) (hE : E.2.2.2.2.2.2.2.2.2.2.2.2.1 = cells ∧ E.2.2.2.2.2.2.2.2.2.2.2.2.2.1 = slots) (kk : Wk E g nL S0_ pc lv st) : Wc E g nL (czf g) N cells slots pc lv st := by
  obtain ⟨p, l, e, R, s, m, args, below, meth, c, A, H0, cells9, slots9, Q⟩ := E
  obtain ⟨rfl, rfl⟩ := hE
  intro H locs ls hQ hS hl
  refine kk H locs ls (fun k i h0 h1 => hQ.2 k i h0 h1 ?_) hS hl
  have hk : k < 30 := by
    rcases Nat.lt_or_ge k 30 with q | q
    · exact q
    · rw [cn_30 k q] at h1; omega
  have hi := cn_m17 k hk
  have e1 := of_106 k hk i.toNat (by omega) (by omega)
  rw [Int.toNat_of_nonneg h0] at e1
  rw [hg]
  show h + of_ k i < N
  omega
def x0_ : aS := ((0, fun _ => 0, fun _ _ => 0), 0, fun _ => (0, fun _ => 0, fun _ _ => 0))
theorem SX_0 : SX 0 (fun _ _ => 0) S0_ := by
  refine ⟨⟨cOK_0, ⟨⟨by first | decide | (rw [S0_z (by decide) (by decide)]; decide), by first | decide | (rw [S0_z (by decide) (by decide)]; decide)⟩, by first | decide | (rw [S0_z (by decide) (by decide)]; decide), by first | decide | (rw [S0_z (by decide) (by decide)]; decide)⟩, fun c _ _ => cOK_0, fun s _ _ => ⟨⟨by first | decide | (rw [S0_z (by decide) (by decide)]; decide), by first | decide | (rw [S0_z (by decide) (by decide)]; decide)⟩, fun j (a : 0 ≤ j) (b : j < 0) => by omega⟩, fun l _ _ => ⟨Or.inl rfl, ⟨by first | decide | (rw [S0_z (by decide) (by decide)]; decide), by first | decide | (rw [S0_z (by decide) (by decide)]; decide)⟩, by first | decide | (rw [S0_z (by decide) (by decide)]; decide), by first | decide | (rw [S0_z (by decide) (by decide)]; decide)⟩, fun l j _ _ _ _ => ⟨by first | decide | (rw [S0_z (by decide) (by decide)]; decide), by first | decide | (rw [S0_z (by decide) (by decide)]; decide)⟩, ⟨⟨by first | decide | (rw [S0_z (by decide) (by decide)]; decide), by first | decide | (rw [S0_z (by decide) (by decide)]; decide)⟩, Or.inl rfl, rfl, fun q a b => ?_, by first | decide | (rw [S0_z (by decide) (by decide)]; decide), fun q x a b => ?_, fun q => ?_, fun low q x i a b c => ?_⟩, ⟨⟨by first | decide | (rw [S0_z (by decide) (by decide)]; decide), by first | decide | (rw [S0_z (by decide) (by decide)]; decide)⟩, Or.inl rfl, by rw [S0_18]; rfl, fun j a b => ?_, fun k i a b => ?_⟩⟩, cSl_e (fun s _ _ => S0_z (by decide) (by decide)), x0_, ⟨⟨rfl, fun i _ _ => rfl, fun i j _ _ _ _ => rfl⟩, rfl, fun t a b => ?_⟩, rfl, fun i j a b _ _ => ?_⟩
  · have b : q ≤ 0 := b
    omega
  · have b : q ≤ 0 := b
    omega
  · have q : (1 : Int) ≤ 0 := q
    omega
  · have c : q ≤ 0 := c
    omega
  · have b : j ≤ 0 := b
    rw [S0_18]
    split <;> omega
  · have b : k ≤ 0 := b
    omega
  · have b : t < 0 := b
    omega
  · have b : i < 0 := b
    omega
set_option maxHeartbeats 4000000 in
set_option maxRecDepth 100000 in
theorem whole_start {p : Program} {e : Env} {s : State} {m : MethodId} {below : List Frame} {meth : Method} {c : Code} (l : Launch) (hflags : l.flags = flags0) {b L : Nat} {xs : Nat → Int32} (hL : L ≤ 260) (C0 : lw_At p s m meth c b L xs) : W p l e room_1 s m #[Value.ref b] below meth c s.heap [] 0 0 (lw_Z below #[Value.ref b] s) (entryFrame m ([Value.ref b] : List Value).toArray 14) := by
  obtain ⟨hx, hb, hr, hml, hown, hts, hX, hbl, hlocks, hgv⟩ := id C0
  have hA : ∀ q : Nat, s.heap.size ≤ q → (fun q : Nat => s.heap.size ≤ q) q := fun _ h => h
  have hbA : ¬ (fun q : Nat => s.heap.size ≤ q) b := Nat.not_le.mpr hbl
  obtain ⟨g, hg, hKc⟩ := law_names s.heap.size hts
  have hD : wD g := wD_adX hg
  have hl := lv_entry ([.ref b]) (n := 14) (Nat.le_of_ble_eq_true rfl)
  rw [lg_entry_eq]
  generalize (lg_sl ([.ref b]) ++ List.replicate (14 - (lg_sl ([.ref b])).length) Slot.unset).toArray = ls at hl ⊢
  have hl : lv_has ls 14 [(0, .ref b)] := hl
  obtain ⟨E, hE⟩ : ∃ E : wE, E = (p, l, e, room_1, s, m, #[Value.ref b], below, meth, c, (fun q : Nat => s.heap.size ≤ q), s.heap, 106, 6738, lw_Z below #[Value.ref b] s) := ⟨_, rfl⟩
  have hC : Cx E g cL_law RL wsL_law 14 room_1 := by
    rw [hE]
    refine ⟨hx, hb, hml, hown, fun w hw => hts w (wsL_law_in w hw), hKc.1, rfl, hD, ?_, Nat.le_of_ble_eq_true rfl, Nat.le_of_ble_eq_true rfl⟩
    rintro q ⟨k, i, h0, h1, rfl⟩
    rw [hg]
    exact Nat.le_add_right _ _
  have hXL : Lx E b L xs := by rw [hE]; exact ⟨hX, hbl, hbA⟩
  have hKE : ∀ (p : Program) (l : Launch) (e : Env) (R : Room) (s : State) (m : MethodId) (args : Array Value) (below : List Frame) (meth : Method) (c : Code) (A : Nat → Prop) (H0 : Heap) (c0 s0 : Nat) (Q : State → Prop), E = (p, l, e, R, s, m, args, below, meth, c, A, H0, c0, s0, Q) → wKc g s := by
    intro p' l' e' R' s' m' args' below' meth' c' A' H0' c0' s0' Q' h9
    rw [hE] at h9
    cases h9
    exact hKc
  have hend : ∀ (S2 : wSt) (lv : List (Nat × Value)), Wk E g 14 S2 813 lv [vi 1] := by
    intro S2 lv
    rw [hE]
    intro H locs ls hP hS hl
    refine va_forget (fun q hq => hS.2.2 q hq) ?_
    refine W.widen (k := 600000) (n := 7302250) (Nat.le_of_ble_eq_true rfl) (Nat.le_of_ble_eq_true rfl) ?_
    exact lw_ret hx hb hr hlocks dL_law_813
  have hL2 : L < 2147483648 := by omega
  have htop : Wk E g 14 S0_ 8 [(1, vr g 0 0), (0, .ref b)] [] := law_8 hC hXL hL2 hD SX_0 hend
  have hgo : Wc E g 14 (czf g) s.heap.size 0 0 0 [(0, .ref b)] [] := by
    refine kc_new (k := 0) (i := 0) (ci := 7) (C := RX7) (T := TX7) (Nf := 12) (fs := [.null, .null, .null, .null, .null, .null, .null, .null, .null, .null, .null, .null]) hC inlX7 tyX7 tyX7_ok (by decide +kernel) (by decide +kernel) (by decide +kernel) rfl (fun j hj => by rcases (show j = 0 ∨ j = 1 ∨ j = 2 ∨ j = 3 ∨ j = 4 ∨ j = 5 ∨ j = 6 ∨ j = 7 ∨ j = 8 ∨ j = 9 ∨ j = 10 ∨ j = 11 by omega) with rfl | rfl | rfl | rfl | rfl | rfl | rfl | rfl | rfl | rfl | rfl | rfl <;> rfl) (by rw [hg]; rfl) (by decide) (by decide) (Nat.le_of_ble_eq_true rfl) (Nat.le_of_ble_eq_true rfl) dL_law_0 rfl ?_
    refine kc_dup hC dL_law_3 rfl rfl ?_
    refine kc_callI hC hKE (cn_X7_init hg) gL_law_X7_init (by decide +kernel) (by decide +kernel) (by decide +kernel) rfl ⟨rfl, rfl⟩ 0 rfl (by decide +kernel) ⟨by decide, by decide⟩ rfl rfl (Nat.le_of_ble_eq_true rfl) ⟨Nat.le_of_ble_eq_true rfl, Nat.le_of_ble_eq_true rfl⟩ dL_law_4 rfl ?_
    refine kc_N (N' := s.heap.size + 106) (c' := 106) (s' := 6738) rfl rfl rfl ?_
    refine kc_astore_n (lv' := [(1, vr g 0 0), (0, .ref b)]) hC dL_law_7 rfl (by decide) rfl ?_
    exact wc_wk hg (by omega) (by rw [hE]; exact ⟨rfl, rfl⟩) htop
  rw [hE] at hgo
  exact hgo s.heap [] ls ⟨rfl, fun k i h0 h1 h2 => absurd h2 (by rw [hg]; exact Nat.not_lt.mpr (Nat.le_add_right _ _))⟩ va_S.rf hl
