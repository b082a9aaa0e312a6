/-! THE CLAIM OUT OF ONE WALK OF THE LAW'S BODY. Your part is whole_start (and what it stands on); all else here is the same for every law, but numbers. -/
def R_law : String := "MirrorBenchLaw"
def lw_P (b : Addr) (xs : List Int32) (args : Array Value) (s : State) : Prop := args = #[.ref b] ∧ s.IntsAt b xs ∧ xs.length ≤ 3072 ∧ (Jvm.Cond.and given_1 narrow_1).before args s = true
def lw_Q (_ : Array Value) (s : State) (o : Outcome) (t : State) : Prop := o = .returned (some (.int 1)) ∧ Framed s o t [] 600000 7302250
def lw_Z (below : List Frame) (a : Array Value) (s : State) : State → Prop := fun t => ∃ o, t.status = .running ∧ Ended t below o ∧ lw_Q a s o t
/-- the law's own end, with 1 on the stack, nothing written that was there before, its room as the claim has it -/
theorem lw_ret {p : Program} {l : Launch} {e : Env} {s : State} {m : MethodId} {below : List Frame} {meth : Method} {c : Code} {b : Nat} (hx : p.tables.exec = Jvm.exec) (hb : c.code = code) (hr : meth.sig.returnType = ret) (hlocks : meth.locks = false) {pc : Nat} {H : Heap} {ls : Array Slot} (hdg : decode code pc = .ok (.ireturn, 1)) : W p l e room_1 s m #[Value.ref b] below meth c H [] 600000 7302250 (lw_Z below #[Value.ref b] s) (F0 m pc ls [.int 1]) := by
  intro T hT X
  obtain ⟨fs, hret, hrun, hended, hW, hframe⟩ := X.leave (v := some (.int 1)) (hlocks := hlocks) (fun h => by rw [hr] at h; cases h)
  have hmeth' : T.vm.method? m = some meth := X.method'
  refine ⟨T.setFrames fs, ?_, .returned (some (.int 1)), hrun, hended, rfl, ⟨_, rfl⟩, hW, hframe⟩
  jvm_step X.here [X.here.top, hx, hb, hdg, hmeth', hr, ret, narrow_b1]
  (try refine ⟨rfl, ?_⟩); (try refine ⟨rfl, ?_⟩)
  first | (intro acts; rw [hret _ acts rfl rfl rfl]) | rw [hret _ _ rfl rfl rfl]
  exact Steps.refl _
/-- what holds at the law's entry: the machine, the code, the tables' words (any of lw_tbl by 'hts w (by decide +kernel)'), the script of L ints xs at the cell b, what the Statement gives of the start (any of its parts by flat_of_before) -/
def lw_At (p : Program) (s : State) (m : MethodId) (meth : Method) (c : Code) (b L : Nat) (xs : Nat → Int32) : Prop :=
  p.tables.exec = Jvm.exec ∧ c.code = code ∧ meth.sig.returnType = ret ∧ c.maxLocals = 4 ∧ s.vm.findClass R_law = some m.cls ∧ (∀ w ∈ lw_tbl, w.before #[Value.ref b] s = true) ∧ va_X b L xs s s.heap ∧ b < s.heap.size ∧ meth.locks = false ∧ (Jvm.Cond.and given_1 narrow_1).before #[Value.ref b] s = true
def x0_ : aS := ((0, fun _ => 0, fun _ _ => 0), 0, fun _ => (0, fun _ => 0, fun _ _ => 0))
def y0_ : aL := (fun _ => -1, fun _ => 0, fun _ _ => 0)
theorem S0_18 (j : Int) : S0_ 18 0 j = if j = 0 then 1 else 0 := by
  show (if (18 : Nat) = 18 ∧ j = 0 then (1 : Int) else if (18 : Nat) = 69 ∧ 0 ≤ j ∧ j < 4 then -1 else 0) = _
  by_cases h : j = 0
  · rw [if_pos ⟨rfl, h⟩, if_pos h]
  · rw [if_neg (fun q => h q.2), if_neg h, if_neg (fun q => absurd q.1 (by decide))]
theorem S0_69 (j : Int) (h : 0 ≤ j ∧ j < 4) : S0_ 69 0 j = -1 := by
  show (if (69 : Nat) = 18 ∧ j = 0 then (1 : Int) else if (69 : Nat) = 69 ∧ 0 ≤ j ∧ j < 4 then -1 else 0) = _
  rw [if_neg (fun q => absurd q.1 (by decide)), if_pos ⟨rfl, h⟩]
theorem S0_z {k : Nat} {i j : Int} (h : k ≠ 18) (h2 : k ≠ 69) : S0_ k i j = 0 := by
  show (if k = 18 ∧ j = 0 then (1 : Int) else if k = 69 ∧ 0 ≤ j ∧ j < 4 then -1 else 0) = _
  rw [if_neg (fun q => h q.1), if_neg (fun q => h2 q.1)]
theorem LI_0 : LI S0_ x0_ y0_ := by
  refine ⟨⟨cOK_0, ⟨⟨by first | decide | (rw [S0_z (by decide) (by decide)]; decide), by first | decide | (rw [S0_z (by decide) (by decide)]; decide)⟩, by first | decide | (rw [S0_z (by decide) (by decide)]; decide), by first | decide | (rw [S0_z (by decide) (by decide)]; decide)⟩, fun c _ _ => cOK_0, fun s _ _ => ⟨⟨by first | decide | (rw [S0_z (by decide) (by decide)]; decide), by first | decide | (rw [S0_z (by decide) (by decide)]; decide)⟩, fun j (a : 0 ≤ j) (b : j < 0) => by omega⟩, fun l _ _ => ⟨Or.inl rfl, ⟨by first | decide | (rw [S0_z (by decide) (by decide)]; decide), by first | decide | (rw [S0_z (by decide) (by decide)]; decide)⟩, by first | decide | (rw [S0_z (by decide) (by decide)]; decide), by first | decide | (rw [S0_z (by decide) (by decide)]; decide)⟩, fun l j _ _ _ _ => ⟨by first | decide | (rw [S0_z (by decide) (by decide)]; decide), by first | decide | (rw [S0_z (by decide) (by decide)]; decide)⟩, ⟨⟨by first | decide | (rw [S0_z (by decide) (by decide)]; decide), by first | decide | (rw [S0_z (by decide) (by decide)]; decide)⟩, Or.inl rfl, rfl, fun q a b => ?_, by first | decide | (rw [S0_z (by decide) (by decide)]; decide), fun q x a b => ?_, fun q => ?_, fun low q x i a b c => ?_⟩, ⟨⟨by first | decide | (rw [S0_z (by decide) (by decide)]; decide), by first | decide | (rw [S0_z (by decide) (by decide)]; decide)⟩, Or.inl rfl, by rw [S0_18]; rfl, fun j a b => ?_, fun k i a b => ?_⟩⟩, ⟨cOK_0.1, ⟨by first | decide | (rw [S0_z (by decide) (by decide)]; decide), by first | decide | (rw [S0_z (by decide) (by decide)]; decide)⟩, fun q a b => cOK_0.1, fun s _ _ => ⟨by first | decide | (rw [S0_z (by decide) (by decide)]; decide), by first | decide | (rw [S0_z (by decide) (by decide)]; decide)⟩, fun s k _ _ a b => ?_, fun l a b => by rw [S0_69 l ⟨a, b⟩]; decide, fun l _ _ => ⟨by first | decide | (rw [S0_z (by decide) (by decide)]; decide), by first | decide | (rw [S0_z (by decide) (by decide)]; decide)⟩, fun j _ _ => ⟨by first | decide | (rw [S0_z (by decide) (by decide)]; decide), by first | decide | (rw [S0_z (by decide) (by decide)]; decide)⟩⟩, ⟨⟨rfl, fun i _ _ => rfl, fun i j _ _ _ _ => rfl⟩, rfl, fun t a b => ?_⟩, ⟨⟨rfl, fun i _ _ => rfl, fun i j _ _ _ _ => rfl⟩, rfl, fun t a b => ?_⟩, fun l _ _ => ⟨rfl, rfl, fun j _ _ => rfl⟩, fun l a b => ⟨S0_69 l ⟨a, b⟩, rfl, fun j _ _ => rfl⟩⟩
  · have b : q ≤ 0 := b
    omega
  · have b : q ≤ 0 := b
    omega
  · have q : (1 : Int) ≤ 0 := q
    omega
  · have c : q ≤ 0 := c
    omega
  · have b : j ≤ 0 := b
    rw [S0_18]
    split <;> omega
  · have b : k ≤ 0 := b
    omega
  · have b : k < 0 := b
    omega
  · have b : t < 0 := b
    omega
  · have b : t < 0 := b
    omega
set_option maxHeartbeats 4000000 in
set_option maxRecDepth 100000 in
theorem whole_start {p : Program} {e : Env} {s : State} {m : MethodId} {below : List Frame} {meth : Method} {c : Code} (l : Launch) (hflags : l.flags = flags0) {b L : Nat} {xs : Nat → Int32} (hL : L ≤ 3072) (C0 : lw_At p s m meth c b L xs) : W p l e room_1 s m #[Value.ref b] below meth c s.heap [] 0 0 (lw_Z below #[Value.ref b] s) (entryFrame m ([Value.ref b] : List Value).toArray 4) := by
  obtain ⟨hx, hb, hr, hml, hown, hts, hX, hbl, hlocks, hgv⟩ := id C0
  have hA : ∀ q : Nat, s.heap.size ≤ q → (fun q : Nat => s.heap.size ≤ q) q := fun _ h => h
  have hbA : ¬ (fun q : Nat => s.heap.size ≤ q) b := Nat.not_le.mpr hbl
  obtain ⟨g, hg, hKc⟩ := law_names s.heap.size hts
  have hD : wD g := wD_adX hg
  have hl := lv_entry ([.ref b]) (n := 4) (Nat.le_of_ble_eq_true rfl)
  rw [lg_entry_eq]
  generalize (lg_sl ([.ref b]) ++ List.replicate (4 - (lg_sl ([.ref b])).length) Slot.unset).toArray = ls at hl ⊢
  have hl : lv_has ls 4 [(0, .ref b)] := hl
  obtain ⟨E, hE⟩ : ∃ E : wE, E = (p, l, e, room_1, s, m, #[Value.ref b], below, meth, c, (fun q : Nat => s.heap.size ≤ q), s.heap, 129, 31729, lw_Z below #[Value.ref b] s) := ⟨_, rfl⟩
  have hC : Cx E g cL_law RL wsL_law 4 room_1 := by
    rw [hE]
    refine ⟨hx, hb, hml, hown, fun w hw => hts w (wsL_law_in w hw), hKc.1, rfl, hD, ?_, Nat.le_of_ble_eq_true rfl, Nat.le_of_ble_eq_true rfl⟩
    rintro q ⟨k, i, h0, h1, rfl⟩
    rw [hg]
    exact Nat.le_add_right _ _
  have hXL : Lx E b L xs := by rw [hE]; exact ⟨hX, hbl, hbA⟩
  have hKE : ∀ (p : Program) (l : Launch) (e : Env) (R : Room) (s : State) (m : MethodId) (args : Array Value) (below : List Frame) (meth : Method) (c : Code) (A : Nat → Prop) (H0 : Heap) (c0 s0 : Nat) (Q : State → Prop), E = (p, l, e, R, s, m, args, below, meth, c, A, H0, c0, s0, Q) → wKc g s := by
    intro p' l' e' R' s' m' args' below' meth' c' A' H0' c0' s0' Q' h9
    rw [hE] at h9
    cases h9
    exact hKc
  have hend : ∀ (S2 : wSt) (lv : List (Nat × Value)), Wk E g 4 S2 1482 lv [] := by
    intro S2 lv
    refine kw_iconst hC dL_law_1482 rfl ?_
    rw [hE]
    intro H locs ls hP hS hl
    refine va_forget (fun q hq => hS.2.2 q hq) ?_
    refine W.widen (k := 600000) (n := 7302250) (Nat.le_of_ble_eq_true rfl) (Nat.le_of_ble_eq_true rfl) ?_
    exact lw_ret hx hb hr hlocks dL_law_1483
  have hL2 : L < 2147483648 := by omega
  have hloop : ∀ (n : Nat) (i : Int) (S : wSt) (x : aS) (y : aL), 0 ≤ i → i ≤ L → LI S x y → (L : Int) - i < (n : Int) → Wk E g 4 S 18 (lvI g b i) [] := by
    intro n
    induction n with
    | zero => intro i S x y i0 i1 _ h; exact absurd h (by omega)
    | succ n ih =>
      intro i S x y i0 i1 hI hm
      refine kw_iload_n hC dL_law_18 rfl 0 rfl ?_
      refine kw_rload_n hC dL_law_19 rfl 3 rfl ?_
      refine kw_slen hC dL_law_20 rfl hXL ?_
      refine kw_bipush hC dL_law_21 rfl (by decide) ?_
      refine kw_isub hC dL_law_23 rfl ?_
      refine kw_icmp_gt (tgt := 1482) hC dL_law_24 rfl (by decide) (by omega) (by omega) ⟨fun _ => hend S _, fun q => ?_⟩
      refine kw_rload_n hC dL_law_27 rfl 3 rfl ?_
      refine kw_iload_n hC dL_law_28 rfl 0 rfl ?_
      refine kw_sld hC dL_law_29 rfl hXL i0 (by omega) hL2 ?_
      refine kw_bipush hC dL_law_30 rfl (by decide) ?_
      refine kw_and63 hC dL_law_32 rfl (fun k k0 k1 => ?_)
      refine law_tab hC hXL hL2 i0 (by omega) hD hI (fun S2 x2 y2 hI2 => ?_) k0 k1
      refine kw_iinc (lv' := [(3, vi (i + 6)), (2, vr g 30 0), (1, vr g 0 0), (0, .ref b)]) hC dL_law_1476 rfl 0 rfl (by decide) rfl ?_
      refine kw_goto (tgt := 18) hC dL_law_1479 rfl (by decide) ?_
      exact ih (i + 6) S2 x2 y2 (by omega) (by omega) hI2 (by omega)
  have htop : Wk E g 4 S0_ 18 (lvI g b 0) [] := hloop (L + 1) 0 S0_ x0_ y0_ (by omega) (by omega) LI_0 (by omega)
  have hgo : Wc E g 4 (czf g) s.heap.size 0 0 0 [(0, .ref b)] [] := by
    refine kc_new (k := 0) (i := 0) (ci := 7) (C := RX7) (T := TX7) (Nf := 12) (fs := [.null, .null, .null, .null, .null, .null, .null, .null, .null, .null, .null, .null]) hC inlX7 tyX7 tyX7_ok (by decide +kernel) (by decide +kernel) (by decide +kernel) rfl (fun j hj => by rcases (show j = 0 ∨ j = 1 ∨ j = 2 ∨ j = 3 ∨ j = 4 ∨ j = 5 ∨ j = 6 ∨ j = 7 ∨ j = 8 ∨ j = 9 ∨ j = 10 ∨ j = 11 by omega) with rfl | rfl | rfl | rfl | rfl | rfl | rfl | rfl | rfl | rfl | rfl | rfl <;> rfl) (by rw [hg]; rfl) (by decide) (by decide) (Nat.le_of_ble_eq_true rfl) (Nat.le_of_ble_eq_true rfl) dL_law_0 rfl ?_
    refine kc_dup hC dL_law_3 rfl rfl ?_
    refine kc_callI hC hKE (cn_X7_init hg) gL_law_X7_init (by decide +kernel) (by decide +kernel) (by decide +kernel) rfl ⟨rfl, rfl⟩ 0 rfl (by decide +kernel) ⟨by decide, by decide⟩ rfl rfl (Nat.le_of_ble_eq_true rfl) ⟨Nat.le_of_ble_eq_true rfl, Nat.le_of_ble_eq_true rfl⟩ dL_law_4 rfl ?_
    refine kc_N (N' := s.heap.size + 106) (c' := 106) (s' := 6738) rfl rfl rfl ?_
    refine kc_astore_n (lv' := [(1, vr g 0 0), (0, .ref b)]) hC dL_law_7 rfl (by decide) rfl ?_
    refine kc_new (k := 30) (i := 0) (ci := 8) (C := RX8) (T := TX8) (Nf := 33) (fs := [vi 0, .null, .null, .null, vi 0, .null, .null, .null, vi 0, .null, vi 0, .null, vi 0, .null, vi 0, .null, vi 0, .null, .null, .null, vi 0, vi 0, .null, vi 0, .null, .null, vi 0, .null, .null, .null, .null, .null, .null]) hC inlX8 tyX8 tyX8_ok (by decide +kernel) (by decide +kernel) (by decide +kernel) rfl (fun j hj => by rcases (show j = 0 ∨ j = 1 ∨ j = 2 ∨ j = 3 ∨ j = 4 ∨ j = 5 ∨ j = 6 ∨ j = 7 ∨ j = 8 ∨ j = 9 ∨ j = 10 ∨ j = 11 ∨ j = 12 ∨ j = 13 ∨ j = 14 ∨ j = 15 ∨ j = 16 ∨ j = 17 ∨ j = 18 ∨ j = 19 ∨ j = 20 ∨ j = 21 ∨ j = 22 ∨ j = 23 ∨ j = 24 ∨ j = 25 ∨ j = 26 ∨ j = 27 ∨ j = 28 ∨ j = 29 ∨ j = 30 ∨ j = 31 ∨ j = 32 by omega) with rfl | rfl | rfl | rfl | rfl | rfl | rfl | rfl | rfl | rfl | rfl | rfl | rfl | rfl | rfl | rfl | rfl | rfl | rfl | rfl | rfl | rfl | rfl | rfl | rfl | rfl | rfl | rfl | rfl | rfl | rfl | rfl | rfl <;> rfl) (by rw [hg]; rfl) (by decide) (by decide) (Nat.le_of_ble_eq_true rfl) (Nat.le_of_ble_eq_true rfl) dL_law_8 rfl ?_
    refine kc_N (N' := s.heap.size + 107) (c' := 107) (s' := 6771) rfl rfl rfl ?_
    refine kc_dup hC dL_law_11 rfl rfl ?_
    refine kc_un (k := 69) (i := 0) (ka_i g 4 (fun _ => 0)) (by rw [hg]; show _ ≤ s.heap.size + 125; omega) ?_
    refine kc_chC (upE_cm _ _ _ (fun q => absurd q.1 (by decide))) ?_
    refine kc_callI hC hKE (cn_X8_init hD (by rw [upE_n _ _ (fun q => absurd q.1 (by decide))]; rfl) (by rw [upE_n _ _ (fun q => absurd q.1 (by decide))]; rfl) (by rw [hg]; rfl) (by rw [upE_n _ _ (fun q => absurd q.1 (by decide))]; rfl) (by rw [hg]; rfl) (by rw [upE_n _ _ (fun q => absurd q.1 (by decide))]; rfl) (by rw [hg]; rfl) (by rw [upE_n _ _ (fun q => absurd q.1 (by decide))]; rfl) (by rw [hg]; rfl) (by rw [upE_n _ _ (fun q => absurd q.1 (by decide))]; rfl) (by rw [hg]; rfl) (by rw [upE_n _ _ (fun q => absurd q.1 (by decide))]; rfl) (by rw [hg]; rfl) (by rw [upE_n _ _ (fun q => absurd q.1 (by decide))]; rfl) (by rw [hg]; rfl) (by rw [upE_n _ _ (fun q => absurd q.1 (by decide))]; rfl) (by rw [hg]; rfl) (by rw [upE_n _ _ (fun q => absurd q.1 (by decide))]; rfl) (by rw [hg]; rfl) (by rw [upE_n _ _ (fun q => absurd q.1 (by decide))]; rfl) (by rw [hg]; rfl) (by rw [upE_n _ _ (fun q => absurd q.1 (by decide))]; rfl) (by rw [hg]; rfl) (by rw [upE_n _ _ (fun q => absurd q.1 (by decide))]; rfl) (by rw [hg]; rfl) (by rw [upE_n _ _ (fun q => absurd q.1 (by decide))]; rfl) (by rw [hg]; rfl) (by rw [upE_n _ _ (fun q => absurd q.1 (by decide))]; rfl) (by rw [hg]; rfl) (by rw [upE_n _ _ (fun q => absurd q.1 (by decide))]; rfl) (by rw [hg]; rfl) (by rw [upE_n _ _ (fun q => absurd q.1 (by decide))]; rfl) (by rw [hg]; rfl) (by rw [upE_n _ _ (fun q => absurd q.1 (by decide))]; rfl) (by rw [hg]; rfl) (by rw [upE_n _ _ (fun q => absurd q.1 (by decide))]; rfl) (by rw [hg]; rfl) (upE_s _ _ _ _) (by rw [hg]; rfl) (by rw [upE_n _ _ (fun q => absurd q.1 (by decide))]; rfl) (by rw [hg]; rfl) (by rw [upE_n _ _ (fun q => absurd q.1 (by decide))]; rfl) (by rw [hg]; rfl) (by rw [upE_n _ _ (fun q => absurd q.1 (by decide))]; rfl) (by rw [hg]; rfl) (by rw [hg]; show s.heap.size + 106 < _; omega)) gL_law_X8_init (by decide +kernel) (by decide +kernel) (by decide +kernel) rfl ⟨rfl, rfl⟩ 0 rfl (by decide +kernel) ⟨by decide, by decide⟩ rfl rfl (Nat.le_of_ble_eq_true rfl) ⟨Nat.le_of_ble_eq_true rfl, Nat.le_of_ble_eq_true rfl⟩ dL_law_12 rfl ?_
    refine kc_N (N' := s.heap.size + 129) (c' := 129) (s' := 31729) rfl rfl rfl ?_
    refine kc_chC (ce' := czf g) (by rw [upE_up]; exact upE_id (cz_69 g)) ?_
    refine kc_astore_n (lv' := [(2, vr g 30 0), (1, vr g 0 0), (0, .ref b)]) hC dL_law_15 rfl (by decide) rfl ?_
    refine kc_iconst hC dL_law_16 rfl ?_
    refine kc_istore_n (lv' := lvI g b 0) hC dL_law_17 rfl (by decide) rfl ?_
    exact wc_wk hg (by omega) (by rw [hE]; exact ⟨rfl, rfl⟩) htop
  rw [hE] at hgo
  exact hgo s.heap [] ls ⟨rfl, fun k i h0 h1 h2 => absurd h2 (by rw [hg]; exact Nat.not_lt.mpr (Nat.le_add_right _ _))⟩ va_S.rf hl
