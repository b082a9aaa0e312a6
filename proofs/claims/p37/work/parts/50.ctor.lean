theorem ko_outer (c : ClassId) (N h0 : Nat) : ∀ i : Nat, Jvm.Free.Multi.outerC c N h0 i = arrV c N (fun j => va_rf (if j < i then some (h0 + 1 + j) else none))
  | 0 => by
    show ({ cls := c, slots := Array.replicate N .null, vm := .none } : Cell) = _
    rw [arrV_new]
    refine congrArg (arrV c N) (funext fun j => ?_)
    simp [va_rf]
  | i + 1 => by
    show (Jvm.Free.Multi.outerC c N h0 i).setSlot i (.ref (h0 + 1 + i)) = _
    rw [ko_outer c N h0 i, arrV_store]
    refine congrArg (arrV c N) (funext fun j => ?_)
    by_cases e : j = i
    · subst e
      simp [updV, va_rf]
    · by_cases h : j < i
      · simp [updV, e, h, Nat.lt_succ_of_lt h]
      · simp [updV, e, h, show ¬ j < i + 1 by omega]
theorem arrV_congr {c : ClassId} {n : Nat} {f g : Nat → Value} (h : ∀ j, j < n → f j = g j) : arrV c n f = arrV c n g := by
  unfold arrV
  congr 1
  apply Array.ext
  · simp
  · intro i h1 h2
    simp only [Array.getElem_ofFn]
    exact h i (by simpa using h1)
/-! CONSTRUCTORS: the cells' addresses are known ahead; a named cell is there as soon as the heap has come to its address -/
def upE (ce : Nat → Int → va_E) (k : Nat) (i : Int) (e : va_E) : Nat → Int → va_E := fun k' i' => if k' = k ∧ i' = i then e else ce k' i'
theorem upE_s (ce : Nat → Int → va_E) (k : Nat) (i : Int) (e : va_E) : upE ce k i e k i = e := if_pos ⟨rfl, rfl⟩
theorem upE_n (ce : Nat → Int → va_E) {k k' : Nat} {i i' : Int} (e : va_E) (h : ¬ (k' = k ∧ i' = i)) : upE ce k i e k' i' = ce k' i' := if_neg h
theorem upE_id {ce : Nat → Int → va_E} {k : Nat} {i : Int} {e : va_E} (h : ce k i = e) : upE ce k i e = ce := by
  funext k' i'
  by_cases q : k' = k ∧ i' = i
  · rw [upE, if_pos q, q.1, q.2, h]
  · rw [upE, if_neg q]
theorem upE_up (ce : Nat → Int → va_E) (k : Nat) (i : Int) (e e' : va_E) : upE (upE ce k i e) k i e' = upE ce k i e' := by
  funext k' i'
  by_cases q : k' = k ∧ i' = i
  · rw [upE, if_pos q, upE, if_pos q]
  · rw [upE, if_neg q, upE, if_neg q, upE, if_neg q]
def ka_p (g : wG) (t n k : Nat) (x : Int) : va_E := .inl (g.2.1 t, n, .inr (.inr (.inr (.inr (fun j => if (j : Int) < x then some (g.2.2 k (j : Int)) else none)))))
def wQ (g : wG) (ce : Nat → Int → va_E) (N : Nat) (H : Heap) : Prop := H.size = N ∧ ∀ (k : Nat) (i : Int), 0 ≤ i → i < cn k → g.2.2 k i < N → va_at g.1 vwCl (g.2.2 k i, ce k i) H
def aoX : List Cond := [Cond.arrayOver (.object "MirrorBench$Word"), Cond.arrayOver (.object "MirrorBench$Leaf"), Cond.arrayOver (.object "MirrorBench$Mirrors"), Cond.arrayOver (.array .long)]
def wKc (g : wG) (s : State) : Prop := wK g s ∧ ∀ w ∈ aoX, va_Nw w s
theorem ao_mv {ty : FieldType} {s U : State} (hW : s.vm.Alike U.vm) (h : va_Nw (.arrayOver ty) s) : va_Nw (.arrayOver ty) U := by
  have h2 : (Cond.arrayOver ty).before #[] (s.setVm U.vm) = true := by rw [Cond.arrayOver_setVmC hW]; exact h
  exact h2
theorem wKc.moved {g : wG} {s U : State} (hW : s.WarmedH U.vm) (h : wKc g s) : wKc g U := ⟨⟨va_K.moved hW.alike h.1.1, wN.moved hW h.1.2⟩, fun w hw => by
  have h9 := h.2 w hw
  simp only [aoX, List.mem_cons, List.not_mem_nil, or_false] at hw
  rcases hw with rfl | rfl | rfl | rfl <;> exact ao_mv hW.alike h9⟩
theorem wKc.blind {g : wG} {U : State} {f : JFrame} {mk : MethodId} {a : Array Value} (h : wKc g U) : wKc g (U.calling f mk a) := ⟨h.1.blind, fun w hw => by
  have h9 := h.2 w hw
  simp only [aoX, List.mem_cons, List.not_mem_nil, or_false] at hw
  rcases hw with rfl | rfl | rfl | rfl <;> exact h9⟩
def Wc (E : wE) (g : wG) (nL : Nat) (ce : Nat → Int → va_E) (N cells slots : Nat) (pc : Nat) (lv : List (Nat × Value)) (st : List Value) : Prop := match E with
  | (p, l, e, R, s, m, args, below, meth, c, A, H0, _, _, Q) => ∀ (H : Heap) (locs : List Loc) (ls : Array Slot), wQ g ce N H → va_S A H0 H locs → lv_has ls nL lv → W p l e R s m args below meth c H locs cells slots Q (F0 m pc ls st)
def Cy (E : wE) (g : wG) : Prop := match E with
  | (_, _, _, _, s, _, _, _, meth, _, _, _, _, _, _) => meth.name = "<init>" ∧ wKc g s
section KY
variable {E : wE} {g : wG} {cc : ByteArray} {own : String} {Ts : List Cond} {nL : Nat} {rm : Room} {ce : Nat → Int → va_E} {N cells slots : Nat} {pc q : Nat} {lv : List (Nat × Value)} {st : List Value}

theorem kc_iconst {n : Int} (hC : Cx E g cc own Ts nL rm) (hd : decode cc pc = .ok (.iconst n, 1)) (hq : pc + 1 = q)  (kk : Wc E g nL ce N cells slots q lv (vi n :: st)) : Wc E g nL ce N cells slots pc lv st := by
  obtain ⟨p, l, e, R, s, m, args, below, meth, c, A, H0, c0, s0, Q⟩ := E
  obtain ⟨hx, hb, hml, hown, hts, hK, hR, hD, hA, hc1, hc2⟩ := hC
  subst hq
  intro H locs ls hP hS hl
  exact lv_iconst hx hb hd rfl (kk H locs ls hP hS hl)

theorem kc_bipush {n : Int} (hC : Cx E g cc own Ts nL rm) (hd : decode cc pc = .ok (.bipush n, 2)) (hq : pc + 2 = q) (hn : -128 ≤ n ∧ n ≤ 127) (kk : Wc E g nL ce N cells slots q lv (vi n :: st)) : Wc E g nL ce N cells slots pc lv st := by
  obtain ⟨p, l, e, R, s, m, args, below, meth, c, A, H0, c0, s0, Q⟩ := E
  obtain ⟨hx, hb, hml, hown, hts, hK, hR, hD, hA, hc1, hc2⟩ := hC
  subst hq
  intro H locs ls hP hS hl
  exact lv_bipush hx hb hd (kw_b hn) (kk H locs ls hP hS hl)

theorem kc_sipush {n : Int} (hC : Cx E g cc own Ts nL rm) (hd : decode cc pc = .ok (.sipush n, 3)) (hq : pc + 3 = q) (hn : -32768 ≤ n ∧ n ≤ 32767) (kk : Wc E g nL ce N cells slots q lv (vi n :: st)) : Wc E g nL ce N cells slots pc lv st := by
  obtain ⟨p, l, e, R, s, m, args, below, meth, c, A, H0, c0, s0, Q⟩ := E
  obtain ⟨hx, hb, hml, hown, hts, hK, hR, hD, hA, hc1, hc2⟩ := hC
  subst hq
  intro H locs ls hP hS hl
  exact lv_sipush hx hb hd (kw_h hn) (kk H locs ls hP hS hl)

theorem kc_iload_n {k : Fin 4} {z : Int} (hC : Cx E g cc own Ts nL rm) (hd : decode cc pc = .ok (.iload_n k, 1)) (hq : pc + 1 = q) (j : Nat) (hj : lv[j]? = some ((k : Nat), vi z)) (kk : Wc E g nL ce N cells slots q lv (vi z :: st)) : Wc E g nL ce N cells slots pc lv st := by
  obtain ⟨p, l, e, R, s, m, args, below, meth, c, A, H0, c0, s0, Q⟩ := E
  obtain ⟨hx, hb, hml, hown, hts, hK, hR, hD, hA, hc1, hc2⟩ := hC
  subst hq
  intro H locs ls hP hS hl
  exact lv_iload_n hx hb hd rfl (lv_at hl j hj) (kk H locs ls hP hS hl)

theorem kc_aload_n {k : Fin 4} {k1 : Nat} {i1 : Int} (hC : Cx E g cc own Ts nL rm) (hd : decode cc pc = .ok (.aload_n k, 1)) (hq : pc + 1 = q) (j : Nat) (hj : lv[j]? = some ((k : Nat), vr g k1 i1)) (kk : Wc E g nL ce N cells slots q lv (vr g k1 i1 :: st)) : Wc E g nL ce N cells slots pc lv st := by
  obtain ⟨p, l, e, R, s, m, args, below, meth, c, A, H0, c0, s0, Q⟩ := E
  obtain ⟨hx, hb, hml, hown, hts, hK, hR, hD, hA, hc1, hc2⟩ := hC
  subst hq
  intro H locs ls hP hS hl
  exact lv_aload_n hx hb hd rfl (lv_at hl j hj) (kk H locs ls hP hS hl)

theorem kc_istore_n {k : Fin 4} {z : Int} {lv' : List (Nat × Value)} (hC : Cx E g cc own Ts nL rm) (hd : decode cc pc = .ok (.istore_n k, 1)) (hq : pc + 1 = q) (hn : (k : Nat) < nL) (hl' : ((k : Nat), vi z) :: lv.filter (fun q => !(q.1 == (k : Nat)) && !(q.1 + 1 == (k : Nat) && q.2.category == 2)) = lv') (kk : Wc E g nL ce N cells slots q lv' (st)) : Wc E g nL ce N cells slots pc lv (vi z :: st) := by
  obtain ⟨p, l, e, R, s, m, args, below, meth, c, A, H0, c0, s0, Q⟩ := E
  obtain ⟨hx, hb, hml, hown, hts, hK, hR, hD, hA, hc1, hc2⟩ := hC
  subst hq
  intro H locs ls hP hS hl
  exact lv_istore_n hx hb hd rfl hl hn hl' (fun ls2 hl2 => kk H locs ls2 hP hS hl2)

theorem kc_astore_n {k : Fin 4} {k1 : Nat} {i1 : Int} {lv' : List (Nat × Value)} (hC : Cx E g cc own Ts nL rm) (hd : decode cc pc = .ok (.astore_n k, 1)) (hq : pc + 1 = q) (hn : (k : Nat) < nL) (hl' : ((k : Nat), vr g k1 i1) :: lv.filter (fun q => !(q.1 == (k : Nat)) && !(q.1 + 1 == (k : Nat) && q.2.category == 2)) = lv') (kk : Wc E g nL ce N cells slots q lv' (st)) : Wc E g nL ce N cells slots pc lv (vr g k1 i1 :: st) := by
  obtain ⟨p, l, e, R, s, m, args, below, meth, c, A, H0, c0, s0, Q⟩ := E
  obtain ⟨hx, hb, hml, hown, hts, hK, hR, hD, hA, hc1, hc2⟩ := hC
  subst hq
  intro H locs ls hP hS hl
  exact lv_astore_n hx hb hd rfl hl hn hl' (fun ls2 hl2 => kk H locs ls2 hP hS hl2)

theorem kc_iinc {k : Nat} {n z : Int} {lv' : List (Nat × Value)} (hC : Cx E g cc own Ts nL rm) (hd : decode cc pc = .ok (.iinc k n, 3)) (hq : pc + 3 = q) (j : Nat) (hj : lv[j]? = some (k, vi z)) (hn : k < nL) (hl' : (k, vi (z + n)) :: lv.filter (fun q => !(q.1 == k) && !(q.1 + 1 == k && q.2.category == 2)) = lv') (kk : Wc E g nL ce N cells slots q lv' (st)) : Wc E g nL ce N cells slots pc lv st := by
  obtain ⟨p, l, e, R, s, m, args, below, meth, c, A, H0, c0, s0, Q⟩ := E
  obtain ⟨hx, hb, hml, hown, hts, hK, hR, hD, hA, hc1, hc2⟩ := hC
  subst hq
  intro H locs ls hP hS hl
  exact lv_iinc hx hb hd hl hj (Int32.ofInt_add z n).symm hn hl' (fun ls2 hl2 => kk H locs ls2 hP hS hl2)

theorem kc_dup {v : Value} (hC : Cx E g cc own Ts nL rm) (hd : decode cc pc = .ok (.dup, 1)) (hq : pc + 1 = q) (hv : v.category = 1) (kk : Wc E g nL ce N cells slots q lv (v :: v :: st)) : Wc E g nL ce N cells slots pc lv (v :: st) := by
  obtain ⟨p, l, e, R, s, m, args, below, meth, c, A, H0, c0, s0, Q⟩ := E
  obtain ⟨hx, hb, hml, hown, hts, hK, hR, hD, hA, hc1, hc2⟩ := hC
  subst hq
  intro H locs ls hP hS hl
  exact lv_dup hx hb hd hv (kk H locs ls hP hS hl)

theorem kc_goto {off : Int} {tgt : Nat} (hC : Cx E g cc own Ts nL rm) (hd : decode cc pc = .ok (.goto off, 3)) (hq : pc + 3 = q) (ht : (pc : Int) + off = (tgt : Int)) (kk : Wc E g nL ce N cells slots tgt lv st) : Wc E g nL ce N cells slots pc lv st := by
  obtain ⟨p, l, e, R, s, m, args, below, meth, c, A, H0, c0, s0, Q⟩ := E
  obtain ⟨hx, hb, hml, hown, hts, hK, hR, hD, hA, hc1, hc2⟩ := hC
  subst hq
  intro H locs ls hP hS hl
  exact lv_goto hx hb hd ht (kk H locs ls hP hS hl)

theorem kc_icmp_ge {a b off : Int} {tgt : Nat} (hC : Cx E g cc own Ts nL rm) (hd : decode cc pc = .ok (.if_icmp .ge off, 3)) (hq : pc + 3 = q) (ht : (pc : Int) + off = (tgt : Int)) (ha : -2147483648 ≤ a ∧ a ≤ 2147483647) (hb9 : -2147483648 ≤ b ∧ b ≤ 2147483647) (kk : (b ≤ a → Wc E g nL ce N cells slots tgt lv st) ∧ (¬ (b ≤ a) → Wc E g nL ce N cells slots q lv st)) : Wc E g nL ce N cells slots pc lv (vi b :: vi a :: st) := by
  obtain ⟨p, l, e, R, s, m, args, below, meth, c, A, H0, c0, s0, Q⟩ := E
  obtain ⟨hx, hb, hml, hown, hts, hK, hR, hD, hA, hc1, hc2⟩ := hC
  subst hq
  intro H locs ls hP hS hl
  exact lv_icmp_ge hx hb hd ht (fun h => kk.1 ((kw_leI hb9 ha).mp h) H locs ls hP hS hl) (fun h => kk.2 (fun h2 => h ((kw_leI hb9 ha).mpr h2)) H locs ls hP hS hl)

theorem kc_lv {lv' : List (Nat × Value)} (js : List Nat) (hj : lv_pick lv js = lv') (kk : Wc E g nL ce N cells slots pc lv' st) : Wc E g nL ce N cells slots pc lv st := by
  obtain ⟨p, l, e, R, s, m, args, below, meth, c, A, H0, c0, s0, Q⟩ := E
  intro H locs ls hP hS hl
  exact kk H locs ls hP hS (lv_sub hl js hj)
/-- what isn't there yet, or means the same, may be told otherwise -/
theorem kc_ce {ce' : Nat → Int → va_E} (h : ∀ (k : Nat) (i : Int) (H : Heap), 0 ≤ i → i < cn k → g.2.2 k i < N → va_at g.1 vwCl (g.2.2 k i, ce k i) H → va_at g.1 vwCl (g.2.2 k i, ce' k i) H) (kk : Wc E g nL ce' N cells slots pc lv st) : Wc E g nL ce N cells slots pc lv st := by
  obtain ⟨p, l, e, R, s, m, args, below, meth, c, A, H0, c0, s0, Q⟩ := E
  intro H locs ls hP hS hl
  exact kk H locs ls ⟨hP.1, fun k i h0 h1 h2 => h k i H h0 h1 h2 (hP.2 k i h0 h1 h2)⟩ hS hl
theorem kc_chC {ce' : Nat → Int → va_E} (h : ce = ce') (kk : Wc E g nL ce' N cells slots pc lv st) : Wc E g nL ce N cells slots pc lv st := h ▸ kk
theorem wQ.push {H H1 : Heap} {k : Nat} {i : Int} {e : va_E} (hP : wQ g ce N H) (hD : wD g) (h0 : 0 ≤ i) (h1 : i < cn k) (ha : g.2.2 k i = N) (hz : H1.size = N + 1) (hold : ∀ q, q < N → H1[q]? = H[q]?) (he : va_at g.1 vwCl (g.2.2 k i, e) H1) : wQ g (upE ce k i e) (N + 1) H1 := by
  refine ⟨hz, fun k' i' h0' h1' h2' => ?_⟩
  by_cases q : k' = k ∧ i' = i
  · obtain ⟨rfl, rfl⟩ := q
    rw [upE_s]
    exact he
  · rw [upE_n _ _ q]
    have hlt : g.2.2 k' i' < N := by
      rcases Nat.lt_or_ge (g.2.2 k' i') N with h | h
      · exact h
      · exact absurd (hD k' i' k i h0' h1' h0 h1 (by omega)) q
    exact (hP.2 k' i' h0' h1' hlt).kept (hold _ hlt)
theorem wQ.set {H H1 : Heap} {k : Nat} {i : Int} {e : va_E} (hP : wQ g ce N H) (hD : wD g) (h0 : 0 ≤ i) (h1 : i < cn k) (hz : H1.size = H.size) (hold : ∀ q, q ≠ g.2.2 k i → H1[q]? = H[q]?) (he : va_at g.1 vwCl (g.2.2 k i, e) H1) : wQ g (upE ce k i e) N H1 := by
  refine ⟨hz.trans hP.1, fun k' i' h0' h1' h2' => ?_⟩
  by_cases q : k' = k ∧ i' = i
  · obtain ⟨rfl, rfl⟩ := q
    rw [upE_s]
    exact he
  · rw [upE_n _ _ q]
    exact (hP.2 k' i' h0' h1' h2').kept (hold _ (fun z => q (hD k' i' k i h0' h1' h0 h1 z)))
theorem va_S.push {A : Nat → Prop} {H0 H H1 : Heap} {locs : List Loc} (h : va_S A H0 H locs) (hz : H1.size = H.size + 1) (hold : ∀ q, q < H.size → H1[q]? = H[q]?) : va_S A H0 H1 locs := ⟨Nat.le_trans h.1 (by omega), fun q h1 h2 => (hold q (Nat.lt_of_lt_of_le h1 h.1)).trans (h.2.1 q h1 h2), h.2.2⟩
theorem kc_new {k : Nat} {i : Int} {ci Nf idx : Nat} {C : String} {T : u_T} {fs : List Value} (hC : Cx E g cc own Ts nL rm) (hin : ∀ w ∈ u_ws C T Nf, w ∈ Ts) (ty : Nat → FieldType) (hty : ∀ k, k < Nf → parseFieldDescriptor (T k).2.2.1 = some (ty k)) (hcl : Cond.classLink own idx C ∈ Ts) (hinst : Cond.instantiable C Nf ∈ Ts) (hini : Cond.initialized C ∈ Ts) (hci : vwCl[ci]? = some (C, T, Nf)) (hfs : ∀ j, j < Nf → defaultValue (ty j) = vp_V fs j) (ha : g.2.2 k i = N) (h0 : 0 ≤ i) (h1 : i < cn k) (hcells : cells + 1 ≤ rm.cells) (hslots : slots + Nf ≤ rm.slots) (hd : decode cc pc = .ok (.new idx, 3)) (hq : pc + 3 = q)
    (kk : Wc E g nL (upE ce k i (.inr (ci, fs))) (N + 1) (cells + 1) (slots + Nf) q lv (vr g k i :: st)) : Wc E g nL ce N cells slots pc lv st := by
  obtain ⟨p, l, e, R, s, m, args, below, meth, c, A, H0, c0, s0, Q⟩ := E
  obtain ⟨hx, hb, hml, hown, hts, hK, hR, hD, hA, hc1, hc2⟩ := hC
  subst hq
  subst hR
  intro H locs ls hP hS hl
  have hKn := hK.1.1 ci _ hci
  refine W.newcK hx hb hown (hts _ hcl) (hts _ hinst) (hts _ hini) rfl hd hcells hslots hKn.2.1 hP.1 fun H1 kC hkC e1 z1 o1 => ?_
  have h := kk H1 locs ls (hP.push hD h0 h1 ha z1 o1 ⟨_, hci, by rw [ha]; exact (u_born ty hts hin hKn hkC e1 hty).to hfs⟩) (hS.push (by rw [z1, hP.1]) (by rw [hP.1]; exact o1)) hl
  rw [show vr g k i = .ref N by rw [vr, ha]] at h
  exact h
theorem kc_newi {k n : Nat} {i z : Int} (hC : Cx E g cc own Ts nL rm) (harr : Cond.arrayClass .int ∈ Ts) (hz : z = (n : Int)) (hn : n < 100000) (ha : g.2.2 k i = N) (h0 : 0 ≤ i) (h1 : i < cn k) (hce : ce k i = ka_i g n (fun _ => 0)) (hcells : cells + 1 ≤ rm.cells) (hslots : slots + n ≤ rm.slots) (hd : decode cc pc = .ok (.newarray .int, 2)) (hq : pc + 2 = q)
    (kk : Wc E g nL ce (N + 1) (cells + 1) (slots + n) q lv (vr g k i :: st)) : Wc E g nL ce N cells slots pc lv (vi z :: st) := by
  obtain ⟨p, l, e, R, s, m, args, below, meth, c, A, H0, c0, s0, Q⟩ := E
  obtain ⟨hx, hb, hml, hown, hts, hK, hR, hD, hA, hc1, hc2⟩ := hC
  subst hq
  subst hR
  subst hz
  intro H locs ls hP hS hl
  refine va_newaK hx hb (atype := .int) (hts _ harr) rfl hd rfl (N := n) ?_ ?_ (by show n * 4 ≤ _; omega) hcells hslots hP.1 fun H1 cA e1 z1 o1 hAr hNm => ?_
  · rw [Int32.lt_iff_toInt_lt, kw_ti (by omega), Int32.toInt_zero]; omega
  · rw [kw_cl (by omega) (by omega)]; omega
  have hcA : cA = g.2.1 0 := by
    have h2 : s.vm.findClass ("[" ++ (FieldType.int).toString) = some (g.2.1 0) := (hK.1.2 0 _ rfl).2
    exact Option.some.inj (hNm.symm.trans h2)
  subst hcA
  have hpush := hP.push hD h0 h1 ha z1 o1 (e := ka_i g n (fun _ => 0)) (by rw [ha]; show H1[N]? = some (vp_cell _ _); rw [vp_cell_i]; exact e1)
  rw [upE_id hce] at hpush
  have h := kk H1 locs ls hpush (hS.push (by rw [z1, hP.1]) (by rw [hP.1]; exact o1)) hl
  rw [show vr g k i = .ref N by rw [vr, ha]] at h
  exact h
theorem kc_newl {k n : Nat} {i z : Int} (hC : Cx E g cc own Ts nL rm) (harr : Cond.arrayClass .long ∈ Ts) (hz : z = (n : Int)) (hn : n < 100000) (ha : g.2.2 k i = N) (h0 : 0 ≤ i) (h1 : i < cn k) (hce : ce k i = ka_l g n (fun _ => 0)) (hcells : cells + 1 ≤ rm.cells) (hslots : slots + n ≤ rm.slots) (hd : decode cc pc = .ok (.newarray .long, 2)) (hq : pc + 2 = q)
    (kk : Wc E g nL ce (N + 1) (cells + 1) (slots + n) q lv (vr g k i :: st)) : Wc E g nL ce N cells slots pc lv (vi z :: st) := by
  obtain ⟨p, l, e, R, s, m, args, below, meth, c, A, H0, c0, s0, Q⟩ := E
  obtain ⟨hx, hb, hml, hown, hts, hK, hR, hD, hA, hc1, hc2⟩ := hC
  subst hq
  subst hR
  subst hz
  intro H locs ls hP hS hl
  refine va_newaK hx hb (atype := .long) (hts _ harr) rfl hd rfl (N := n) ?_ ?_ (by show n * 8 ≤ _; omega) hcells hslots hP.1 fun H1 cA e1 z1 o1 hAr hNm => ?_
  · rw [Int32.lt_iff_toInt_lt, kw_ti (by omega), Int32.toInt_zero]; omega
  · rw [kw_cl (by omega) (by omega)]; omega
  have hcA : cA = g.2.1 1 := by
    have h2 : s.vm.findClass ("[" ++ (FieldType.long).toString) = some (g.2.1 1) := (hK.1.2 1 _ rfl).2
    exact Option.some.inj (hNm.symm.trans h2)
  subst hcA
  have hpush := hP.push hD h0 h1 ha z1 o1 (e := ka_l g n (fun _ => 0)) (by rw [ha]; show H1[N]? = some (vp_cell _ _); rw [vp_cell_l]; exact e1)
  rw [upE_id hce] at hpush
  have h := kk H1 locs ls hpush (hS.push (by rw [z1, hP.1]) (by rw [hP.1]; exact o1)) hl
  rw [show vr g k i = .ref N by rw [vr, ha]] at h
  exact h
/-- a new row of references, all null -/
theorem kc_anew {k k' n t idx : Nat} {i z : Int} {C : String} (hC : Cx E g cc own Ts nL rm) (hY : Cy E g) (hcl : Cond.classLink own idx C ∈ Ts) (hao : Cond.arrayOver (.object C) ∈ aoX) (ht : (tysX g)[t]? = some (g.2.1 t, .object C)) (hz : z = (n : Int)) (hn : n < 100000) (ha : g.2.2 k i = N) (h0 : 0 ≤ i) (h1 : i < cn k) (hcells : cells + 1 ≤ rm.cells) (hslots : slots + n ≤ rm.slots) (hd : decode cc pc = .ok (.anewarray idx, 3)) (hq : pc + 3 = q)
    (kk : Wc E g nL (upE ce k i (ka_p g t n k' 0)) (N + 1) (cells + 1) (slots + n) q lv (vr g k i :: st)) : Wc E g nL ce N cells slots pc lv (vi z :: st) := by
  obtain ⟨p, l, e, R, s, m, args, below, meth, c, A, H0, c0, s0, Q⟩ := E
  obtain ⟨hx, hb, hml, hown, hts, hK, hR, hD, hA, hc1, hc2⟩ := hC
  subst hq
  subst hR
  subst hz
  intro H locs ls hP hS hl
  have hcl2 : (Int32.ofInt (n : Int)).toNatClampNeg = n := by rw [kw_cl (by omega) (by omega)]; omega
  refine W.anew hx hb hown (hts _ hcl) (hY.2.2 _ hao) rfl hd rfl ?_ (by rw [hcl2]; omega) hcells (by rw [hcl2]; exact hslots) fun cA kA comp f1 f2 f3 f4 => ?_
  · rw [Int32.lt_iff_toInt_lt, kw_ti (by omega), Int32.toInt_zero]; omega
  have hcA : cA = g.2.1 t := by
    obtain ⟨kA', comp', -, -, -, h2⟩ := (hK.1.2 t _ ht).2
    exact Option.some.inj (f1.symm.trans h2)
  subst hcA
  rw [hcl2]
  generalize hH1 : H.push ({ cls := g.2.1 t, slots := Array.replicate n .null, vm := .none } : Cell) = H1
  have z1 : H1.size = N + 1 := by rw [← hH1, Array.size_push, hP.1]
  have e1 : H1[N]? = some (arrV (g.2.1 t) n (fun _ => .null)) := by rw [← hH1, ← hP.1, Array.getElem?_push_size, ← arrV_new]
  have o1 : ∀ q : Nat, q < N → H1[q]? = H[q]? := fun q hq => by rw [← hH1, Array.getElem?_push, if_neg (by rw [hP.1]; exact Nat.ne_of_lt hq)]
  have h := kk H1 locs ls (hP.push hD h0 h1 ha z1 o1 (e := ka_p g t n k' 0) (by
    rw [ha]
    show H1[N]? = some (vp_cell _ _)
    rw [vp_cell_q, e1]
    exact congrArg some (arrV_congr fun j hj => by rw [if_neg (by omega)]; rfl))) (hS.push (by rw [z1, hP.1]) (by rw [hP.1]; exact o1)) hl
  rw [show vr g k i = .ref N by rw [vr, ha]] at h
  rw [hP.1]
  exact h
/-- the next reference comes into such a row -/
theorem kc_aast {k k' n t ci : Nat} {i x : Int} {r : vw_C} (hC : Cx E g cc own Ts nL rm) (hce : ce k i = ka_p g t n k' x) (ht : (tysX g)[t]? = some (g.2.1 t, .object r.1)) (hci : vwCl[ci]? = some r) (hv : ∃ vs, ce k' x = .inr (ci, vs)) (hn : n < 100000) (h0 : 0 ≤ i) (h1 : i < cn k) (h2 : g.2.2 k i < N) (x0 : 0 ≤ x) (x1 : x < n) (y1 : x < cn k') (y2 : g.2.2 k' x < N) (hd : decode cc pc = .ok (.aastore, 1)) (hq : pc + 1 = q)
    (kk : Wc E g nL (upE ce k i (ka_p g t n k' (x + 1))) N cells slots q lv st) : Wc E g nL ce N cells slots pc lv (vr g k' x :: vi x :: vr g k i :: st) := by
  obtain ⟨p, l, e, R, s, m, args, below, meth, c, A, H0, c0, s0, Q⟩ := E
  obtain ⟨hx, hb, hml, hown, hts, hK, hR, hD, hA, hc1, hc2⟩ := hC
  subst hq
  intro H locs ls hP hS hl
  obtain ⟨vs, hv⟩ := hv
  have hPa := hP.2 k i h0 h1 h2
  rw [hce] at hPa
  have hPv := hP.2 k' x x0 y1 y2
  rw [hv] at hPv
  obtain ⟨r', hr', cellV, g1, g2, g3, -⟩ := hPv
  have hcls := (hK.1.1 ci r hci).2
  obtain ⟨kA, comp, k1, k2, k3, -⟩ := (hK.1.2 t _ ht).2
  have hcomp : comp = g.1.1 ci := Option.some.inj (k3.symm.trans hcls.1)
  subst hcomp
  obtain ⟨kC, hkC, -⟩ := hcls.2
  have hvp := kw_vpin x0 x1 (by omega)
  have hcl9 : (Int32.ofInt x).toNatClampNeg = x.toNat := kw_cl x0 (by omega)
  have hlt9 : x.toNat < n := by omega
  refine W.aast hx hb hPa (fun q h => by cases h) (fun h => by cases h) k1 k2 rfl hkC ⟨fun q => hvp (Or.inl q), by show (Int32.ofInt x).toNatClampNeg < (arrV _ _ _).slots.size; rw [arrV_size, hcl9]; exact hlt9⟩ g1 (fun q h => by rw [g3] at h; cases h) (by rw [g2]; exact hkC) (by rw [g2]; exact va_assign hcls) rfl rfl hd fun H1 e z oq => ?_
  refine kk H1 _ ls (hP.set hD h0 h1 z oq ?_) (hS.put z oq (hA _ ⟨k, i, h0, h1, rfl⟩)) hl
  show H1[g.2.2 k i]? = some (vp_cell _ _)
  rw [e, hcl9]
  rw [vp_cell_q, vp_cell_q, arrV_store]
  congr 2
  funext j
  by_cases hj : j = x.toNat
  · have e9 : ((x.toNat : Nat) : Int) = x := Int.toNat_of_nonneg x0
    have e8 : ((x.toNat : Nat) : Int) < x + 1 := by omega
    subst hj
    simp only [updV, if_pos, e8, e9]
    rw [if_pos (show x < x + 1 by omega)]
    rfl
  · have e8 : ((j : Nat) : Int) < x + 1 ↔ ((j : Nat) : Int) < x := by omega
    simp [updV, hj, e8]
theorem kc_get {k : Nat} {i : Int} {ci idx f Nf : Nat} {C ref : String} {T : u_T} {fs : List Value} {v : Value} (hC : Cx E g cc own Ts nL rm) (hin : ∀ w ∈ u_ws C T Nf, w ∈ Ts) (hce : ce k i = .inr (ci, fs)) (hcl : vwCl[ci]? = some (C, T, Nf)) (hk : f < Nf) (hlink : Cond.fieldLink own idx ref (T f).2.1 (T f).2.2.1 ∈ Ts) (href : ref = (T f).1) (hv : fs[f]? = some v) (h0 : 0 ≤ i) (h1 : i < cn k) (h2 : g.2.2 k i < N) (hd : decode cc pc = .ok (.getfield idx, 3)) (hq : pc + 3 = q) (kk : Wc E g nL ce N cells slots q lv (v :: st)) : Wc E g nL ce N cells slots pc lv (vr g k i :: st) := by
  obtain ⟨p, l, e, R, s, m, args, below, meth, c, A, H0, c0, s0, Q⟩ := E
  obtain ⟨hx, hb, hml, hown, hts, hK, hR, hD, hA, hc1, hc2⟩ := hC
  subst hq
  subst href
  intro H locs ls hP hS hl
  have hP1 : va_P g.1 vwCl [(g.2.2 k i, .inr (ci, fs))] H := by
    intro n x hx
    match n, hx with
    | 0, hx => cases hx; rw [← hce]; exact hP.2 k i h0 h1 h2
    | n + 1, hx => simp at hx
  exact va_get hx hb hts hin hown hK.1 hP1 0 rfl hcl f hk (hts _ hlink) (fun _ h9 => h9) hv hd (kk H locs ls hP hS hl)
theorem kc_put {k : Nat} {i : Int} {ci idx f Nf : Nat} {C ref : String} {T : u_T} {fs : List Value} {v : Value} {ty : FieldType} (hC : Cx E g cc own Ts nL rm) (hY : Cy E g) (hin : ∀ w ∈ u_ws C T Nf, w ∈ Ts) (ty0 : Nat → FieldType) (hty : ∀ k, k < Nf → parseFieldDescriptor (T k).2.2.1 = some (ty0 k)) (hnm : ∀ a, a < Nf → ∀ b, b < Nf → a ≠ b → (T a).2.1 ≠ (T b).2.1) (hce : ce k i = .inr (ci, fs)) (hcl : vwCl[ci]? = some (C, T, Nf)) (hk : f < Nf) (hlink : Cond.fieldLink own idx ref (T f).2.1 (T f).2.2.1 ∈ Ts) (href : ref = (T f).1) (hfin : (T f).2.2.2 = true) (hdecl : (T f).1 = own) (hdsc : parseFieldDescriptor (T f).2.2.1 = some ty) (hn : narrow ty v = v) (hfit : fits ty v = true) (hlen : f < fs.length) (h0 : 0 ≤ i) (h1 : i < cn k) (h2 : g.2.2 k i < N) (hd : decode cc pc = .ok (.putfield idx, 3)) (hq : pc + 3 = q) (kk : Wc E g nL (upE ce k i (.inr (ci, fs.set f v))) N cells slots q lv st) : Wc E g nL ce N cells slots pc lv (v :: vr g k i :: st) := by
  obtain ⟨p, l, e, R, s, m, args, below, meth, c, A, H0, c0, s0, Q⟩ := E
  obtain ⟨hx, hb, hml, hown, hts, hK, hR, hD, hA, hc1, hc2⟩ := hC
  obtain ⟨hin2, -⟩ := hY
  subst hq
  subst href
  intro H locs ls hP hS hl
  have hPk := hP.2 k i h0 h1 h2
  rw [hce] at hPk
  obtain ⟨r, h9, cell, q1, q2, q3, q4⟩ := hPk
  have hr : r = (C, T, Nf) := Option.some.inj (h9.symm.trans hcl)
  subst hr
  have hap := va_apart (own := own) hts hin ty0 hty hnm hK.1 hcl
  obtain ⟨hSl, hfc, kC, hkC, hkind⟩ := hK.1.1 ci _ hcl
  obtain ⟨cf, kf, fi, fl, hi, hsl⟩ := hSl f hk
  have hlay := hts _ (hin _ (u_in_lay hk))
  unfold u_lay at hlay
  rw [if_pos hfin] at hlay
  have hst := (u_facts hfc hkC (u_lays hts hin hk) hi).1
  have hcf : m.cls = cf := by
    obtain ⟨_, _, c', _, _, _, -, -, hf', -, -, -, hown2, -⟩ := Cond.laysFinal_spec hlay
    have e1 : c' = cf := by have := hi.symm.trans hf'; simp at this; exact this.1.symm
    rw [hdecl] at hown2
    rw [← e1]; exact Option.some.inj (hown.symm.trans hown2)
  have h6 := u_fits hfc hkC hkind (Or.inr hlay) hi hdsc hn hfit
  refine W.putFinK hx hb hown (hts _ hlink) hi hst hcf hin2 (by rw [q2]; exact h6) q1 q3 (by rw [hsl]; exact k2_hasslot (q4 f hk)) rfl rfl hd fun H' e1 e2 e3 => ?_
  rw [hsl] at e1 ⊢
  exact kk H' _ ls (hP.set hD h0 h1 e2 e3 ⟨_, hcl, t_OB.to (V := updV (vp_V fs) f v) ⟨_, e1, q2, q3, t_set q4 hap hk v⟩ (fun j _ => vp_updV_set hlen v j)⟩) (hS.put e2 e3 (hA _ ⟨k, i, h0, h1, rfl⟩)) hl
theorem kc_iast {k n : Nat} {i z x : Int} {r : Int → Int} (hC : Cx E g cc own Ts nL rm) (hce : ce k i = ka_i g n r) (hn : n < 2147483648) (h0 : 0 ≤ i) (h1 : i < cn k) (h2 : g.2.2 k i < N) (z0 : 0 ≤ z) (z1 : z < n) (hd : decode cc pc = .ok (.iastore, 1)) (hq : pc + 1 = q) (kk : Wc E g nL (upE ce k i (ka_i g n (fun j => if j = z then x else r j))) N cells slots q lv st) : Wc E g nL ce N cells slots pc lv (vi x :: vi z :: vr g k i :: st) := by
  obtain ⟨p, l, e, R, s, m, args, below, meth, c, A, H0, c0, s0, Q⟩ := E
  obtain ⟨hx, hb, hml, hown, hts, hK, hR, hD, hA, hc1, hc2⟩ := hC
  subst hq
  intro H locs ls hP hS hl
  have hP1 := hP.2 k i h0 h1 h2
  rw [hce] at hP1
  have hv := kw_vpin z0 z1 hn
  refine W.iast hx hb hP1 ((hK.1.2 0 _ rfl).1 n (fun j => .int (Int32.ofInt (r (j : Int))))) (fun q => by cases q) (by show ¬ (_ < 0 ∨ (arrV _ _ _).slots.size ≤ _); rw [arrV_size]; exact hv) rfl rfl hd fun H1 e9 z9 oq => ?_
  refine kk H1 _ ls (hP.set hD h0 h1 z9 oq ?_) (hS.put z9 oq (hA _ ⟨k, i, h0, h1, rfl⟩)) hl
  show H1[g.2.2 k i]? = some (vp_cell _ _)
  rw [e9]
  rw [vp_cell_i, vp_cell_i, arrV_store, kw_cl z0 (by omega)]
  congr 2
  funext j
  by_cases hj : j = z.toNat
  · have : ((j : Nat) : Int) = z := by omega
    simp [updV, hj, Int.toNat_of_nonneg z0]
  · have : ¬ ((j : Nat) : Int) = z := by omega
    simp [updV, hj, this]
theorem kc_obj {k : Nat} {i : Int} {idx : Nat} (hC : Cx E g cc own Ts nL rm) (hlink : Cond.methodLink own idx objectInit ∈ Ts) (hinst : Cond.instanceMethod objectInit ∈ Ts) (hcode : Cond.code objectInit ⟨#[0xb1]⟩ 1 none ∈ Ts) (hf : 1 ≤ rm.frames) (hloc : (st.map fun v => v.category).sum + 12 ≤ rm.locals) (hd : decode cc pc = .ok (.invokespecial idx, 3)) (hq : pc + 3 = q) (kk : Wc E g nL ce N cells slots q lv st) : Wc E g nL ce N cells slots pc lv (vr g k i :: st) := by
  obtain ⟨p, l, e, R, s, m, args, below, meth, c, A, H0, c0, s0, Q⟩ := E
  obtain ⟨hx, hb, hml, hown, hts, hK, hR, hD, hA, hc1, hc2⟩ := hC
  subst hq
  subst hR
  intro H locs ls hP hS hl
  exact W.objInit hx hb hown (hts _ hlink) (hts _ hinst) (hts _ hcode) rfl (by rw [hml]; exact hl.1) rfl hd hf (by show 2 * 0 + _ + _ ≤ _; omega) (kk H locs ls hP hS hl)
/-- new long[n][n2], its rows at the addresses behind it -/
theorem kc_mna {k k' n n2 idx : Nat} {i z z2 : Int} (hC : Cx E g cc own Ts nL rm) (hY : Cy E g) (hcl : Cond.classLink own idx "[[J" ∈ Ts) (harr : Cond.arrayClass .long ∈ Ts) (hz : z = (n : Int)) (hz2 : z2 = (n2 : Int)) (hn : n < 10000) (hn2 : n2 < 10000) (ha : g.2.2 k i = N) (h0 : 0 ≤ i) (h1 : i < cn k) (hce : ce k i = ka_r g 5 n k') (hrow : ∀ j : Nat, j < n → g.2.2 k' (j : Int) = N + 1 + j) (hcn : (n : Int) = cn k') (hcr : ∀ j : Int, 0 ≤ j → j < n → ce k' j = ka_l g n2 (fun _ => 0)) (hcells : cells + (1 + n) ≤ rm.cells) (hslots : slots + (n + n * n2) ≤ rm.slots) (hd : decode cc pc = .ok (.multianewarray idx 2, 4)) (hq : pc + 4 = q)
    (kk : Wc E g nL ce (N + 1 + n) (cells + 1 + n) (slots + n + n * n2) q lv (vr g k i :: st)) : Wc E g nL ce N cells slots pc lv (vi z2 :: vi z :: st) := by
  obtain ⟨p, l, e, R, s, m, args, below, meth, c, A, H0, c0, s0, Q⟩ := E
  obtain ⟨hx, hb, hml, hown, hts, hK, hR, hD, hA, hc1, hc2⟩ := hC
  subst hq
  subst hR
  subst hz
  subst hz2
  intro H locs ls hP hS hl T hT X
  have e1 : (Int32.ofInt (n : Int)).toNatClampNeg = n := by rw [kw_cl (by omega) (by omega)]; omega
  have e2 : (Int32.ofInt (n2 : Int)).toNatClampNeg = n2 := by rw [kw_cl (by omega) (by omega)]; omega
  obtain ⟨vm₁, cA, comp, -, fA, fC, -, -, X', step⟩ := X.multianewarray2F hx hown (ty := .long) (hts _ hcl) (hY.2.2 (Cond.arrayOver (.array .long)) (by simp [aoX])) (hts _ harr) (g := F0 m pc ls (vi (n2 : Int) :: vi (n : Int) :: st)) rfl (by rw [hb]; exact hd) rfl
    (by rw [Int32.lt_iff_toInt_lt, kw_ti (by omega), Int32.toInt_zero]; omega) (by rw [Int32.lt_iff_toInt_lt, kw_ti (by omega), Int32.toInt_zero]; omega) (by rw [e1]; omega) (by rw [e2]; show n2 * 8 ≤ _; omega) (by rw [e2]; omega) rfl rfl (by rw [e1]; exact hcells) (by rw [e1, e2]; exact hslots)
  rw [e1, e2] at X' step
  have hcA : cA = g.2.1 5 := by
    have h2 : s.vm.findClass ("[" ++ (FieldType.array .long).toString) = some (g.2.1 5) := (hK.1.2 5 _ rfl).2
    exact Option.some.inj (fA.symm.trans h2)
  have hcC : comp = g.2.1 1 := by
    have h2 : s.vm.findClass ("[" ++ (FieldType.long).toString) = some (g.2.1 1) := (hK.1.2 1 _ rfl).2
    exact Option.some.inj (fC.symm.trans h2)
  subst hcA
  subst hcC
  generalize hF : Jvm.Free.Multi.fill (T.setVm vm₁) (g.2.1 5) (g.2.1 1) n n2 (defaultValue .long) n = F at X' step
  have hTh : (T.setVm vm₁).heap = H := hT
  obtain ⟨f1, f2, -, -⟩ := Jvm.Free.Multi.fill_facts (T.setVm vm₁) (g.2.1 5) (g.2.1 1) n n2 (defaultValue .long) n
  rw [hF, hTh] at f1 f2
  have hold : ∀ x : Nat, x < H.size → F.heap[x]? = H[x]? := fun x hx => by
    have := Jvm.Free.Multi.fill_old (T.setVm vm₁) (g.2.1 5) (g.2.1 1) n n2 (defaultValue .long) (a := x) (by rw [hTh]; exact hx) n
    rw [hF, hTh] at this
    exact this
  have hrowc : ∀ j : Nat, j < n → F.heap[H.size + 1 + j]? = some (vp_cell (g.2.1 1) (n2, .inr (.inl (fun _ => Int64.ofInt 0)))) := fun j hj => by
    have := Jvm.Free.Multi.fill_inner (T.setVm vm₁) (g.2.1 5) (g.2.1 1) n n2 (defaultValue .long) n j hj
    rw [hF, hTh] at this
    rw [this, vp_cell_l]
    congr 1
    exact arrV_new _ _ _
  have hout : Jvm.Free.Multi.outerC (g.2.1 5) n H.size n = arrV (g.2.1 5) n (fun j => va_rf (if j < n then some (H.size + 1 + j) else none)) := ko_outer _ _ _ _
  rw [hout] at f2
  have hQ2 : wQ g ce (N + 1 + n) F.heap := by
    refine ⟨by rw [f1, hP.1], fun k9 i9 h0' h1' h2' => ?_⟩
    by_cases c1 : k9 = k ∧ i9 = i
    · obtain ⟨rfl, rfl⟩ := c1
      rw [hce, ha]
      show F.heap[N]? = some (vp_cell _ _)
      rw [vp_cell_q, ← hP.1, f2]
      congr 1
      refine arrV_congr fun j hj => ?_
      rw [if_pos hj, hrow j hj, hP.1]
    · by_cases c2 : k9 = k'
      · subst c2
        rw [hcr i9 h0' (by omega)]
        have hr := hrow i9.toNat (by omega)
        rw [Int.toNat_of_nonneg h0'] at hr
        rw [hr, ← hP.1]
        exact hrowc i9.toNat (by omega)
      · have hlt : g.2.2 k9 i9 < N := by
          rcases Nat.lt_or_ge (g.2.2 k9 i9) N with h | h
          · exact h
          · exfalso
            rcases Nat.eq_or_lt_of_le h with h | h
            · exact c1 (hD k9 i9 k i h0' h1' h0 h1 (by omega))
            · obtain ⟨j, hj⟩ : ∃ j : Nat, g.2.2 k9 i9 = N + 1 + j := ⟨g.2.2 k9 i9 - N - 1, by omega⟩
              have hjn : j < n := by omega
              exact c2 (hD k9 i9 k' (j : Int) h0' h1' (by omega) (by omega) (by rw [hj, hrow j hjn])).1
        exact (hP.2 k9 i9 h0' h1' hlt).kept (hold _ (by rw [hP.1]; exact hlt))
  have hS2 : va_S A H0 F.heap locs := ⟨Nat.le_trans hS.1 (by rw [f1]; omega), fun q h1 h2 => (hold q (Nat.lt_of_lt_of_le h1 hS.1)).trans (hS.2.1 q h1 h2), hS.2.2⟩
  obtain ⟨t, a1, b1⟩ := kk F.heap locs ls hQ2 hS2 hl F rfl X'
  refine ⟨t, step t ?_, b1⟩
  have ea : T.heap.size = g.2.2 k i := by rw [hT, hP.1, ha]
  rw [ea]
  exact a1
end KY
/-- a constructor's contract: from the world ce, N cells, it returns; the world behind it is ce', N' cells -/
def Kn (l : Launch) (y : MethodName) (ws : List Cond) (rm : Room) (g : wG) (ce : Nat → Int → va_E) (N : Nat) (As : List Value) (ce' : Nat → Int → va_E) (N' mc ms : Nat) : Prop :=
  Met l y ws rm (va_Pc As (fun U => wQ g ce N U.heap ∧ wKc g U)) (fun _ st o t => (o = .returned none ∧ wQ g ce' N' t.heap) ∧ va_F (wA g) st t) mc ms (wA g)
theorem Kn.of {l : Launch} {y : MethodName} {ws ws' : List Cond} {rm : Room} {g : wG} {ce ce' : Nat → Int → va_E} {N N' mc ms : Nat} {As : List Value} {cc : ByteArray} {nL : Nat} {own : String} (hown : y.cls = own) (hD : wD g) (hy : plainName y.cls = true) (hw : ws = Cond.code y cc nL none :: ws') (hlen : (lg_sl As).length ≤ nL) (hi : y.name = "<init>")
    (body : ∀ E : wE, Cx E g cc own ws nL rm → Cy E g → (∀ (pc : Nat) (lv : List (Nat × Value)), decode cc pc = .ok (.return_, 1) → Wc E g nL ce' N' mc ms pc lv []) → Wc E g nL ce N 0 0 0 (lv_args 0 As) []) : Kn l y ws rm g ce N As ce' N' mc ms := by
  refine Met.ofW (cc := cc) (maxL := nL) (ret := none) hy hw ?_
  intro p e s m args below meth c s₁ B hml hv
  obtain ⟨rfl, hP, hK⟩ := hv
  have hx := B.exec
  have hb := B.bytes
  have hr := B.returns
  have hts := atoms_spec (ws := ws) B.pre
  have hown2 : s.vm.findClass own = some m.cls := by rw [← hown]; exact findClass_of_methodNamed B.named
  have hlocks := B.notSynchronized
  have hin : meth.name = "<init>" := by rw [(name_of_methodNamed B.named B.method).1, hi]
  have hl := lv_entry As hlen
  rw [lg_entry_eq]
  have hbody := body (p, l, e, rm, s, m, As.toArray, below, meth, c, wA g, s.heap, 0, 0, MQ below (fun _ st o t => (o = .returned none ∧ wQ g ce' N' t.heap) ∧ va_F (wA g) st t) As.toArray s mc ms (wA g))
    ⟨hx, hb, hml, hown2, hts, hK.1, rfl, hD, fun _ h => h, Nat.zero_le _, Nat.zero_le _⟩ ⟨hin, hK⟩
    (fun pc lv hd H locs ls hP' hS hl' => W.vret hx hb hr (fun t ht hW => ⟨⟨rfl, by rw [ht]; exact hP'⟩, hS.F ht⟩) hS.2.2 hd)
  exact hbody s.heap [] _ hP va_S.rf hl
theorem Kn_blind {g : wG} {ce : Nat → Int → va_E} {N : Nat} {As : List Value} : FrameBlind (va_Pc As (fun U => wQ g ce N U.heap ∧ wKc g U)) := fun a U f mk q => ⟨q.1, q.2.1, q.2.2.blind⟩
section KZ
variable {E : wE} {g : wG} {cc : ByteArray} {own : String} {Ts : List Cond} {nL : Nat} {rm : Room} {ce ce' : Nat → Int → va_E} {N N' cells slots mc ms : Nat} {pc q : Nat} {lv : List (Nat × Value)} {st stk : List Value}
  {y : MethodName} {ws ws' : List Cond} {rmc : Room} {As : List Value} {bytes : ByteArray} {maxL n index : Nat}
theorem kc_ran {p : Program} {l : Launch} {e : Env} {R : Room} {s : State} {m : MethodId} {args : Array Value} {below : List Frame} {meth : Method} {c : Code} {A : Nat → Prop} {H0 H : Heap} {c0 s0 : Nat} {Q : State → Prop} {locs : List Loc} {ls : Array Slot} {a : Array Value}
    (hr : va_Run p l e R s m args below meth c H locs cells slots mc ms (F0 m pc ls stk) st ((fun (_ : Array Value) (st : State) (o : Outcome) (t : State) => (o = .returned none ∧ wQ g ce' N' t.heap) ∧ va_F (wA g) st t) a) (wA g)) (hS : va_S A H0 H locs) (hA : ∀ q, wA g q → A q) (hl : lv_has ls nL lv)
    (kk : Wc (p, l, e, R, s, m, args, below, meth, c, A, H0, c0, s0, Q) g nL ce' N' (cells + mc) (slots + ms) (pc + 3) lv st) : W p l e R s m args below meth c H locs cells slots Q (F0 m pc ls stk) := by
  intro T hT X
  obtain ⟨v, st₀, t, T', L, h0, X', hL, e1, e2, ⟨⟨hv, hPt⟩, hz, hk⟩, stp⟩ := hr T hT X
  cases hv
  rw [h0] at hz hk
  obtain ⟨t2, a1, b1⟩ := kk T'.heap (locs ++ L) ls (by rw [e1]; exact hPt)
    ⟨Nat.le_trans hS.1 (by rw [e1]; exact hz), fun q h1 h2 => by rw [e1, hk q (Nat.lt_of_lt_of_le h1 hS.1) (fun z => h2 (hA q z))]; exact hS.2.1 q h1 h2, fun q hq => by
      rcases List.mem_append.mp hq with h | h
      · exact hS.2.2 q h
      · exact hA _ (hL q h)⟩ hl T' rfl X'
  exact ⟨t2, stp t2 a1, b1⟩
theorem kc_callI {k : Nat} {i : Int} (hC : Cx E g cc own Ts nL rm) (hKc : ∀ (p : Program) (l : Launch) (e : Env) (R : Room) (s : State) (m : MethodId) (args : Array Value) (below : List Frame) (meth : Method) (c : Code) (A : Nat → Prop) (H0 : Heap) (c0 s0 : Nat) (Q : State → Prop), E = (p, l, e, R, s, m, args, below, meth, c, A, H0, c0, s0, Q) → wKc g s) (hM : ∀ l, Kn l y ws rmc g ce N (vr g k i :: As) ce' N' mc ms) (hG : GoodIn Ts ws) (hl9 : Cond.methodLink own index y ∈ Ts) (hin9 : Cond.instanceMethod y ∈ Ts) (hini : Cond.initialized y.cls ∈ Ts) (hw : ws = Cond.code y bytes maxL none :: ws') (hrm : rmc.cells = mc ∧ rmc.slots = ms) (n : Nat) (hi : y.name = "<init>") (hy : y.cls ≠ "java/lang/invoke/MethodHandle" ∧ y.cls ≠ "java/lang/invoke/VarHandle" ∧ (parseMethodDescriptor y.desc).map (fun d => d.parameters.length) = some n) (hroom : rmc.frames + 1 ≤ rm.frames ∧ 8 + (maxL + 11) + rmc.locals ≤ rm.locals) (hn : As.length = n) (hst : stk = As.reverse ++ vr g k i :: st) (hsum : (st.map fun v => v.category).sum ≤ 8) (hcs : cells + mc ≤ rm.cells ∧ slots + ms ≤ rm.slots) (hd : decode cc pc = .ok (.invokespecial index, 3)) (hq : pc + 3 = q)
    (kk : Wc E g nL ce' N' (cells + mc) (slots + ms) q lv st) : Wc E g nL ce N cells slots pc lv stk := by
  obtain ⟨p, l, e, R, s, m, args, below, meth, c, A, H0, c0, s0, Q⟩ := E
  have hKc := hKc _ _ _ _ _ _ _ _ _ _ _ _ _ _ _ rfl
  obtain ⟨hx, hb, hml, hown, hts, hK, hR, hD, hA, hc1, hc2⟩ := hC
  subst hq
  subst hR
  intro H locs ls hP hS hl
  refine kc_ran (a := (Value.ref (g.2.2 k i) :: As).toArray) (va_runI (b := g.2.2 k i) (As := As) (rest := st) ⟨hx, hb, hml, hown, hts⟩ (hM l) (cwI n hts hG hw hrm.1 hrm.2 (hts _ hini) (hts _ hl9) (hts _ hin9) hi hy hroom) ⟨Kn_blind, fun U hU hW => ⟨rfl, by rw [hU]; exact hP, wKc.moved hW hKc⟩⟩ rfl hn hl.1 hst (lv_room hsum) hd hcs) hS hA hl kk
theorem kc_callIN {k : Nat} {i : Int} {host : String} (hC : Cx E g cc own Ts nL rm) (hY : Cy E g) (hM : ∀ l, Kn l y ws rmc g ce N (vr g k i :: As) ce' N' mc ms) (hnest : Cond.methodLinkNest own index y host ∈ nestX) (hG : GoodIn Ts ws) (hin9 : Cond.instanceMethod y ∈ Ts) (hini : Cond.initialized y.cls ∈ Ts) (hw : ws = Cond.code y bytes maxL none :: ws') (hrm : rmc.cells = mc ∧ rmc.slots = ms) (n : Nat) (hi : y.name = "<init>") (hy : y.cls ≠ "java/lang/invoke/MethodHandle" ∧ y.cls ≠ "java/lang/invoke/VarHandle" ∧ (parseMethodDescriptor y.desc).map (fun d => d.parameters.length) = some n) (hroom : rmc.frames + 1 ≤ rm.frames ∧ 8 + (maxL + 11) + rmc.locals ≤ rm.locals) (hn : As.length = n) (hst : stk = As.reverse ++ vr g k i :: st) (hsum : (st.map fun v => v.category).sum ≤ 8) (hcs : cells + mc ≤ rm.cells ∧ slots + ms ≤ rm.slots) (hd : decode cc pc = .ok (.invokespecial index, 3)) (hq : pc + 3 = q)
    (kk : Wc E g nL ce' N' (cells + mc) (slots + ms) q lv st) : Wc E g nL ce N cells slots pc lv stk := by
  obtain ⟨p, l, e, R, s, m, args, below, meth, c, A, H0, c0, s0, Q⟩ := E
  obtain ⟨-, hKc⟩ := hY
  obtain ⟨hx, hb, hml, hown, hts, hK, hR, hD, hA, hc1, hc2⟩ := hC
  subst hq
  subst hR
  intro H locs ls hP hS hl
  refine kc_ran (a := (Value.ref (g.2.2 k i) :: As).toArray) (va_runIN (b := g.2.2 k i) (As := As) (rest := st) ⟨hx, hb, hml, hown, hts⟩ (hM l) ⟨va_cnB n hts hG hw hrm.1 hrm.2 (hK.2 _ hnest) (hts _ hini) hy hroom, hi, hts _ hin9⟩ ⟨Kn_blind, fun U hU hW => ⟨rfl, by rw [hU]; exact hP, wKc.moved hW hKc⟩⟩ rfl hn hl.1 hst (lv_room hsum) hd hcs) hS hA hl kk
theorem Cy.kc (hY : Cy E g) : ∀ (p : Program) (l : Launch) (e : Env) (R : Room) (s : State) (m : MethodId) (args : Array Value) (below : List Frame) (meth : Method) (c : Code) (A : Nat → Prop) (H0 : Heap) (c0 s0 : Nat) (Q : State → Prop), E = (p, l, e, R, s, m, args, below, meth, c, A, H0, c0, s0, Q) → wKc g s := by
  rintro p l e R s m args below meth c A H0 c0 s0 Q rfl
  exact hY.2
end KZ
