section
/-! the roots of a set that ends: heights, and each comes from a lower one -/
def rooJ (t : Nat) : Bool :=
  let R := rooT.getD t []
  let K := tyK t
  R.all (fun p => Nat.ble (smN K (fun j => p.getD j 0)) 11 && (anyN K (fun i => allN K (fun b => Nat.beq (p.getD b 0) (bif Nat.beq b i then 1 else 0))) || anyN K (fun i => Nat.blt (smN K (fun j => tyN t i j * p.getD j 0)) (2 * p.getD i 0))))
theorem rooj_ok : allN 21 rooJ = true := by decide +kernel
theorem rooG {t : Nat} (ht : t < 21) {p : List Nat} (hp : p ∈ rooT.getD t []) : smN (tyK t) (fun j => p.getD j 0) ≤ 11 ∧ ((∃ i, i < tyK t ∧ ∀ b, b < tyK t → p.getD b 0 = if b = i then 1 else 0) ∨ ∃ i, i < tyK t ∧ smN (tyK t) (fun j => tyN t i j * p.getD j 0) < 2 * p.getD i 0) := by
  have h := allN_e rooj_ok t ht
  simp only [rooJ] at h
  have h := List.all_eq_true.mp h p hp
  simp only [Bool.and_eq_true, Bool.or_eq_true, Nat.ble_eq] at h
  refine ⟨h.1, h.2.imp (fun q => ?_) (fun q => ?_)⟩
  · obtain ⟨i, hi, q⟩ := anyN_e q
    refine ⟨i, hi, fun b hb => ?_⟩
    rw [Nat.beq_eq.mp (allN_e q b hb)]
    by_cases e : b = i
    · subst e; simp
    · rw [if_neg e, b_ne e]; rfl
  · obtain ⟨i, hi, q⟩ := anyN_e q
    exact ⟨i, hi, Nat.blt_eq.mp q⟩
theorem roots_of2 {M : Nat → Nat → Int} {n : Nat} (hM : MOk M n) (hn : n ≤ 6) (hU : NoB M n) : ∃ L, RLi M n L ∧ ∀ p, p ∈ L → sm n p ≤ 11 ∧ (∀ j, n ≤ j → p j = 0) ∧ ((∃ i, i < n ∧ p = ownV i) ∨ ∃ i, i < n ∧ 0 < prg M n p i) := by
  obtain ⟨cs, h1, h2, h3⟩ := decomp hM hn hU n (Nat.le_refl n)
  obtain ⟨ve, hve⟩ : ∃ f : List Nat → Nat → Int, f = fun p a => (p.getD a 0 : Int) := ⟨_, rfl⟩
  have vea : ∀ p a, ve p a = (p.getD a 0 : Int) := fun p a => by rw [hve]
  refine ⟨cs.flatMap (fun c => (rooT.getD c.1 []).map (fun p => emb (tyK c.1) c.2 (ve p))), ⟨?_, ?_, ?_, ?_⟩, ?_⟩
  · have hlen : ∀ ds : List (Nat × (Nat → Nat)), (∀ c, c ∈ ds → c.1 < 21) → (ds.flatMap (fun c => (rooT.getD c.1 []).map (fun p => emb (tyK c.1) c.2 (ve p)))).length ≤ 6 * (ds.map (fun c => tyK c.1)).sum := by
      intro ds
      induction ds with
      | nil => intro _; exact Nat.zero_le _
      | cons c ds ih =>
        intro hd
        have := ih (fun d hd9 => hd d (List.mem_cons_of_mem _ hd9))
        have := (rooF (hd c List.mem_cons_self)).1
        simp only [List.flatMap_cons, List.length_append, List.length_map, List.map_cons, List.sum_cons]
        omega
    have := hlen cs (fun c hc => (h1 c hc).iso.t0)
    have e := sum_tyK cs
    have := php_list (m := List.range n) h2 (fun x hx => by
      obtain ⟨c, hc, a, ha, rfl⟩ := mem_cov.mp hx
      exact List.mem_range.mpr ((h1 c hc).iso.lt a ha))
    rw [List.length_range] at this
    omega
  · intro i hi
    obtain ⟨c, hc, a, ha, rfl⟩ := mem_cov.mp (h3 i hi)
    obtain ⟨q, hq, hq2⟩ := (rooF (h1 c hc).iso.t0).2.1 a ha
    refine List.mem_flatMap.mpr ⟨c, hc, List.mem_map.mpr ⟨q, hq, ?_⟩⟩
    rw [← emb_own (h1 c hc).iso.inj ha]
    exact emb_ext (fun b hb => by rw [vea, hq2 b hb]; split <;> rfl)
  · intro p hp i hi
    obtain ⟨c, hc, hp⟩ := List.mem_flatMap.mp hp
    obtain ⟨p, hp2, rfl⟩ := List.mem_map.mp hp
    have hI := (h1 c hc).iso
    by_cases hin : ∃ a, a < tyK c.1 ∧ c.2 a = i
    · obtain ⟨a, ha, rfl⟩ := hin
      rcases ((rooF hI.t0).2.2 p hp2).2 a ha with h5 | ⟨q, hq, hq2⟩
      · left
        rw [← emb_own hI.inj ha]
        exact emb_ext (fun b hb => by rw [vea, h5 b hb]; split <;> rfl)
      · right
        refine List.mem_flatMap.mpr ⟨c, hc, List.mem_map.mpr ⟨q, hq, ?_⟩⟩
        funext x
        have epr : prg M n (emb (tyK c.1) c.2 (ve p)) (c.2 a) = 2 * ve p a - sm (tyK c.1) (fun b => tyM c.1 a b * ve p b) := by
          unfold prg
          rw [sm_emb hI.lt, emb_at hI.inj ha]
          congr 1
          exact sm_congr (fun b hb => by rw [hI.eq a b ha hb])
        unfold rfx
        by_cases hx : ∃ b, b < tyK c.1 ∧ c.2 b = x
        · obtain ⟨b, hb, rfl⟩ := hx
          have h6 := hq2 b hb
          by_cases e : b = a
          · subst e
            rw [if_pos rfl] at h6
            rw [if_pos rfl, epr, emb_at hI.inj hb, emb_at hI.inj hb, vea, vea]
            have h7 : ((p.getD b 0 : Nat) : Int) + (q.getD b 0 : Nat) = sm (tyK c.1) (fun j => tyM c.1 b j * ve p j) := by
              rw [← Int.natCast_add, Nat.add_comm, h6, smN_c]
              exact sm_congr (fun j _ => by rw [vea, Int.natCast_mul]; rfl)
            omega
          · rw [if_neg e] at h6
            rw [if_neg (fun e2 => e (hI.inj b a hb ha e2)), emb_at hI.inj hb, emb_at hI.inj hb, vea, vea, h6]
        · have ho : ∀ b, b < tyK c.1 → c.2 b ≠ x := fun b hb e => hx ⟨b, hb, e⟩
          rw [if_neg (fun e => ho a ha e.symm), emb_out ho, emb_out ho]
    · right
      have ho : ∀ b, b < tyK c.1 → c.2 b ≠ i := fun b hb e => hin ⟨b, hb, e⟩
      have e : rfx M n (emb (tyK c.1) c.2 (ve p)) i = emb (tyK c.1) c.2 (ve p) := by
        funext x
        unfold rfx
        split
        · rename_i e
          subst e
          unfold prg
          rw [sm_emb hI.lt, emb_out ho, sm_zero (fun b hb => by rw [(h1 c hc).mx x hi ho b hb]; omega)]
          rfl
        · rfl
      rw [e]
      exact List.mem_flatMap.mpr ⟨c, hc, List.mem_map.mpr ⟨p, hp2, rfl⟩⟩
  · intro p hp j
    obtain ⟨c, hc, hp⟩ := List.mem_flatMap.mp hp
    obtain ⟨p, hp2, rfl⟩ := List.mem_map.mp hp
    have hI := (h1 c hc).iso
    by_cases hx : ∃ b, b < tyK c.1 ∧ c.2 b = j
    · obtain ⟨b, hb, rfl⟩ := hx
      rw [emb_at hI.inj hb, vea]
      have := ((rooF hI.t0).2.2 p hp2).1 b hb
      omega
    · rw [emb_out (fun b hb e => hx ⟨b, hb, e⟩)]
      omega
  · intro p hp
    obtain ⟨c, hc, hp⟩ := List.mem_flatMap.mp hp
    obtain ⟨p, hp2, rfl⟩ := List.mem_map.mp hp
    have hI := (h1 c hc).iso
    obtain ⟨g1, g2⟩ := rooG hI.t0 hp2
    refine ⟨?_, fun j hj => emb_out (fun a ha e => by have := hI.lt a ha; omega), ?_⟩
    · have e := sm_emb hI.lt (n := n) (k := tyK c.1) (c := ve p) (fun _ => 1)
      simp only [Int.one_mul] at e
      rw [show sm n (emb (tyK c.1) c.2 (ve p)) = sm n (fun j => emb (tyK c.1) c.2 (ve p) j) from rfl, e]
      have e2 : sm (tyK c.1) (ve p) = ((smN (tyK c.1) (fun j => p.getD j 0) : Nat) : Int) := by
        rw [smN_c]
        exact sm_congr (fun a _ => vea p a)
      rw [show sm (tyK c.1) (fun a => ve p a) = sm (tyK c.1) (ve p) from rfl, e2]
      omega
    · rcases g2 with ⟨i, hi, h5⟩ | ⟨i, hi, h5⟩
      · left
        refine ⟨c.2 i, hI.lt i hi, ?_⟩
        rw [← emb_own hI.inj hi]
        exact emb_ext (fun b hb => by rw [vea, h5 b hb]; split <;> rfl)
      · right
        refine ⟨c.2 i, hI.lt i hi, ?_⟩
        unfold prg
        rw [sm_emb hI.lt, emb_at hI.inj hi, vea]
        have e : sm (tyK c.1) (fun a => M (c.2 i) (c.2 a) * ve p a) = ((smN (tyK c.1) (fun j => tyN c.1 i j * p.getD j 0) : Nat) : Int) := by
          rw [smN_c]
          refine sm_congr (fun a ha => ?_)
          rw [hI.eq i a hi ha, vea, Int.natCast_mul]
          rfl
        rw [e]
        omega
end
section
/-! what turning up makes of the own ones -/
def RTp (M : Nat → Nat → Int) (n : Nat) (x : Nat → Int) : Prop := ∀ P : (Nat → Int) → Prop, (∀ i, i < n → P (ownV i)) → (∀ x i, P x → i < n → prg M n x i < 0 → P (rfx M n x i)) → P x
theorem RTp.own {M : Nat → Nat → Int} {n : Nat} (i : Nat) (hi : i < n) : RTp M n (ownV i) := fun _ h _ => h i hi
theorem RTp.up {M : Nat → Nat → Int} {n : Nat} (x : Nat → Int) (i : Nat) (h : RTp M n x) (hi : i < n) (hp : prg M n x i < 0) : RTp M n (rfx M n x i) := fun P h1 h2 => h2 x i (h P h1 h2) hi hp
theorem RTp.ind {M : Nat → Nat → Int} {n : Nat} {P : (Nat → Int) → Prop} {x : Nat → Int} (h : RTp M n x) (h1 : ∀ i, i < n → P (ownV i)) (h2 : ∀ x i, RTp M n x → i < n → prg M n x i < 0 → P x → P (rfx M n x i)) : P x := (h (fun z => RTp M n z ∧ P z) (fun i hi => ⟨RTp.own i hi, h1 i hi⟩) (fun x i q hi hp => ⟨RTp.up x i q.1 hi hp, h2 x i q.1 hi hp q.2⟩)).2
def EndL (M : Nat → Nat → Int) (n : Nat) (L : List (Nat → Int)) : Prop := RLi M n L ∧ ∀ p, p ∈ L → sm n p ≤ 11 ∧ (∀ j, n ≤ j → p j = 0) ∧ ((∃ i, i < n ∧ p = ownV i) ∨ ∃ i, i < n ∧ 0 < prg M n p i)
theorem prg_cg {M M' : Nat → Nat → Int} {n : Nat} (h : ∀ i j, i < n → j < n → M' i j = M i j) {x : Nat → Int} {i : Nat} (hi : i < n) : prg M' n x i = prg M n x i := by
  unfold prg
  rw [sm_congr (fun j hj => by rw [h i j hi hj])]
theorem rfx_cg {M M' : Nat → Nat → Int} {n : Nat} (h : ∀ i j, i < n → j < n → M' i j = M i j) {x : Nat → Int} {i : Nat} (hi : i < n) : rfx M' n x i = rfx M n x i := by
  funext j
  unfold rfx
  rw [prg_cg h hi]
theorem RLi.cg {M M' : Nat → Nat → Int} {n : Nat} (h : ∀ i j, i < n → j < n → M' i j = M i j) {L : List (Nat → Int)} (q : RLi M n L) : RLi M' n L := ⟨q.1, q.2.1, fun p hp i hi => by rw [rfx_cg h hi]; exact q.2.2.1 p hp i hi, q.2.2.2⟩
theorem EndL.cg {M M' : Nat → Nat → Int} {n : Nat} (h : ∀ i j, i < n → j < n → M' i j = M i j) {L : List (Nat → Int)} (q : EndL M n L) : EndL M' n L := ⟨q.1.cg h, fun p hp => by
  obtain ⟨a, b, c⟩ := q.2 p hp
  exact ⟨a, b, c.imp id (fun ⟨i, hi, c⟩ => ⟨i, hi, by rw [prg_cg h hi]; exact c⟩)⟩⟩
theorem RTp.cg {M M' : Nat → Nat → Int} {n : Nat} (h : ∀ i j, i < n → j < n → M' i j = M i j) {x : Nat → Int} (q : RTp M n x) : RTp M' n x := by
  refine q.ind (fun i hi => RTp.own i hi) (fun x i _ hi hp ih => ?_)
  rw [← rfx_cg h hi]
  exact RTp.up x i ih hi (by rw [prg_cg h hi]; exact hp)
theorem prg_own {M : Nat → Nat → Int} {n i : Nat} (hi : i < n) (hz : M i i = 0) : prg M n (ownV i) i = 2 := by
  unfold prg
  rw [sm_own (fun j => M i j) hi, hz]
  unfold ownV
  rw [if_pos rfl]
  rfl
theorem RTp.inL {M : Nat → Nat → Int} {n : Nat} {L : List (Nat → Int)} (hz : ∀ i, i < n → M i i = 0) (hL : RLi M n L) {x : Nat → Int} (h : RTp M n x) : x ∈ L := by
  refine h.ind (fun i hi => hL.own i hi) (fun x i _ hi hp ih => ?_)
  refine (hL.cl x ih i hi).resolve_left (fun e => ?_)
  rw [e, prg_own hi (hz i hi)] at hp
  omega
theorem sm_rfx2 {M : Nat → Nat → Int} {n : Nat} {x : Nat → Int} {i : Nat} (hi : i < n) : sm n (rfx M n x i) = sm n x - prg M n x i := sm_rfx hi
theorem RTp.ofL {M : Nat → Nat → Int} {n : Nat} {L : List (Nat → Int)} (hz : ∀ i, i < n → M i i = 0) (hL : EndL M n L) : ∀ (m : Nat) (x : Nat → Int), (sm n x).toNat ≤ m → x ∈ L → RTp M n x := by
  intro m
  induction m with
  | zero =>
    intro x hm hx
    rcases (hL.2 x hx).2.2 with ⟨i, hi, rfl⟩ | ⟨i, hi, hp⟩
    · exact RTp.own i hi
    · have h0 := sm_nonneg (n := n) (f := x) (fun j _ => (hL.1.nn x hx j).1)
      have h1 := sm_ge (n := n) (f := x) (fun j _ => (hL.1.nn x hx j).1) hi
      have h2 : 2 * x i - sm n (fun j => M i j * x j) > 0 := hp
      have h3 : ∀ j, j < n → x j = 0 := fun j hj => by
        have := sm_ge (n := n) (f := x) (fun j _ => (hL.1.nn x hx j).1) hj
        have := (hL.1.nn x hx j).1
        omega
      rw [sm_zero (fun j hj => by rw [h3 j hj, Int.mul_zero]), h3 i hi] at h2
      omega
  | succ m ih =>
    intro x hm hx
    rcases (hL.2 x hx).2.2 with ⟨i, hi, rfl⟩ | ⟨i, hi, hp⟩
    · exact RTp.own i hi
    · rcases hL.1.cl x hx i hi with e | e
      · rw [e]; exact RTp.own i hi
      · have h1 := sm_rfx2 (M := M) (x := x) hi
        have h0 := sm_nonneg (n := n) (f := rfx M n x i) (fun j _ => (hL.1.nn _ e j).1)
        have h2 := ih (rfx M n x i) (by omega) e
        have h3 := RTp.up (rfx M n x i) i h2 hi (by rw [prg_rfx (hz i hi)]; omega)
        rw [rfx_rfx (hz i hi)] at h3
        exact h3
/-- more than 400 up to a height -/
def RMo (M : Nat → Nat → Int) (n : Nat) (h : Int) : Prop := ∃ l : List (Nat → Int), l.Nodup ∧ 400 < l.length ∧ ∀ x, x ∈ l → RTp M n x ∧ sm n x ≤ h
theorem RMo.noL {M : Nat → Nat → Int} {n : Nat} {h : Int} (q : RMo M n h) {L : List (Nat → Int)} (hz : ∀ i, i < n → M i i = 0) (hL : RLi M n L) : False := by
  haveI : DecidableEq (Nat → Int) := fun a b => Classical.propDecidable (a = b)
  obtain ⟨l, h1, h2, h3⟩ := q
  have h4 := php_list h1 (fun x hx => (h3 x hx).1.inL hz hL)
  have := hL.len
  omega
theorem RMo.mono {M : Nat → Nat → Int} {n : Nat} {h h' : Int} (q : RMo M n h) (hh : h ≤ h') : RMo M n h' := by
  obtain ⟨l, h1, h2, h3⟩ := q
  exact ⟨l, h1, h2, fun x hx => ⟨(h3 x hx).1, Int.le_trans (h3 x hx).2 hh⟩⟩
theorem RMo.cg {M M' : Nat → Nat → Int} {n : Nat} {h : Int} (e : ∀ i j, i < n → j < n → M' i j = M i j) (q : RMo M n h) : RMo M' n h := by
  obtain ⟨l, h1, h2, h3⟩ := q
  exact ⟨l, h1, h2, fun x hx => ⟨(h3 x hx).1.cg e, (h3 x hx).2⟩⟩
/-! packed roots -/
def dgv (k : Int) : Nat → Int := fun b => if b < 6 then dg k (b : Int) else 0
theorem dg_inj {k k' : Int} (h0 : 0 ≤ k ∧ k < 68719476736) (h1 : 0 ≤ k' ∧ k' < 68719476736) (h : dgv k = dgv k') : k = k' := by
  have e : ∀ b : Nat, b < 6 → dg k (b : Int) = dg k' (b : Int) := fun b hb => by
    have := congrFun h b
    unfold dgv at this
    rw [if_pos hb, if_pos hb] at this
    exact this
  have e0 := e 0 (by decide)
  have e1 := e 1 (by decide)
  have e2 := e 2 (by decide)
  have e3 := e 3 (by decide)
  have e4 := e 4 (by decide)
  have e5 := e 5 (by decide)
  unfold dg at e0 e1 e2 e3 e4 e5
  simp only [show ((5 : Int) - ((0 : Nat) : Int)).toNat = 5 from rfl, show ((5 : Int) - ((1 : Nat) : Int)).toNat = 4 from rfl, show ((5 : Int) - ((2 : Nat) : Int)).toNat = 3 from rfl, show ((5 : Int) - ((3 : Nat) : Int)).toNat = 2 from rfl, show ((5 : Int) - ((4 : Nat) : Int)).toNat = 1 from rfl, show ((5 : Int) - ((5 : Nat) : Int)).toNat = 0 from rfl, show ((64 : Int) ^ 5) = 1073741824 from rfl, show ((64 : Int) ^ 4) = 16777216 from rfl, show ((64 : Int) ^ 3) = 262144 from rfl, show ((64 : Int) ^ 2) = 4096 from rfl, show ((64 : Int) ^ 1) = 64 from rfl, show ((64 : Int) ^ 0) = 1 from rfl] at e0 e1 e2 e3 e4 e5
  omega
theorem dgv_sm {n q k : Int} (hn : 0 ≤ n ∧ n ≤ 6) (h : KOK n q k) : sm n.toNat (dgv k) = q := by
  have e1 : sm 6 (dgv k) = q := by rw [← h.2.1]; exact sm_congr (fun b hb => by unfold dgv; rw [if_pos hb])
  have e2 : ∀ m : Nat, n.toNat ≤ m → m ≤ 6 → sm m (dgv k) = sm n.toNat (dgv k) := by
    intro m
    induction m with
    | zero => intro h1 _; rw [show n.toNat = 0 by omega]
    | succ m ih =>
      intro h1 h2
      by_cases e : n.toNat = m + 1
      · rw [e]
      · rw [sm, ih (by omega) (by omega)]
        have : dgv k m = 0 := by unfold dgv; rw [if_pos (by omega)]; exact h.2.2 _ (by omega) (by omega)
        omega
  rw [← e2 6 (by omega) (Nat.le_refl _)]
  exact e1
theorem dgv_own {n i : Int} (i0 : 0 ≤ i) (i1 : i < 6) : dgv (1 * 64 ^ (5 - i).toNat) = ownV i.toNat := by
  funext b
  unfold dgv ownV
  by_cases hb : b < 6
  · rw [if_pos hb]
    have h9 := dg_add (k := 0) (m := 1) (c := i) (b := (b : Int)) (by omega) (by omega) i0 i1 (by omega) (by omega) (by rw [dg_0]; omega)
    rw [Int.zero_add, dg_0, Int.zero_add] at h9
    rw [h9]
    by_cases e : b = i.toNat
    · rw [if_pos (by omega), if_pos e]
    · rw [if_neg (by omega), if_neg e]
  · rw [if_neg hb, if_neg (by omega)]
/-- a root turned up, packed -/
theorem dgv_up {mt : Int → Int} {n a b k u i : Int} (hn : 0 ≤ n ∧ n ≤ 6) (hk : KOK n a k) (i0 : 0 ≤ i) (i1 : i < n) (hu : u = upv mt n k a i) (hb : u = b) (hab : a < b) (hb40 : b ≤ 40) : prg (mxz mt) n.toNat (dgv k) i.toNat = a - b ∧ dgv (k + (b - a) * 64 ^ (5 - i).toNat) = rfx (mxz mt) n.toNat (dgv k) i.toNat := by
  have hri : -2 * dg k i + sm n.toNat (fun j => mt (6 * i + (j : Int)) * dg k (j : Int)) = - prg (mxz mt) n.toNat (dgv k) i.toNat := by
    unfold prg
    have e1 : dgv k i.toNat = dg k i := by unfold dgv; rw [if_pos (by omega), Int.toNat_of_nonneg i0]
    rw [e1, sm_congr (g := fun j => mxz mt i.toNat j * dgv k j) (fun j hj => by unfold dgv mxz; rw [if_pos (by omega), Int.toNat_of_nonneg i0])]
    omega
  unfold upv at hu
  rw [hri] at hu
  have ha : 0 ≤ a := by
    rw [← dgv_sm hn hk]
    exact sm_nonneg (fun j _ => by unfold dgv; split; exact (dg_r _ _).1; omega)
  have hp : prg (mxz mt) n.toNat (dgv k) i.toNat = a - b := by
    split at hu <;> omega
  refine ⟨hp, ?_⟩
  have hd := dg_le hk i0 (by omega)
  funext x
  unfold rfx
  rw [hp]
  by_cases hx : x < 6
  · have e : dgv (k + (b - a) * 64 ^ (5 - i).toNat) x = dg (k + (b - a) * 64 ^ (5 - i).toNat) (x : Int) := by unfold dgv; rw [if_pos hx]
    have e2 : dgv k x = dg k (x : Int) := by unfold dgv; rw [if_pos hx]
    rw [e, dg_add hk.1.1 (by omega) i0 (by omega) (by omega) (by omega) (by omega), e2]
    by_cases q : x = i.toNat
    · rw [if_pos (by omega), if_pos q]
      have : dgv k i.toNat = dg k (x : Int) := by rw [← q]; exact e2
      omega
    · rw [if_neg (by omega), if_neg q]
      omega
  · have e : dgv (k + (b - a) * 64 ^ (5 - i).toNat) x = 0 := by unfold dgv; rw [if_neg hx]
    rw [e, if_neg (by omega)]
    unfold dgv
    rw [if_neg hx]
def SRT (K : Int → Int) (a b : Int) : Prop := ∀ x y, a ≤ x → x < y → y < b → K y < K x
theorem SRT.eq {K K' : Int → Int} {a b : Int} (h : SRT K a b) (e : ∀ x, a ≤ x → x < b → K' x = K x) : SRT K' a b := fun x y x0 xy y1 => by
  rw [e x x0 (by omega), e y (by omega) y1]
  exact h x y x0 xy y1
theorem ins_no {K : Int → Int} {f e p k : Int} (hS : SRT K f e) (p1 : p ≤ e) (hl : ∀ x, p ≤ x → x < e → K x < k) (hp : p = f ∨ k < K (p - 1)) : ∀ x, f ≤ x → x < e → K x ≠ k := fun x x0 x1 q => by
  by_cases c : p ≤ x
  · have := hl x c x1; omega
  · rcases hp with hp | hp
    · omega
    · by_cases c2 : x = p - 1
      · rw [← c2] at hp; omega
      · have := hS x (p - 1) x0 (by omega) (by omega)
        omega
theorem ins_st {K K' : Int → Int} {f e p k : Int} (hS : SRT K f e) (p0 : f ≤ p) (p1 : p ≤ e) (hl : ∀ x, p ≤ x → x < e → K x < k) (hp : p = f ∨ k < K (p - 1)) (h1 : ∀ j, f ≤ j → j < p → K' j = K j) (h2 : K' p = k) (h3 : ∀ j, p ≤ j → j < e → K' (j + 1) = K j) : SRT K' f (e + 1) := fun x y x0 xy y1 => by
  have hlow : ∀ z, f ≤ z → z < p → k < K z := fun z z0 z1 => by
    rcases hp with hp | hp
    · omega
    · by_cases c : z = p - 1
      · rw [c]; exact hp
      · have := hS z (p - 1) z0 (by omega) (by omega)
        omega
  have e3 : ∀ j, p < j → j ≤ e → K' j = K (j - 1) := fun j j0 j1 => by
    have := h3 (j - 1) (by omega) (by omega)
    rw [show j - 1 + 1 = j by omega] at this
    exact this
  by_cases cx : x < p
  · rw [h1 x x0 cx]
    have hx := hlow x x0 cx
    by_cases cy : y < p
    · rw [h1 y (by omega) cy]; exact hS x y x0 xy (by omega)
    · by_cases cy2 : y = p
      · rw [cy2, h2]; exact hx
      · rw [e3 y (by omega) (by omega)]
        have := hl (y - 1) (by omega) (by omega)
        omega
  · by_cases cx2 : x = p
    · rw [cx2, h2, e3 y (by omega) (by omega)]
      exact hl (y - 1) (by omega) (by omega)
    · rw [e3 x (by omega) (by omega), e3 y (by omega) (by omega)]
      exact hS (x - 1) (y - 1) (by omega) (by omega) (by omega)
end
section
theorem rmo_of {mt F K U K' : Int → Int} {n b k : Int} {M : Nat → Nat → Int} (hn : 0 ≤ n ∧ n ≤ 6) (H : RTI mt n (b - 1) F K U) (b1 : 1 ≤ b) (hS : ∀ q, 1 ≤ q → q ≤ b - 1 → SRT K (F q) (F (q + 1))) (hR : ∀ x, 0 ≤ x → x < F b → RTp M n.toNat (dgv (K x))) (e : ∀ j, j < F b → K' j = K j) (hS' : SRT K' (F b) 400) (hK' : ∀ y, F b ≤ y → y < 400 → KOK n b (K' y) ∧ RTp M n.toNat (dgv (K' y))) (hk : KOK n b k) (hkr : RTp M n.toNat (dgv k)) (hno : ∀ y, F b ≤ y → y < 400 → K' y ≠ k) : RMo M n.toNat b := by
  have hq : ∀ j, 0 ≤ j → j < 400 → ∃ q, (1 ≤ q ∧ q ≤ b) ∧ KOK n q (K' j) ∧ RTp M n.toNat (dgv (K' j)) ∧ ((q = b ∧ F b ≤ j) ∨ (q < b ∧ F q ≤ j ∧ j < F (q + 1) ∧ j < F b)) := fun j j0 j1 => by
    by_cases c : F b ≤ j
    · exact ⟨b, by omega, (hK' j c j1).1, (hK' j c j1).2, Or.inl ⟨rfl, c⟩⟩
    · obtain ⟨q, q1, q2, q3, q4⟩ := H.find (b - 1).toNat j (by omega) j0 (by rw [Int.toNat_of_nonneg (by omega), show b - 1 + 1 = b by omega]; omega)
      have hk9 := H.kok q1 (by omega) q3 q4
      refine ⟨q, by omega, by rw [e j (by omega)]; exact hk9, by rw [e j (by omega)]; exact hR j j0 (by omega), Or.inr ⟨by omega, q3, q4, by omega⟩⟩
  have hne : ∀ i j, 0 ≤ i → i < j → j < 400 → K' i ≠ K' j := fun i j i0 ij j1 h => by
    obtain ⟨q, qa, qb, -, qd⟩ := hq i i0 (by omega)
    obtain ⟨p, pa, pb, -, pd⟩ := hq j (by omega) j1
    have e1 := dgv_sm hn qb
    have e2 := dgv_sm hn pb
    rw [h] at e1
    have eqp : q = p := e1.symm.trans e2
    subst eqp
    rcases qd with ⟨q1, q2⟩ | ⟨q1, q2, q3, q4⟩
    · have := hS' i j (by rw [← q1] at q2 ⊢; exact q2) ij j1
      omega
    · rcases pd with ⟨p1, p2⟩ | ⟨p1, p2, p3, p4⟩
      · omega
      · have := hS q (by omega) (by omega) i j q2 ij p3
        rw [e i (by omega), e j (by omega)] at h
        omega
  refine ⟨((List.range 400).map (fun (j : Nat) => dgv (K' (j : Int)))) ++ [dgv k], ?_, by simp, fun x hx => ?_⟩
  · rw [List.nodup_append]
    refine ⟨?_, List.nodup_cons.mpr ⟨by simp, List.nodup_nil⟩, fun a ha b9 hb9 => ?_⟩
    · rw [List.nodup_iff_pairwise_ne, List.pairwise_map]
      refine List.Pairwise.imp_of_mem ?_ (List.nodup_iff_pairwise_ne.mp (List.nodup_range (n := 400)))
      intro i j hi hj hij h
      have hi := List.mem_range.mp hi
      have hj := List.mem_range.mp hj
      obtain ⟨q, qa, qb, -⟩ := hq (i : Int) (by omega) (by omega)
      obtain ⟨p, pa, pb, -⟩ := hq (j : Int) (by omega) (by omega)
      have h9 := dg_inj qb.1 pb.1 h
      rcases Nat.lt_or_gt_of_ne hij with c | c
      · exact hne i j (by omega) (by omega) (by omega) h9
      · exact hne j i (by omega) (by omega) (by omega) h9.symm
    · obtain ⟨i, hi, rfl⟩ := List.mem_map.mp ha
      have hi := List.mem_range.mp hi
      rw [List.mem_singleton.mp hb9]
      intro h
      obtain ⟨q, qa, qb, -, qd⟩ := hq (i : Int) (by omega) (by omega)
      have h9 := dg_inj qb.1 hk.1 h
      have e1 := dgv_sm hn qb
      have e2 := dgv_sm hn hk
      rw [h9] at e1
      have eqp : q = b := e1.symm.trans e2
      rcases qd with ⟨q1, q2⟩ | ⟨q1, -⟩
      · exact hno _ q2 (by omega) h9
      · omega
  · rcases List.mem_append.mp hx with hx | hx
    · obtain ⟨i, hi, rfl⟩ := List.mem_map.mp hx
      have hi := List.mem_range.mp hi
      obtain ⟨q, qa, qb, qc, -⟩ := hq (i : Int) (by omega) (by omega)
      exact ⟨qc, by rw [dgv_sm hn qb]; exact qa.2⟩
    · rw [List.mem_singleton.mp hx]
      exact ⟨hkr, by rw [dgv_sm hn hk]; exact Int.le_refl _⟩
/-- the class's roots are what turns up, in their order -/
def RLXp (M : Nat → Nat → Int) (n : Nat) (S : wSt) : Prop := (∀ q, 1 ≤ q → q ≤ S 12 0 4 → SRT (S 13 0) (S 15 0 q) (S 15 0 (q + 1))) ∧ (∀ x, 0 ≤ x → x < S 15 0 (S 12 0 4 + 1) → RTp M n (dgv (S 13 0 x))) ∧ (S 12 0 5 = 1 → RMo M n (S 12 0 4 + 1))
def RLX (S : wSt) : Prop := RLXp (mxz (S 5 16)) (S 3 16 2).toNat S
theorem RLXp.keep {M : Nat → Nat → Int} {n : Nat} {S W : wSt} (h : RLXp M n S) (hC : CI S) (e12 : ∀ j, W 12 0 j = S 12 0 j) (e15 : ∀ j, W 15 0 j = S 15 0 j) (e13 : ∀ x, x < S 15 0 (S 12 0 4 + 1) → W 13 0 x = S 13 0 x) : RLXp M n W := by
  have hl := hC.rl.1
  have hT := hC.rl.2.2
  unfold RLXp
  rw [e12, e12, show W 15 0 = S 15 0 from funext e15]
  refine ⟨fun q q1 q2 => (h.1 q q1 q2).eq (fun x x0 x1 => e13 x ?_), fun x x0 x1 => by rw [e13 x x1]; exact h.2.1 x x0 x1, h.2.2⟩
  have := hT.mono (q := q + 1) (r := S 12 0 4 + 1) (by omega) (by omega) (by omega)
  omega
theorem RLX.fr {S W : wSt} (f : Fr fRt S W) (h : RLXp (mxz (S 5 16)) (S 3 16 2).toNat W) : RLX W := by
  unfold RLX
  rw [show W 5 16 = S 5 16 from funext (fun j => f 5 16 j (by unfold fRt; omega)), f 3 16 2 (by unfold fRt; omega)]
  exact h
theorem RLX.bk {S W W' : wSt} (f : Fr fRt S W) (h : RLXp (mxz (W 5 16)) (W 3 16 2).toNat W') : RLXp (mxz (S 5 16)) (S 3 16 2).toNat W' := by
  rw [← show W 5 16 = S 5 16 from funext (fun j => f 5 16 j (by unfold fRt; omega)), ← f 3 16 2 (by unfold fRt; omega)]
  exact h
/-- the keys from fb to g, of height b, so far -/
def TBY (M : Nat → Nat → Int) (n : Nat) (K : Int → Int) (fb g b : Int) : Prop := (g ≠ -3 → SRT K fb g ∧ ∀ y, fb ≤ y → y < g → RTp M n (dgv (K y))) ∧ (g = -3 → RMo M n b)
def IXS (K K' : Int → Int) (f e r k : Int) : Prop := (r = -3 → ∀ x, f ≤ x → x < e → K x ≠ k) ∧ (r ≠ -3 → SRT K' f r)
theorem TBY.ins {M : Nat → Nat → Int} {n : Nat} {K K' : Int → Int} {fb g r b k : Int} (h : TBY M n K fb g b) (hg : 0 ≤ g) (hI : INS K K' fb g r k) (hX : IXS K K' fb g r k) (hkr : RTp M n (dgv k)) (hful : r = -3 → g = 400 → (∀ y, fb ≤ y → y < 400 → K y ≠ k) → RMo M n b) : TBY M n K' fb r b := by
  obtain ⟨h1, h2⟩ := h.1 (by omega)
  refine ⟨fun q => ⟨hX.2 q, fun y y0 y1 => ?_⟩, fun q => ?_⟩
  · have hI2 := hI.2.resolve_left (fun z => q z.1)
    rcases hI2.2.2.2.2 y y0 y1 with e | ⟨x, x0, x1, e⟩
    · rw [e]; exact hkr
    · rw [e]; exact h2 x x0 x1
  · have e4 : g = 400 := by
      rcases hI.2 with z | z
      · exact z.2
      · have z1 := z.1
        omega
    exact hful q e4 (fun y y0 y1 => hX.1 q y y0 (by omega))
theorem RLXp.grow {M : Nat → Nat → Int} {n : Nat} {S W : wSt} {a e : Int} (h : RLXp M n S) (hC : CI S) (hh : S 12 0 4 = a - 1) (a1 : 1 ≤ a) (e4 : W 12 0 4 = a) (e5 : W 12 0 5 = S 12 0 5) (e15 : ∀ j, j ≤ a → W 15 0 j = S 15 0 j) (ee : W 15 0 (a + 1) = e) (e13 : ∀ x, x < S 15 0 a → W 13 0 x = S 13 0 x) (hT : TBY M n (W 13 0) (S 15 0 a) e a) (he : e ≠ -3) : RLXp M n W := by
  obtain ⟨g1, g2⟩ := hT.1 he
  have hl := hC.rl.1
  have hR := hC.rl.2.2
  unfold RLXp
  rw [e4, e5]
  refine ⟨fun q q1 q2 => ?_, fun x x0 x1 => ?_, fun q => ?_⟩
  · by_cases c : q = a
    · rw [c, ee, e15 a (Int.le_refl _)]; exact g1
    · rw [e15 q q2, e15 (q + 1) (by omega)]
      refine (h.1 q q1 (by omega)).eq (fun x x0 x1 => e13 x ?_)
      have := hR.mono (q := q + 1) (r := a) (by omega) (by omega) (by omega)
      omega
  · rw [ee] at x1
    by_cases c : x < S 15 0 a
    · rw [e13 x c]
      exact h.2.1 x x0 (by rw [hh, show a - 1 + 1 = a by omega]; exact c)
    · exact g2 x (by omega) x1
  · have := h.2.2 q
    rw [hh] at this
    exact this.mono (by omega)
theorem RTI_all {mt F K U : Int → Int} {n h : Int} (hn : 0 ≤ n ∧ n ≤ 6) (H : RTI mt n h F K U) (hz : ∀ i, 0 ≤ i → i < n → mt (6 * i + i) = 0) (h40 : h ≤ 40) {x : Nat → Int} (hx : RTp (mxz mt) n.toNat x) : (∀ j, 0 ≤ x j) ∧ 1 ≤ sm n.toNat x ∧ (sm n.toNat x ≤ h → ∃ y, (F (sm n.toNat x) ≤ y ∧ y < F (sm n.toNat x + 1)) ∧ dgv (K y) = x) := by
  refine RTp.ind (P := fun x => (∀ j, 0 ≤ x j) ∧ 1 ≤ sm n.toNat x ∧ (sm n.toNat x ≤ h → ∃ y, (F (sm n.toNat x) ≤ y ∧ y < F (sm n.toNat x + 1)) ∧ dgv (K y) = x)) hx (fun i hi => ?_) (fun x i _ hi hp ih => ?_)
  · skip
    have e1 : sm n.toNat (ownV i) = 1 := by
      have := sm_own (n := n.toNat) (i := i) (fun _ => 1) hi
      simp only [Int.one_mul] at this
      exact this
    refine ⟨fun j => by unfold ownV; split <;> omega, by omega, fun hs => ?_⟩
    rw [e1] at hs ⊢
    obtain ⟨y, a, b, c⟩ := H.2.2.2.2.1 hs (i : Int) (by omega) (by omega)
    refine ⟨y, ⟨by rw [H.1]; exact a, b⟩, ?_⟩
    funext j
    unfold dgv ownV
    by_cases hj : j < 6
    · rw [if_pos hj, c _ (by omega) (by omega)]
      by_cases q : j = i
      · rw [if_pos q, if_pos (by omega)]
      · rw [if_neg q, if_neg (by omega)]
    · rw [if_neg hj, if_neg (by omega)]
  · skip
    obtain ⟨i1, i2, i3⟩ := ih
    have es := sm_rfx (M := mxz mt) (x := x) hi
    refine ⟨fun j => ?_, by omega, fun hs => ?_⟩
    · unfold rfx
      split
      · rename_i e; have := i1 i; omega
      · exact i1 j
    · obtain ⟨y, ⟨y0, y1⟩, hy⟩ := i3 (by omega)
      generalize hq : sm n.toNat x = q at *
      have hk := H.kok i2 (by omega) y0 y1
      obtain ⟨-, -, -, -, k5⟩ := H.2.2.2.1 q y i2 (by omega) y0 y1
      have hup := k5 (i : Int) (by omega) (by omega)
      have hri : -2 * dg (K y) (i : Int) + sm n.toNat (fun j => mt (6 * (i : Int) + (j : Int)) * dg (K y) (j : Int)) = - prg (mxz mt) n.toNat x i := by
        have ev : ∀ b : Nat, b < 6 → dg (K y) (b : Int) = x b := fun b hb => by rw [← hy]; unfold dgv; rw [if_pos hb]
        unfold prg
        rw [ev i (by omega), sm_congr (g := fun j => mxz mt i j * x j) (fun j hj => by rw [ev j (by omega)]; rfl)]
        omega
      unfold upv at hup
      rw [hri, if_pos (by omega)] at hup
      obtain ⟨z, z0, z1, z2⟩ := H.2.2.2.2.2 q (q + - prg (mxz mt) n.toNat x i) y (i : Int) i2 (by omega) (by omega) y0 y1 (by omega) (by omega) (by omega)
      refine ⟨z, by rw [es, show q - prg (mxz mt) n.toNat x i = q + - prg (mxz mt) n.toNat x i by omega]; exact ⟨z0, z1⟩, ?_⟩
      funext b
      by_cases hb : b < 6
      · have ez : dgv (K z) b = dg (K z) (b : Int) := by unfold dgv; rw [if_pos hb]
        have ey : dg (K y) (b : Int) = x b := by rw [← hy]; unfold dgv; rw [if_pos hb]
        rw [ez, z2 _ (by omega) (by omega), ey]
        unfold rfx
        by_cases e : b = i
        · rw [if_pos e, if_pos (by omega), e]; omega
        · rw [if_neg e, if_neg (by omega)]; omega
      · have ez : dgv (K z) b = 0 := by unfold dgv; rw [if_neg hb]
        have ey : x b = 0 := by rw [← hy]; unfold dgv; rw [if_neg hb]
        rw [ez]
        unfold rfx
        rw [if_neg (by omega), ey]
theorem RLX.of {S W : wSt} (h : RLX S) (e : ∀ k i j, k = 5 ∨ k = 3 ∨ k = 12 ∨ k = 13 ∨ k = 15 → W k i j = S k i j) : RLX W := by
  have a (k : Nat) (i : Int) (hk : k = 5 ∨ k = 3 ∨ k = 12 ∨ k = 13 ∨ k = 15) : W k i = S k i := funext fun j => e k i j hk
  unfold RLX RLXp
  rw [a 5 16 (by decide), a 3 16 (by decide), a 12 0 (by decide), a 13 0 (by decide), a 15 0 (by decide)]
  exact h
theorem RLX.new {S : wSt} (h4 : S 12 0 4 = 0) (h5 : S 12 0 5 = 0) (h15 : S 15 0 1 = 0) : RLX S := by
  unfold RLX RLXp
  rw [h4, h5]
  refine ⟨fun q a b => by omega, fun x a b => ?_, fun q => absurd q (by decide)⟩
  rw [show (0 : Int) + 1 = 1 from rfl, h15] at b
  omega
end
section
theorem RLXp.full {M : Nat → Nat → Int} {n : Nat} {S W : wSt} (h : RLXp M n S) (hC : CI S) (e4 : W 12 0 4 = S 12 0 4) (e15 : ∀ j, W 15 0 j = S 15 0 j) (e13 : ∀ x, x < S 15 0 (S 12 0 4 + 1) → W 13 0 x = S 13 0 x) (hm : RMo M n (S 12 0 4 + 1)) : RLXp M n W := by
  have hl := hC.rl.1
  have hT := hC.rl.2.2
  unfold RLXp
  rw [e4, show W 15 0 = S 15 0 from funext e15]
  refine ⟨fun q q1 q2 => (h.1 q q1 q2).eq (fun x x0 x1 => e13 x ?_), fun x x0 x1 => by rw [e13 x x1]; exact h.2.1 x x0 x1, fun _ => hm⟩
  have := hT.mono (q := q + 1) (r := S 12 0 4 + 1) (by omega) (by omega) (by omega)
  omega
theorem TBY.bk {S W : wSt} {K : Int → Int} {a g b : Int} (f : Fr fRt S W) (e : W 15 0 a = S 15 0 a) (h : TBY (mxz (W 5 16)) (W 3 16 2).toNat K (W 15 0 a) g b) : TBY (mxz (S 5 16)) (S 3 16 2).toNat K (S 15 0 a) g b := by
  rw [← show W 5 16 = S 5 16 from funext (fun j => f 5 16 j (by unfold fRt; omega)), ← f 3 16 2 (by unfold fRt; omega), ← e]
  exact h
theorem TBY.fw {S W : wSt} {K : Int → Int} {a g b : Int} (f : Fr fRt S W) (e : W 15 0 a = S 15 0 a) (h : TBY (mxz (S 5 16)) (S 3 16 2).toNat K (S 15 0 a) g b) : TBY (mxz (W 5 16)) (W 3 16 2).toNat K (W 15 0 a) g b := by
  rw [show W 5 16 = S 5 16 from funext (fun j => f 5 16 j (by unfold fRt; omega)), f 3 16 2 (by unfold fRt; omega), e]
  exact h
theorem ups_no {S : wSt} {mt : Int → Int} {n : Int} (hn : 0 ≤ n ∧ n ≤ 6) (hz : ∀ i, i < n.toNat → mxz mt i i = 0) (H : RTI mt n (S 12 0 4) (S 15 0) (S 13 0) (S 14 0)) (h : RLXp (mxz mt) n.toNat S) (h12 : 12 ≤ S 12 0 4) {x i : Int} (x0 : 0 ≤ x) (x1 : x < S 15 0 12) (i0 : 0 ≤ i) (i1 : i < n) (hu : 11 < dg (S 14 0 x) i) {L : List (Nat → Int)} (hL : EndL (mxz mt) n.toNat L) : False := by
  obtain ⟨q, q1, q2, q3, q4⟩ := H.find 11 x (by omega) x0 x1
  have hk := H.kok q1 (by omega) q3 q4
  obtain ⟨-, -, -, -, k5⟩ := H.2.2.2.1 q x q1 (by omega) q3 q4
  have hup := k5 i i0 i1
  have hm := H.mono (q := 12) (r := S 12 0 4 + 1) (by omega) (by omega) (by omega)
  have hr := h.2.1 x x0 (by omega)
  have hri : -2 * dg (S 13 0 x) i + sm n.toNat (fun j => mt (6 * i + (j : Int)) * dg (S 13 0 x) (j : Int)) = - prg (mxz mt) n.toNat (dgv (S 13 0 x)) i.toNat := by
    unfold prg
    have e1 : dgv (S 13 0 x) i.toNat = dg (S 13 0 x) i := by unfold dgv; rw [if_pos (by omega), Int.toNat_of_nonneg i0]
    rw [e1, sm_congr (g := fun j => mxz mt i.toNat j * dgv (S 13 0 x) j) (fun j hj => by unfold dgv mxz; rw [if_pos (by omega), Int.toNat_of_nonneg i0])]
    omega
  unfold upv at hup
  rw [hri] at hup
  have hneg : prg (mxz mt) n.toNat (dgv (S 13 0 x)) i.toNat < 0 ∧ 11 < q - prg (mxz mt) n.toNat (dgv (S 13 0 x)) i.toNat := by
    split at hup <;> omega
  have h5 := (RTp.up _ _ hr (show i.toNat < n.toNat by omega) hneg.1).inL hz hL.1
  have h6 := (hL.2 _ h5).1
  rw [sm_rfx (by omega), dgv_sm hn hk] at h6
  omega
end
section
set_option maxHeartbeats 4000000 in
set_option maxRecDepth 100000 in
theorem f_X4_insert {g : wG} (hD : wD g) {S : wSt} {k f e : Int} (k0 : 0 ≤ k) (k1 : k < 68719476736) (f0 : 0 ≤ f) (f1 : f ≤ e) (e1 : e ≤ 400) (hK : ∀ x, f ≤ x → x < e → 0 ≤ S 13 0 x ∧ S 13 0 x < 68719476736) (hS : SRT (S 13 0) f e) (l : Launch) : Kt l yX4_insert wsX4_insert ({ frames := 1, cells := 0, slots := 0, locals := 26 } : Room) g S [vr g 12 0, vl k, vi f, vi e] (pI (fun r S' => Fr fK13 S S' ∧ INS (S 13 0) (S' 13 0) f e r k ∧ IXS (S 13 0) (S' 13 0) f e r k)) := by
  refine Kt.of (cc := cX4_insert) (nL := 6) (ret := (some .int)) (own := RX4) rfl hD (by decide) rfl (Nat.le_of_ble_eq_true rfl) ⟨rfl, rfl⟩ ?_
  intro E hC hR9
  have f11 : Cond.fieldLink RX4 11 "MirrorBench$RootList" "keys" "[J" ∈ wsX4_insert := by decide +kernel
  have w4 : ∀ w ∈ wsX40, w ∈ wsX4_insert := by decide +kernel
  show Wk E g 6 S 0 [(0, vr g 12 0), (1, vl k), (3, vi f), (4, vi e)] []
  have hfS : Fr fK13 S S := Fr.rfl _ S
  refine kw_iload hC dX4_insert_0 rfl 3 rfl ?_
  refine kw_istore (lv' := [(5, _), (0, _), (1, _), (3, _), (4, _)]) hC dX4_insert_2 rfl (by decide) rfl ?_
  have hL4 : ∀ (n4 : Nat) (p : Int), (f ≤ p) → (p ≤ e) → (∀ x, p ≤ x → x < e → S 13 0 x < k) → p < (n4 : Int) → Wk E g 6 S 4 [(0, vr g 12 0), (1, vl k), (3, vi f), (4, vi e), (5, vi p)] [] := by
    intro n4
    induction n4 with
    | zero => intro p p0 p1 hlt hm4; exact absurd hm4 (by omega)
    | succ n4 ih4 =>
      intro p p0 p1 hlt hm4
      refine kw_iload hC dX4_insert_4 rfl 4 rfl ?_
      refine kw_iload_n hC dX4_insert_6 rfl 2 rfl ?_
      refine kw_icmp_le (tgt := 30) hC dX4_insert_7 rfl (by decide) (by omega) (by omega) ⟨fun c7 => ?_, fun c7 => ?_⟩
      · refine kw_iload hC dX4_insert_30 rfl 4 rfl ?_
        refine kw_iload_n hC dX4_insert_32 rfl 2 rfl ?_
        refine kw_icmp_le (tgt := 53) hC dX4_insert_33 rfl (by decide) (by omega) (by omega) ⟨fun c33 => ?_, fun c33 => ?_⟩
        · refine kw_iload hC dX4_insert_53 rfl 3 rfl ?_
          refine kw_sipush hC dX4_insert_55 rfl (by decide) ?_
          refine kw_icmp_ne (tgt := 64) hC dX4_insert_58 rfl (by decide) (by omega) (by omega) ⟨fun c58 => ?_, fun c58 => ?_⟩
          · refine kw_aload_n hC dX4_insert_64 rfl 0 rfl ?_
            refine kg_12_1 hC w4 f11 dX4_insert_65 rfl (by decide) (by decide) ?_
            refine kw_iload hC dX4_insert_68 rfl 4 rfl ?_
            refine kw_aload_n hC dX4_insert_70 rfl 0 rfl ?_
            refine kg_12_1 hC w4 f11 dX4_insert_71 rfl (by decide) (by decide) ?_
            refine kw_iload hC dX4_insert_74 rfl 4 rfl ?_
            refine kw_iconst hC dX4_insert_76 rfl ?_
            refine kw_iadd hC dX4_insert_77 rfl ?_
            refine kw_iload hC dX4_insert_78 rfl 3 rfl ?_
            refine kw_iload hC dX4_insert_80 rfl 4 rfl ?_
            refine kw_isub hC dX4_insert_82 rfl ?_
            refine kw_copyl (k0 := 13) (k1 := 13) (n0 := 400) (n1 := 400) hC (by decide +kernel) (by decide +kernel) (by decide +kernel) (by decide +kernel) (by decide) (Nat.le_of_ble_eq_true rfl) (fun _ => rfl) (fun _ => rfl) (by decide) (by decide) (by decide) (by decide) (by decide) (by decide) (by omega) (by omega) (by omega) (by omega) (by omega) dX4_insert_83 rfl ?_
            refine kw_hc hfS (fun j => by unfold fK13; omega) (fun S4 hfS4 hvC hoC => ?_)
            have hvK := hvC
            have hoK := hoC
            refine kw_aload_n hC dX4_insert_86 rfl 0 rfl ?_
            refine kg_12_1 hC w4 f11 dX4_insert_87 rfl (by decide) (by decide) ?_
            refine kw_iload hC dX4_insert_90 rfl 4 rfl ?_
            refine kw_lload_n hC dX4_insert_92 rfl 1 rfl ?_
            refine ks_13 hC dX4_insert_93 rfl (by decide) (by decide) (by omega) (by omega) ?_
            refine kw_hv hfS4 (by unfold fK13; omega) (fun S5 hfS5 hv5 ho5 => ?_)
            refine kw_iload hC dX4_insert_94 rfl 3 rfl ?_
            refine kw_iconst hC dX4_insert_96 rfl ?_
            refine kw_iadd hC dX4_insert_97 rfl ?_
            exact hR9.1 rfl _ _ _ _ dX4_insert_98 ⟨_, rfl, hfS5, ⟨fun j hj => by rw [ho5 13 0 j (by omega), hoK 13 0 j (by omega)], Or.inr ⟨Or.inr rfl, by omega, ⟨p, by omega, by omega, hv5⟩, fun x x0 x1 => by rcases Decidable.em (x < p) with q | q; exact ⟨x, x0, by omega, by rw [ho5 13 0 x (by omega), hoK 13 0 x (by omega)]⟩; exact ⟨x + 1, by omega, by omega, by rw [ho5 13 0 _ (by omega), hvK _ (by omega) (by omega), show p + (x + 1 - (p + 1)) = x by omega]⟩, fun y y0 y1 => by rcases Decidable.em (y < p) with q | q; exact Or.inr ⟨y, y0, by omega, by rw [ho5 13 0 y (by omega), hoK 13 0 y (by omega)]⟩; rcases Decidable.em (y = p) with q2 | q2; exact Or.inl (by rw [q2]; exact hv5); exact Or.inr ⟨y - 1, by omega, by omega, by rw [ho5 13 0 y (by omega), hvK y (by omega) (by omega), show p + (y - (p + 1)) = y - 1 by omega]⟩⟩⟩, ⟨fun q => by omega, fun _ => ins_st hS p0 p1 hlt (by omega) (fun j j0 j1 => by rw [ho5 13 0 j (by omega), hoK 13 0 j (by omega)]) hv5 (fun j j0 j1 => by rw [ho5 13 0 _ (by omega), hvK _ (by omega) (by omega), show p + (j + 1 - (p + 1)) = j by omega])⟩⟩
          · refine kw_bipush hC dX4_insert_61 rfl (by decide) ?_
            exact hR9.1 rfl _ _ _ _ dX4_insert_63 ⟨_, rfl, hfS, ⟨fun _ _ => rfl, Or.inl ⟨rfl, by omega⟩⟩, ⟨fun _ => ins_no hS p1 hlt (by omega), fun q => absurd rfl q⟩⟩
        · refine kw_aload_n hC dX4_insert_36 rfl 0 rfl ?_
          refine kg_12_1 hC w4 f11 dX4_insert_37 rfl (by decide) (by decide) ?_
          refine kw_iload hC dX4_insert_40 rfl 4 rfl ?_
          refine kw_iconst hC dX4_insert_42 rfl ?_
          refine kw_isub hC dX4_insert_43 rfl ?_
          refine ka_13 hC dX4_insert_44 rfl (by decide) (by decide) (by omega) (by omega) ?_
          have hk9 := hK (p - 1) (by omega) (by omega)
          refine kw_lload_n hC dX4_insert_45 rfl 1 rfl ?_
          refine kw_lcmp hC dX4_insert_46 rfl (by omega) (by omega) ?_
          refine kw_if_ne (tgt := 53) hC dX4_insert_47 rfl (by decide) (cz_r _ _) ⟨fun c47 => ?_, fun c47 => ?_⟩
          · replace c47 := (cz_ne _ _).mp c47
            refine kw_iload hC dX4_insert_53 rfl 3 rfl ?_
            refine kw_sipush hC dX4_insert_55 rfl (by decide) ?_
            refine kw_icmp_ne (tgt := 64) hC dX4_insert_58 rfl (by decide) (by omega) (by omega) ⟨fun c58 => ?_, fun c58 => ?_⟩
            · refine kw_aload_n hC dX4_insert_64 rfl 0 rfl ?_
              refine kg_12_1 hC w4 f11 dX4_insert_65 rfl (by decide) (by decide) ?_
              refine kw_iload hC dX4_insert_68 rfl 4 rfl ?_
              refine kw_aload_n hC dX4_insert_70 rfl 0 rfl ?_
              refine kg_12_1 hC w4 f11 dX4_insert_71 rfl (by decide) (by decide) ?_
              refine kw_iload hC dX4_insert_74 rfl 4 rfl ?_
              refine kw_iconst hC dX4_insert_76 rfl ?_
              refine kw_iadd hC dX4_insert_77 rfl ?_
              refine kw_iload hC dX4_insert_78 rfl 3 rfl ?_
              refine kw_iload hC dX4_insert_80 rfl 4 rfl ?_
              refine kw_isub hC dX4_insert_82 rfl ?_
              refine kw_copyl (k0 := 13) (k1 := 13) (n0 := 400) (n1 := 400) hC (by decide +kernel) (by decide +kernel) (by decide +kernel) (by decide +kernel) (by decide) (Nat.le_of_ble_eq_true rfl) (fun _ => rfl) (fun _ => rfl) (by decide) (by decide) (by decide) (by decide) (by decide) (by decide) (by omega) (by omega) (by omega) (by omega) (by omega) dX4_insert_83 rfl ?_
              refine kw_hc hfS (fun j => by unfold fK13; omega) (fun S8 hfS8 hvC hoC => ?_)
              have hvK := hvC
              have hoK := hoC
              refine kw_aload_n hC dX4_insert_86 rfl 0 rfl ?_
              refine kg_12_1 hC w4 f11 dX4_insert_87 rfl (by decide) (by decide) ?_
              refine kw_iload hC dX4_insert_90 rfl 4 rfl ?_
              refine kw_lload_n hC dX4_insert_92 rfl 1 rfl ?_
              refine ks_13 hC dX4_insert_93 rfl (by decide) (by decide) (by omega) (by omega) ?_
              refine kw_hv hfS8 (by unfold fK13; omega) (fun S9 hfS9 hv9 ho9 => ?_)
              refine kw_iload hC dX4_insert_94 rfl 3 rfl ?_
              refine kw_iconst hC dX4_insert_96 rfl ?_
              refine kw_iadd hC dX4_insert_97 rfl ?_
              exact hR9.1 rfl _ _ _ _ dX4_insert_98 ⟨_, rfl, hfS9, ⟨fun j hj => by rw [ho9 13 0 j (by omega), hoK 13 0 j (by omega)], Or.inr ⟨Or.inr rfl, by omega, ⟨p, by omega, by omega, hv9⟩, fun x x0 x1 => by rcases Decidable.em (x < p) with q | q; exact ⟨x, x0, by omega, by rw [ho9 13 0 x (by omega), hoK 13 0 x (by omega)]⟩; exact ⟨x + 1, by omega, by omega, by rw [ho9 13 0 _ (by omega), hvK _ (by omega) (by omega), show p + (x + 1 - (p + 1)) = x by omega]⟩, fun y y0 y1 => by rcases Decidable.em (y < p) with q | q; exact Or.inr ⟨y, y0, by omega, by rw [ho9 13 0 y (by omega), hoK 13 0 y (by omega)]⟩; rcases Decidable.em (y = p) with q2 | q2; exact Or.inl (by rw [q2]; exact hv9); exact Or.inr ⟨y - 1, by omega, by omega, by rw [ho9 13 0 y (by omega), hvK y (by omega) (by omega), show p + (y - (p + 1)) = y - 1 by omega]⟩⟩⟩, ⟨fun q => by omega, fun _ => ins_st hS p0 p1 hlt (by omega) (fun j j0 j1 => by rw [ho9 13 0 j (by omega), hoK 13 0 j (by omega)]) hv9 (fun j j0 j1 => by rw [ho9 13 0 _ (by omega), hvK _ (by omega) (by omega), show p + (j + 1 - (p + 1)) = j by omega])⟩⟩
            · refine kw_bipush hC dX4_insert_61 rfl (by decide) ?_
              exact hR9.1 rfl _ _ _ _ dX4_insert_63 ⟨_, rfl, hfS, ⟨fun _ _ => rfl, Or.inl ⟨rfl, by omega⟩⟩, ⟨fun _ => ins_no hS p1 hlt (by omega), fun q => absurd rfl q⟩⟩
          · replace c47 := (not_congr (cz_ne _ _)).mp c47
            refine kw_iload hC dX4_insert_50 rfl 3 rfl ?_
            exact hR9.1 rfl _ _ _ _ dX4_insert_52 ⟨_, rfl, hfS, ⟨fun _ _ => rfl, Or.inr ⟨Or.inl rfl, e1, ⟨p - 1, by omega, by omega, by omega⟩, fun x x0 x1 => ⟨x, x0, x1, rfl⟩, fun y y0 y1 => Or.inr ⟨y, y0, y1, rfl⟩⟩⟩, ⟨fun q => by omega, fun _ => hS⟩⟩
      · refine kw_aload_n hC dX4_insert_10 rfl 0 rfl ?_
        refine kg_12_1 hC w4 f11 dX4_insert_11 rfl (by decide) (by decide) ?_
        refine kw_iload hC dX4_insert_14 rfl 4 rfl ?_
        refine kw_iconst hC dX4_insert_16 rfl ?_
        refine kw_isub hC dX4_insert_17 rfl ?_
        refine ka_13 hC dX4_insert_18 rfl (by decide) (by decide) (by omega) (by omega) ?_
        have hk9 := hK (p - 1) (by omega) (by omega)
        have hlt9 : S 13 0 (p - 1) < k → ∀ x, p + -1 ≤ x → x < e → S 13 0 x < k := fun q x x0 x1 => by rcases Decidable.em (x = p - 1) with e9 | e9; exact (by rw [e9]; exact q); exact hlt x (by omega) x1
        refine kw_lload_n hC dX4_insert_19 rfl 1 rfl ?_
        refine kw_lcmp hC dX4_insert_20 rfl (by omega) (by omega) ?_
        refine kw_if_ge (tgt := 30) hC dX4_insert_21 rfl (by decide) (cz_r _ _) ⟨fun c21 => ?_, fun c21 => ?_⟩
        · replace c21 := (cz_ge _ _).mp c21
          refine kw_iload hC dX4_insert_30 rfl 4 rfl ?_
          refine kw_iload_n hC dX4_insert_32 rfl 2 rfl ?_
          refine kw_icmp_le (tgt := 53) hC dX4_insert_33 rfl (by decide) (by omega) (by omega) ⟨fun c33 => ?_, fun c33 => ?_⟩
          · refine kw_iload hC dX4_insert_53 rfl 3 rfl ?_
            refine kw_sipush hC dX4_insert_55 rfl (by decide) ?_
            refine kw_icmp_ne (tgt := 64) hC dX4_insert_58 rfl (by decide) (by omega) (by omega) ⟨fun c58 => ?_, fun c58 => ?_⟩
            · refine kw_aload_n hC dX4_insert_64 rfl 0 rfl ?_
              refine kg_12_1 hC w4 f11 dX4_insert_65 rfl (by decide) (by decide) ?_
              refine kw_iload hC dX4_insert_68 rfl 4 rfl ?_
              refine kw_aload_n hC dX4_insert_70 rfl 0 rfl ?_
              refine kg_12_1 hC w4 f11 dX4_insert_71 rfl (by decide) (by decide) ?_
              refine kw_iload hC dX4_insert_74 rfl 4 rfl ?_
              refine kw_iconst hC dX4_insert_76 rfl ?_
              refine kw_iadd hC dX4_insert_77 rfl ?_
              refine kw_iload hC dX4_insert_78 rfl 3 rfl ?_
              refine kw_iload hC dX4_insert_80 rfl 4 rfl ?_
              refine kw_isub hC dX4_insert_82 rfl ?_
              refine kw_copyl (k0 := 13) (k1 := 13) (n0 := 400) (n1 := 400) hC (by decide +kernel) (by decide +kernel) (by decide +kernel) (by decide +kernel) (by decide) (Nat.le_of_ble_eq_true rfl) (fun _ => rfl) (fun _ => rfl) (by decide) (by decide) (by decide) (by decide) (by decide) (by decide) (by omega) (by omega) (by omega) (by omega) (by omega) dX4_insert_83 rfl ?_
              refine kw_hc hfS (fun j => by unfold fK13; omega) (fun S13 hfS13 hvC hoC => ?_)
              have hvK := hvC
              have hoK := hoC
              refine kw_aload_n hC dX4_insert_86 rfl 0 rfl ?_
              refine kg_12_1 hC w4 f11 dX4_insert_87 rfl (by decide) (by decide) ?_
              refine kw_iload hC dX4_insert_90 rfl 4 rfl ?_
              refine kw_lload_n hC dX4_insert_92 rfl 1 rfl ?_
              refine ks_13 hC dX4_insert_93 rfl (by decide) (by decide) (by omega) (by omega) ?_
              refine kw_hv hfS13 (by unfold fK13; omega) (fun S14 hfS14 hv14 ho14 => ?_)
              refine kw_iload hC dX4_insert_94 rfl 3 rfl ?_
              refine kw_iconst hC dX4_insert_96 rfl ?_
              refine kw_iadd hC dX4_insert_97 rfl ?_
              exact hR9.1 rfl _ _ _ _ dX4_insert_98 ⟨_, rfl, hfS14, ⟨fun j hj => by rw [ho14 13 0 j (by omega), hoK 13 0 j (by omega)], Or.inr ⟨Or.inr rfl, by omega, ⟨p, by omega, by omega, hv14⟩, fun x x0 x1 => by rcases Decidable.em (x < p) with q | q; exact ⟨x, x0, by omega, by rw [ho14 13 0 x (by omega), hoK 13 0 x (by omega)]⟩; exact ⟨x + 1, by omega, by omega, by rw [ho14 13 0 _ (by omega), hvK _ (by omega) (by omega), show p + (x + 1 - (p + 1)) = x by omega]⟩, fun y y0 y1 => by rcases Decidable.em (y < p) with q | q; exact Or.inr ⟨y, y0, by omega, by rw [ho14 13 0 y (by omega), hoK 13 0 y (by omega)]⟩; rcases Decidable.em (y = p) with q2 | q2; exact Or.inl (by rw [q2]; exact hv14); exact Or.inr ⟨y - 1, by omega, by omega, by rw [ho14 13 0 y (by omega), hvK y (by omega) (by omega), show p + (y - (p + 1)) = y - 1 by omega]⟩⟩⟩, ⟨fun q => by omega, fun _ => ins_st hS p0 p1 hlt (by omega) (fun j j0 j1 => by rw [ho14 13 0 j (by omega), hoK 13 0 j (by omega)]) hv14 (fun j j0 j1 => by rw [ho14 13 0 _ (by omega), hvK _ (by omega) (by omega), show p + (j + 1 - (p + 1)) = j by omega])⟩⟩
            · refine kw_bipush hC dX4_insert_61 rfl (by decide) ?_
              exact hR9.1 rfl _ _ _ _ dX4_insert_63 ⟨_, rfl, hfS, ⟨fun _ _ => rfl, Or.inl ⟨rfl, by omega⟩⟩, ⟨fun _ => ins_no hS p1 hlt (by omega), fun q => absurd rfl q⟩⟩
          · refine kw_aload_n hC dX4_insert_36 rfl 0 rfl ?_
            refine kg_12_1 hC w4 f11 dX4_insert_37 rfl (by decide) (by decide) ?_
            refine kw_iload hC dX4_insert_40 rfl 4 rfl ?_
            refine kw_iconst hC dX4_insert_42 rfl ?_
            refine kw_isub hC dX4_insert_43 rfl ?_
            refine ka_13 hC dX4_insert_44 rfl (by decide) (by decide) (by omega) (by omega) ?_
            have hk9 := hK (p - 1) (by omega) (by omega)
            refine kw_lload_n hC dX4_insert_45 rfl 1 rfl ?_
            refine kw_lcmp hC dX4_insert_46 rfl (by omega) (by omega) ?_
            refine kw_if_ne (tgt := 53) hC dX4_insert_47 rfl (by decide) (cz_r _ _) ⟨fun c47 => ?_, fun c47 => ?_⟩
            · replace c47 := (cz_ne _ _).mp c47
              refine kw_iload hC dX4_insert_53 rfl 3 rfl ?_
              refine kw_sipush hC dX4_insert_55 rfl (by decide) ?_
              refine kw_icmp_ne (tgt := 64) hC dX4_insert_58 rfl (by decide) (by omega) (by omega) ⟨fun c58 => ?_, fun c58 => ?_⟩
              · refine kw_aload_n hC dX4_insert_64 rfl 0 rfl ?_
                refine kg_12_1 hC w4 f11 dX4_insert_65 rfl (by decide) (by decide) ?_
                refine kw_iload hC dX4_insert_68 rfl 4 rfl ?_
                refine kw_aload_n hC dX4_insert_70 rfl 0 rfl ?_
                refine kg_12_1 hC w4 f11 dX4_insert_71 rfl (by decide) (by decide) ?_
                refine kw_iload hC dX4_insert_74 rfl 4 rfl ?_
                refine kw_iconst hC dX4_insert_76 rfl ?_
                refine kw_iadd hC dX4_insert_77 rfl ?_
                refine kw_iload hC dX4_insert_78 rfl 3 rfl ?_
                refine kw_iload hC dX4_insert_80 rfl 4 rfl ?_
                refine kw_isub hC dX4_insert_82 rfl ?_
                refine kw_copyl (k0 := 13) (k1 := 13) (n0 := 400) (n1 := 400) hC (by decide +kernel) (by decide +kernel) (by decide +kernel) (by decide +kernel) (by decide) (Nat.le_of_ble_eq_true rfl) (fun _ => rfl) (fun _ => rfl) (by decide) (by decide) (by decide) (by decide) (by decide) (by decide) (by omega) (by omega) (by omega) (by omega) (by omega) dX4_insert_83 rfl ?_
                refine kw_hc hfS (fun j => by unfold fK13; omega) (fun S17 hfS17 hvC hoC => ?_)
                have hvK := hvC
                have hoK := hoC
                refine kw_aload_n hC dX4_insert_86 rfl 0 rfl ?_
                refine kg_12_1 hC w4 f11 dX4_insert_87 rfl (by decide) (by decide) ?_
                refine kw_iload hC dX4_insert_90 rfl 4 rfl ?_
                refine kw_lload_n hC dX4_insert_92 rfl 1 rfl ?_
                refine ks_13 hC dX4_insert_93 rfl (by decide) (by decide) (by omega) (by omega) ?_
                refine kw_hv hfS17 (by unfold fK13; omega) (fun S18 hfS18 hv18 ho18 => ?_)
                refine kw_iload hC dX4_insert_94 rfl 3 rfl ?_
                refine kw_iconst hC dX4_insert_96 rfl ?_
                refine kw_iadd hC dX4_insert_97 rfl ?_
                exact hR9.1 rfl _ _ _ _ dX4_insert_98 ⟨_, rfl, hfS18, ⟨fun j hj => by rw [ho18 13 0 j (by omega), hoK 13 0 j (by omega)], Or.inr ⟨Or.inr rfl, by omega, ⟨p, by omega, by omega, hv18⟩, fun x x0 x1 => by rcases Decidable.em (x < p) with q | q; exact ⟨x, x0, by omega, by rw [ho18 13 0 x (by omega), hoK 13 0 x (by omega)]⟩; exact ⟨x + 1, by omega, by omega, by rw [ho18 13 0 _ (by omega), hvK _ (by omega) (by omega), show p + (x + 1 - (p + 1)) = x by omega]⟩, fun y y0 y1 => by rcases Decidable.em (y < p) with q | q; exact Or.inr ⟨y, y0, by omega, by rw [ho18 13 0 y (by omega), hoK 13 0 y (by omega)]⟩; rcases Decidable.em (y = p) with q2 | q2; exact Or.inl (by rw [q2]; exact hv18); exact Or.inr ⟨y - 1, by omega, by omega, by rw [ho18 13 0 y (by omega), hvK y (by omega) (by omega), show p + (y - (p + 1)) = y - 1 by omega]⟩⟩⟩, ⟨fun q => by omega, fun _ => ins_st hS p0 p1 hlt (by omega) (fun j j0 j1 => by rw [ho18 13 0 j (by omega), hoK 13 0 j (by omega)]) hv18 (fun j j0 j1 => by rw [ho18 13 0 _ (by omega), hvK _ (by omega) (by omega), show p + (j + 1 - (p + 1)) = j by omega])⟩⟩
              · refine kw_bipush hC dX4_insert_61 rfl (by decide) ?_
                exact hR9.1 rfl _ _ _ _ dX4_insert_63 ⟨_, rfl, hfS, ⟨fun _ _ => rfl, Or.inl ⟨rfl, by omega⟩⟩, ⟨fun _ => ins_no hS p1 hlt (by omega), fun q => absurd rfl q⟩⟩
            · replace c47 := (not_congr (cz_ne _ _)).mp c47
              refine kw_iload hC dX4_insert_50 rfl 3 rfl ?_
              exact hR9.1 rfl _ _ _ _ dX4_insert_52 ⟨_, rfl, hfS, ⟨fun _ _ => rfl, Or.inr ⟨Or.inl rfl, e1, ⟨p - 1, by omega, by omega, by omega⟩, fun x x0 x1 => ⟨x, x0, x1, rfl⟩, fun y y0 y1 => Or.inr ⟨y, y0, y1, rfl⟩⟩⟩, ⟨fun q => by omega, fun _ => hS⟩⟩
        · replace c21 := (not_congr (cz_ge _ _)).mp c21
          refine kw_iinc (lv' := [(5, _), (0, _), (1, _), (3, _), (4, _)]) hC dX4_insert_24 rfl 4 rfl (by decide) rfl ?_
          refine kw_goto (tgt := 4) hC dX4_insert_27 rfl (by decide) ?_
          refine kw_lv [1, 2, 3, 4, 0] rfl ?_
          exact ih4 (p + -1) (by omega) (by omega) (hlt9 (by omega)) (by omega)
  refine kw_lv [1, 2, 3, 4, 0] rfl ?_
  exact hL4 401 e (by omega) (by omega) (fun x _ _ => by omega) (by omega)

set_option maxHeartbeats 4000000 in
set_option maxRecDepth 100000 in
theorem f_X4_insertTurned {g : wG} (hD : wD g) {S : wSt} {a b c : Int} (hRS : CI S) (a0 : 1 ≤ a) (a1 : a < b) (b1 : b ≤ 40) (hh : S 12 0 4 = b - 1) (c0 : S 15 0 b ≤ c) (c1 : c ≤ 400) (hn9 : ∀ y, S 15 0 b ≤ y → y < c → KOK (S 3 16 2) b (S 13 0 y)) (hRX : RLX S) (hTY : TBY (mxz (S 5 16)) (S 3 16 2).toNat (S 13 0) (S 15 0 b) c b) (l : Launch) : Kt l yX4_insertTurned wsX4_insertTurned ({ frames := 2, cells := 0, slots := 0, locals := 51 } : Room) g S [vr g 12 0, vi a, vi b, vi c] (pI (fun r S' => Fr fK13 S S' ∧ TB S S' a b c r (S 15 0 (a + 1)) 0 ∧ TBY (mxz (S 5 16)) (S 3 16 2).toNat (S' 13 0) (S 15 0 b) r b)) := by
  refine Kt.of (cc := cX4_insertTurned) (nL := 7) (ret := (some .int)) (own := RX4) rfl hD (by decide) rfl (Nat.le_of_ble_eq_true rfl) ⟨rfl, rfl⟩ ?_
  intro E hC hR9
  have f11 : Cond.fieldLink RX4 11 "MirrorBench$RootList" "keys" "[J" ∈ wsX4_insertTurned := by decide +kernel
  have f15 : Cond.fieldLink RX4 15 "MirrorBench$RootList" "ups" "[J" ∈ wsX4_insertTurned := by decide +kernel
  have f18 : Cond.fieldLink RX4 18 "MirrorBench$RootList" "firsts" "[I" ∈ wsX4_insertTurned := by decide +kernel
  have f22 : Cond.fieldLink RX4 22 "MirrorBench$RootList" "set" "LMirrorBench$Mirrors;" ∈ wsX4_insertTurned := by decide +kernel
  have f46 : Cond.fieldLink RX4 46 "MirrorBench$Mirrors" "size" "I" ∈ wsX4_insertTurned := by decide +kernel
  have w3 : ∀ w ∈ wsX30, w ∈ wsX4_insertTurned := by decide +kernel
  have w4 : ∀ w ∈ wsX40, w ∈ wsX4_insertTurned := by decide +kernel
  show Wk E g 7 S 0 [(0, vr g 12 0), (1, vi a), (2, vi b), (3, vi c)] []
  have hfS : Fr fK13 S S := Fr.rfl _ S
  have enS : S 3 16 2 = S 3 16 2 := hfS 3 16 2 (by unfold fK13; omega)
  unfold RLX at hRX
  have hn := hRS.n
  have hT := hRS.rl.2.2
  rw [hh] at hT
  have hF1 := hT.1
  have hm1 := hT.mono (q := 1) (r := a) (by omega) (by omega) (by omega)
  have hm2 := hT.mono (q := a) (r := a + 1) (by omega) (by omega) (by omega)
  have hm3 := hT.mono (q := a + 1) (r := b) (by omega) (by omega) (by omega)
  refine kw_iload_n hC dX4_insertTurned_0 rfl 3 rfl ?_
  refine kw_istore (lv' := [(4, _), (0, _), (1, _), (2, _), (3, _)]) hC dX4_insertTurned_1 rfl (by decide) rfl ?_
  refine kw_aload_n hC dX4_insertTurned_3 rfl 1 rfl ?_
  refine kg_12_3 hC w4 f18 dX4_insertTurned_4 rfl (by decide) (by decide) ?_
  refine kw_iload_n hC dX4_insertTurned_7 rfl 2 rfl ?_
  refine ka_15 hC dX4_insertTurned_8 rfl (by decide) (by decide) (by omega) (by omega) ?_
  refine kw_istore (lv' := [(5, _), (4, _), (0, _), (1, _), (2, _), (3, _)]) hC dX4_insertTurned_9 rfl (by decide) rfl ?_
  have hL11 : ∀ (n11 : Nat) (x : Int) (g9 : Int) (W11 : wSt), Fr fK13 S W11 → (S 15 0 a ≤ x) → (x ≤ S 15 0 (a + 1)) → (g9 = -3 ∨ 0 ≤ g9) → (g9 ≤ 400) → (TB S W11 a b c g9 x 0) → (TBY (mxz (S 5 16)) (S 3 16 2).toNat (W11 13 0) (S 15 0 b) g9 b) → S 15 0 (a + 1) - x < (n11 : Int) → Wk E g 7 W11 11 [(0, vr g 12 0), (1, vi a), (2, vi b), (3, vi c), (4, vi g9), (5, vi x)] [] := by
    intro n11
    induction n11 with
    | zero => intro x g9 W11 hfW11 x0 x1 hgr hg4 hTB hTY hm11; exact absurd hm11 (by omega)
    | succ n11 ih11 =>
      intro x g9 W11 hfW11 x0 x1 hgr hg4 hTB hTY hm11
      have enW11 : W11 3 16 2 = S 3 16 2 := hfW11 3 16 2 (by unfold fK13; omega)
      refine kw_iload hC dX4_insertTurned_11 rfl 5 rfl ?_
      refine kw_aload_n hC dX4_insertTurned_13 rfl 0 rfl ?_
      refine kg_12_3 hC w4 f18 dX4_insertTurned_14 rfl (by decide) (by decide) ?_
      refine kw_iload_n hC dX4_insertTurned_17 rfl 1 rfl ?_
      refine kw_iconst hC dX4_insertTurned_18 rfl ?_
      refine kw_iadd hC dX4_insertTurned_19 rfl ?_
      refine ka_15 hC dX4_insertTurned_20 rfl (by decide) (by decide) (by omega) (by omega) ?_
      refine kw_chi (z' := S 15 0 (a + 1)) (hfW11 15 0 _ (by unfold fK13; omega)) ?_
      refine kw_icmp_ge (tgt := 104) hC dX4_insertTurned_21 rfl (by decide) (by omega) (by omega) ⟨fun c21 => ?_, fun c21 => ?_⟩
      · refine kw_iload hC dX4_insertTurned_104 rfl 4 rfl ?_
        exact hR9.1 rfl _ _ _ _ dX4_insertTurned_106 ⟨_, rfl, hfW11, by rw [show S 15 0 (a + 1) = x by omega]; exact hTB, hTY⟩
      · refine kw_iconst hC dX4_insertTurned_24 rfl ?_
        refine kw_istore (lv' := [(6, _), (0, _), (1, _), (2, _), (3, _), (4, _), (5, _)]) hC dX4_insertTurned_25 rfl (by decide) rfl ?_
        have hL27 : ∀ (n27 : Nat) (i : Int) (g9 : Int) (W27 : wSt), Fr fK13 S W27 → (0 ≤ i) → (i ≤ S 3 16 2) → (g9 = -3 ∨ 0 ≤ g9) → (g9 ≤ 400) → (TB S W27 a b c g9 x i) → (TBY (mxz (S 5 16)) (S 3 16 2).toNat (W27 13 0) (S 15 0 b) g9 b) → S 3 16 2 - i < (n27 : Int) → Wk E g 7 W27 27 [(0, vr g 12 0), (1, vi a), (2, vi b), (3, vi c), (4, vi g9), (5, vi x), (6, vi i)] [] := by
          intro n27
          induction n27 with
          | zero => intro i g9 W27 hfW27 i0 i1 hgr hg4 hTB hTY hm27; exact absurd hm27 (by omega)
          | succ n27 ih27 =>
            intro i g9 W27 hfW27 i0 i1 hgr hg4 hTB hTY hm27
            have enW27 : W27 3 16 2 = S 3 16 2 := hfW27 3 16 2 (by unfold fK13; omega)
            refine kw_iload hC dX4_insertTurned_27 rfl 6 rfl ?_
            refine kw_aload_n hC dX4_insertTurned_29 rfl 0 rfl ?_
            refine kg_12_0 hC w4 f22 dX4_insertTurned_30 rfl (by decide) (by decide) ?_
            refine kg_3_2 hC w3 f46 dX4_insertTurned_33 rfl (by omega) (by omega) ?_
            refine kw_chi (z' := S 3 16 2) enW27 ?_
            refine kw_icmp_ge (tgt := 98) hC dX4_insertTurned_36 rfl (by decide) (by omega) (by omega) ⟨fun c36 => ?_, fun c36 => ?_⟩
            · replace hTB : TB S W27 a b c g9 (x + 1) 0 := by first | exact hTB.row (by omega) | exact hTB.full (by omega)
              refine kw_iinc (lv' := [(5, _), (0, _), (1, _), (2, _), (3, _), (4, _), (6, _)]) hC dX4_insertTurned_98 rfl 5 rfl (by decide) rfl ?_
              refine kw_goto (tgt := 11) hC dX4_insertTurned_101 rfl (by decide) ?_
              refine kw_lv [1, 2, 3, 4, 5, 0] rfl ?_
              exact ih11 (x + 1) _ W27 hfW27 (by omega) (by omega) (by omega) (by omega) hTB hTY (by omega)
            · refine kw_iload hC dX4_insertTurned_39 rfl 4 rfl ?_
              refine kw_bipush hC dX4_insertTurned_41 rfl (by decide) ?_
              refine kw_icmp_eq (tgt := 98) hC dX4_insertTurned_43 rfl (by decide) (by omega) (by omega) ⟨fun c43 => ?_, fun c43 => ?_⟩
              · replace hTB : TB S W27 a b c g9 (x + 1) 0 := by first | exact hTB.row (by omega) | exact hTB.full (by omega)
                refine kw_iinc (lv' := [(5, _), (0, _), (1, _), (2, _), (3, _), (4, _), (6, _)]) hC dX4_insertTurned_98 rfl 5 rfl (by decide) rfl ?_
                refine kw_goto (tgt := 11) hC dX4_insertTurned_101 rfl (by decide) ?_
                refine kw_lv [1, 2, 3, 4, 5, 0] rfl ?_
                exact ih11 (x + 1) _ W27 hfW27 (by omega) (by omega) (by omega) (by omega) hTB hTY (by omega)
              · refine kw_aload_n hC dX4_insertTurned_46 rfl 0 rfl ?_
                refine kg_12_2 hC w4 f15 dX4_insertTurned_47 rfl (by decide) (by decide) ?_
                refine kw_iload hC dX4_insertTurned_50 rfl 5 rfl ?_
                refine ka_14 hC dX4_insertTurned_52 rfl (by decide) (by decide) (by omega) (by omega) ?_
                refine kw_chl (z' := S 14 0 x) (hfW27 14 0 x (by unfold fK13; omega)) ?_
                obtain ⟨k1, k2, k3, k4, k5⟩ := hT.2.2.2.1 a x (by omega) (by omega) (by omega) (by omega)
                refine kw_iload hC dX4_insertTurned_53 rfl 6 rfl ?_
                refine kw_callS hC (d_X4_unpack hD k4.1 k4.2 (by omega) (by omega)) gX4_insertTurned_X4_unpack rfl ⟨rfl, rfl⟩ 2 (by decide +kernel) ⟨by decide, by decide⟩ rfl rfl (Nat.le_of_ble_eq_true rfl) dX4_insertTurned_55 rfl (kd_ie ?_)
                refine kw_iload_n hC dX4_insertTurned_58 rfl 2 rfl ?_
                refine kw_icmp_ne (tgt := 92) hC dX4_insertTurned_59 rfl (by decide) (by have := dg_r (S 14 0 x) i; omega) (by omega) ⟨fun c59 => ?_, fun c59 => ?_⟩
                · replace hTB := hTB.skip (by omega)
                  refine kw_iinc (lv' := [(6, _), (0, _), (1, _), (2, _), (3, _), (4, _), (5, _)]) hC dX4_insertTurned_92 rfl 6 rfl (by decide) rfl ?_
                  refine kw_goto (tgt := 27) hC dX4_insertTurned_95 rfl (by decide) ?_
                  refine kw_lv [1, 2, 3, 4, 5, 6, 0] rfl ?_
                  exact ih27 (i + 1) _ W27 hfW27 (by omega) (by omega) (by first | omega | (rcases hTB.2 with q | ⟨q, -⟩; exact Or.inl q; exact Or.inr (by omega))) (by first | omega | (rcases hTB.2 with q | ⟨-, q, -⟩; omega; omega)) hTB hTY (by omega)
                · refine kw_aload_n hC dX4_insertTurned_62 rfl 0 rfl ?_
                  refine kw_aload_n hC dX4_insertTurned_63 rfl 0 rfl ?_
                  refine kg_12_1 hC w4 f11 dX4_insertTurned_64 rfl (by decide) (by decide) ?_
                  refine kw_iload hC dX4_insertTurned_67 rfl 5 rfl ?_
                  refine ka_13 hC dX4_insertTurned_69 rfl (by decide) (by decide) (by omega) (by omega) ?_
                  refine kw_chl (z' := S 13 0 x) (hTB.1 x (by omega)) ?_
                  refine kw_iload_n hC dX4_insertTurned_70 rfl 2 rfl ?_
                  refine kw_iload_n hC dX4_insertTurned_71 rfl 1 rfl ?_
                  refine kw_isub hC dX4_insertTurned_72 rfl ?_
                  refine kw_iload hC dX4_insertTurned_73 rfl 6 rfl ?_
                  refine kw_callS hC (d_X4_pack hD (by omega) (by omega) (by omega) (by omega)) gX4_insertTurned_X4_pack rfl ⟨rfl, rfl⟩ 2 (by decide +kernel) ⟨by decide, by decide⟩ rfl rfl (Nat.le_of_ble_eq_true rfl) dX4_insertTurned_75 rfl (kd_le ?_)
                  refine kw_ladd hC dX4_insertTurned_78 rfl ?_
                  have hKK : KOK (S 3 16 2) b (S 13 0 x + (b - a) * 64 ^ (5 - i).toNat) := by have := KOK.add (n := S 3 16 2) (q := a) (k := S 13 0 x) (m := b - a) (c := i) ⟨k1, k2, k3⟩ (by omega) (by omega) i0 (by omega) (by omega); rw [show a + (b - a) = b by omega] at this; exact this
                  obtain ⟨hq1, hq2, hq3, -, -⟩ := hTB.2.resolve_left (by omega)
                  obtain ⟨hup1, hup2⟩ := dgv_up (mt := S 5 16) (n := S 3 16 2) (a := a) (b := b) (k := S 13 0 x) (u := dg (S 14 0 x) i) (i := i) hn ⟨k1, k2, k3⟩ i0 (by omega) (k5 i i0 (by omega)) (by omega) a1 b1
                  have hKR : RTp (mxz (S 5 16)) (S 3 16 2).toNat (dgv (S 13 0 x + (b - a) * 64 ^ (5 - i).toNat)) := by rw [hup2]; exact RTp.up _ _ (hRX.2.1 x (by omega) (by rw [hh, show b - 1 + 1 = b by omega]; omega)) (by omega) (by omega)
                  refine kw_aload_n hC dX4_insertTurned_79 rfl 0 rfl ?_
                  refine kg_12_3 hC w4 f18 dX4_insertTurned_80 rfl (by decide) (by decide) ?_
                  refine kw_iload_n hC dX4_insertTurned_83 rfl 2 rfl ?_
                  refine ka_15 hC dX4_insertTurned_84 rfl (by decide) (by decide) (by omega) (by omega) ?_
                  refine kw_chi (z' := S 15 0 b) (hfW27 15 0 _ (by unfold fK13; omega)) ?_
                  refine kw_iload hC dX4_insertTurned_85 rfl 4 rfl ?_
                  refine kw_callV hC (f_X4_insert hD (hKK.1.1) (hKK.1.2) (by omega) (by omega) (by omega) (fun y y0 y1 => (hq3 y y0 y1).1) (hTY.1 (by omega)).1) gX4_insertTurned_X4_insert ⟨_, rfl⟩ rfl (by decide) (by decide) rfl ⟨rfl, rfl⟩ 3 (by decide +kernel) ⟨by decide, by decide⟩ rfl rfl (Nat.le_of_ble_eq_true rfl) dX4_insertTurned_87 rfl (kd_i (fun r5 S5 hp5 => ?_))
                  obtain ⟨hg5, hp5⟩ := hp5
                  have hfS5 : Fr fK13 S S5 := hfW27.trans hg5
                  have enS5 : S5 3 16 2 = S 3 16 2 := hfS5 3 16 2 (by unfold fK13; omega)
                  obtain ⟨hI9, hX9⟩ := hp5
                  have hg49 : g9 ≤ 400 := hg4
                  have hgp : 0 ≤ g9 := by omega
                  have hful9 : r5 = -3 → g9 = 400 → (∀ y, S 15 0 b ≤ y → y < 400 → W27 13 0 y ≠ S 13 0 x + (b - a) * 64 ^ (5 - i).toNat) → RMo (mxz (S 5 16)) (S 3 16 2).toNat b := fun _ e4 hno => rmo_of hn hT (by omega) (fun q q1 q2 => hRX.1 q q1 (by omega)) (fun x x0 x1 => hRX.2.1 x x0 (by rw [hh, show b - 1 + 1 = b by omega]; exact x1)) hTB.1 (by rw [← e4]; exact (hTY.1 (by omega)).1) (fun y y0 y1 => ⟨hq3 y y0 (by omega), (hTY.1 (by omega)).2 y y0 (by omega)⟩) hKK hKR hno
                  replace hTY := hTY.ins hgp hI9 hX9 hKR hful9
                  replace hTB := hTB.ins (by omega) hI9 rfl hKK
                  refine kw_istore (lv' := [(4, _), (0, _), (1, _), (2, _), (3, _), (5, _), (6, _)]) hC dX4_insertTurned_90 rfl (by decide) rfl ?_
                  refine kw_iinc (lv' := [(6, _), (4, _), (0, _), (1, _), (2, _), (3, _), (5, _)]) hC dX4_insertTurned_92 rfl 6 rfl (by decide) rfl ?_
                  refine kw_goto (tgt := 27) hC dX4_insertTurned_95 rfl (by decide) ?_
                  refine kw_lv [2, 3, 4, 5, 1, 6, 0] rfl ?_
                  exact ih27 (i + 1) _ S5 hfS5 (by omega) (by omega) (by first | omega | (rcases hTB.2 with q | ⟨q, -⟩; exact Or.inl q; exact Or.inr (by omega))) (by first | omega | (rcases hTB.2 with q | ⟨-, q, -⟩; omega; omega)) hTB hTY (by omega)
        refine kw_lv [1, 2, 3, 4, 5, 6, 0] rfl ?_
        exact hL27 7 0 _ W11 hfW11 (by omega) (by omega) (by omega) (by omega) hTB hTY (by omega)
  refine kw_lv [2, 3, 4, 5, 1, 0] rfl ?_
  exact hL11 401 (S 15 0 a) _ S hfS (by omega) (by omega) (by omega) (by omega) ⟨fun _ _ => rfl, Or.inr ⟨by omega, c1, hn9, fun y y0 y1 => ⟨y, y0, y1, rfl⟩, fun x' i' _ _ _ _ q _ => by omega⟩⟩ hTY (by omega)

set_option maxHeartbeats 4000000 in
set_option maxRecDepth 100000 in
theorem f_X4_addHeight {g : wG} (hD : wD g) {S : wSt} {a : Int} (hRS : CI S) (a1 : 1 ≤ a) (a2 : a ≤ 40) (hh : S 12 0 4 = a - 1) (hRX : RLX S) (l : Launch) : Kt l yX4_addHeight wsX4_addHeight ({ frames := 3, cells := 0, slots := 0, locals := 77 } : Room) g S [vr g 12 0, vi a] (pV (fun S' => Fr fRt S S' ∧ (RLI S' ∧ RLXp (mxz (S 5 16)) (S 3 16 2).toNat S' ∧ (S' 12 0 4 = a ∨ S' 12 0 5 = 1)))) := by
  refine Kt.of (cc := cX4_addHeight) (nL := 4) (ret := none) (own := RX4) rfl hD (by decide) rfl (Nat.le_of_ble_eq_true rfl) ⟨rfl, rfl⟩ ?_
  intro E hC hR9
  have f11 : Cond.fieldLink RX4 11 "MirrorBench$RootList" "keys" "[J" ∈ wsX4_addHeight := by decide +kernel
  have f15 : Cond.fieldLink RX4 15 "MirrorBench$RootList" "ups" "[J" ∈ wsX4_addHeight := by decide +kernel
  have f18 : Cond.fieldLink RX4 18 "MirrorBench$RootList" "firsts" "[I" ∈ wsX4_addHeight := by decide +kernel
  have f22 : Cond.fieldLink RX4 22 "MirrorBench$RootList" "set" "LMirrorBench$Mirrors;" ∈ wsX4_addHeight := by decide +kernel
  have f26 : Cond.fieldLink RX4 26 "MirrorBench$RootList" "height" "I" ∈ wsX4_addHeight := by decide +kernel
  have f30 : Cond.fieldLink RX4 30 "MirrorBench$RootList" "full" "Z" ∈ wsX4_addHeight := by decide +kernel
  have f46 : Cond.fieldLink RX4 46 "MirrorBench$Mirrors" "size" "I" ∈ wsX4_addHeight := by decide +kernel
  have w3 : ∀ w ∈ wsX30, w ∈ wsX4_addHeight := by decide +kernel
  have w4 : ∀ w ∈ wsX40, w ∈ wsX4_addHeight := by decide +kernel
  show Wk E g 4 S 0 [(0, vr g 12 0), (1, vi a)] []
  have hfS : Fr fRt S S := Fr.rfl _ S
  have enS : S 3 16 2 = S 3 16 2 := hfS 3 16 2 (by unfold fRt; omega)
  unfold RLX at hRX
  have hn := hRS.n
  have hL := hRS.rl
  have hT := hRS.rl.2.2
  rw [hh] at hT
  have hF1 := hT.1
  have hFa := hT.2.2.1
  rw [show a - 1 + 1 = a by omega] at hFa
  have hm1 := hT.mono (q := 1) (r := a) (by omega) (by omega) (by omega)
  refine kw_aload_n hC dX4_addHeight_0 rfl 0 rfl ?_
  refine kg_12_3 hC w4 f18 dX4_addHeight_1 rfl (by decide) (by decide) ?_
  refine kw_iload_n hC dX4_addHeight_4 rfl 1 rfl ?_
  refine ka_15 hC dX4_addHeight_5 rfl (by decide) (by decide) (by omega) (by omega) ?_
  refine kw_istore_n (lv' := [(2, _), (0, _), (1, _)]) hC dX4_addHeight_6 rfl (by decide) rfl ?_
  refine kw_iconst hC dX4_addHeight_7 rfl ?_
  refine kw_istore_n (lv' := [(3, _), (2, _), (0, _), (1, _)]) hC dX4_addHeight_8 rfl (by decide) rfl ?_
  have hL9 : ∀ (n9 : Nat) (i : Int) (e9 : Int) (W9 : wSt), Fr fRt S W9 → (0 ≤ i) → (i ≤ S 3 16 2) → (∀ j, W9 12 0 j = S 12 0 j ∧ W9 14 0 j = S 14 0 j ∧ W9 15 0 j = S 15 0 j) → (∀ j, j < S 15 0 a → W9 13 0 j = S 13 0 j) → (e9 = -3 ∨ S 15 0 a ≤ e9) → (e9 ≤ 400) → (a = 1 → 0 ≤ e9 ∧ e9 ≤ i) → (a ≠ 1 → i = 0) → (e9 ≠ -3 → ∀ y, S 15 0 a ≤ y → y < e9 → KOK (S 3 16 2) a (W9 13 0 y)) → (e9 ≠ -3 → a = 1 → ∀ i8 : Int, 0 ≤ i8 → i8 < i → ∃ y, S 15 0 a ≤ y ∧ y < e9 ∧ W9 13 0 y = 1 * 64 ^ (5 - i8).toNat) → (TBY (mxz (S 5 16)) (S 3 16 2).toNat (W9 13 0) (S 15 0 a) e9 a) → S 3 16 2 - i < (n9 : Int) → Wk E g 4 W9 9 [(0, vr g 12 0), (1, vi a), (2, vi e9), (3, vi i)] [] := by
    intro n9
    induction n9 with
    | zero => intro i e9 W9 hfW9 i0 i1 hko hlow her he4 hei hi0 hkk hown hTY hm9; exact absurd hm9 (by omega)
    | succ n9 ih9 =>
      intro i e9 W9 hfW9 i0 i1 hko hlow her he4 hei hi0 hkk hown hTY hm9
      have enW9 : W9 3 16 2 = S 3 16 2 := hfW9 3 16 2 (by unfold fRt; omega)
      refine kw_iload_n hC dX4_addHeight_9 rfl 3 rfl ?_
      refine kw_aload_n hC dX4_addHeight_10 rfl 0 rfl ?_
      refine kg_12_0 hC w4 f22 dX4_addHeight_11 rfl (by decide) (by decide) ?_
      refine kg_3_2 hC w3 f46 dX4_addHeight_14 rfl (by omega) (by omega) ?_
      refine kw_chi (z' := S 3 16 2) enW9 ?_
      refine kw_icmp_ge (tgt := 43) hC dX4_addHeight_17 rfl (by decide) (by omega) (by omega) ⟨fun c17 => ?_, fun c17 => ?_⟩
      · refine kw_iconst hC dX4_addHeight_43 rfl ?_
        refine kw_istore_n (lv' := [(3, _), (0, _), (1, _), (2, _)]) hC dX4_addHeight_44 rfl (by decide) rfl ?_
        have hL45 : ∀ (n45 : Nat) (low : Int) (e9 : Int) (W45 : wSt), Fr fRt S W45 → (1 ≤ low) → (low ≤ a) → (∀ j, W45 12 0 j = S 12 0 j ∧ W45 14 0 j = S 14 0 j ∧ W45 15 0 j = S 15 0 j) → (∀ j, j < S 15 0 a → W45 13 0 j = S 13 0 j) → (e9 = -3 ∨ S 15 0 a ≤ e9) → (e9 ≤ 400) → (e9 ≠ -3 → ∀ y, S 15 0 a ≤ y → y < e9 → KOK (S 3 16 2) a (W45 13 0 y)) → (e9 ≠ -3 → a = 1 → ∀ i8 : Int, 0 ≤ i8 → i8 < S 3 16 2 → ∃ y, S 15 0 a ≤ y ∧ y < e9 ∧ W45 13 0 y = 1 * 64 ^ (5 - i8).toNat) → (e9 ≠ -3 → ∀ lo x i, 1 ≤ lo → lo < low → S 15 0 lo ≤ x → x < S 15 0 (lo + 1) → 0 ≤ i → i < S 3 16 2 → dg (S 14 0 x) i = a → ∃ z, S 15 0 a ≤ z ∧ z < e9 ∧ W45 13 0 z = S 13 0 x + (a - lo) * 64 ^ (5 - i).toNat) → (TBY (mxz (S 5 16)) (S 3 16 2).toNat (W45 13 0) (S 15 0 a) e9 a) → a - low < (n45 : Int) → Wk E g 4 W45 45 [(0, vr g 12 0), (1, vi a), (2, vi e9), (3, vi low)] [] := by
          intro n45
          induction n45 with
          | zero => intro low e9 W45 hfW45 l0 l1 hko hlow her he4 hkk hown hcl hTY hm45; exact absurd hm45 (by omega)
          | succ n45 ih45 =>
            intro low e9 W45 hfW45 l0 l1 hko hlow her he4 hkk hown hcl hTY hm45
            have enW45 : W45 3 16 2 = S 3 16 2 := hfW45 3 16 2 (by unfold fRt; omega)
            refine kw_iload_n hC dX4_addHeight_45 rfl 3 rfl ?_
            refine kw_iload_n hC dX4_addHeight_46 rfl 1 rfl ?_
            refine kw_icmp_ge (tgt := 70) hC dX4_addHeight_47 rfl (by decide) (by omega) (by omega) ⟨fun c47 => ?_, fun c47 => ?_⟩
            · refine kw_iload_n hC dX4_addHeight_70 rfl 2 rfl ?_
              refine kw_bipush hC dX4_addHeight_71 rfl (by decide) ?_
              refine kw_icmp_ne (tgt := 82) hC dX4_addHeight_73 rfl (by decide) (by omega) (by omega) ⟨fun c73 => ?_, fun c73 => ?_⟩
              · refine kw_aload_n hC dX4_addHeight_82 rfl 0 rfl ?_
                refine kg_12_3 hC w4 f18 dX4_addHeight_83 rfl (by decide) (by decide) ?_
                refine kw_iload_n hC dX4_addHeight_86 rfl 1 rfl ?_
                refine ka_15 hC dX4_addHeight_87 rfl (by decide) (by decide) (by omega) (by omega) ?_
                refine kw_chi (z' := S 15 0 a) (hko a).2.2 ?_
                refine kw_istore_n (lv' := [(3, _), (0, _), (1, _), (2, _)]) hC dX4_addHeight_88 rfl (by decide) rfl ?_
                have hL89 : ∀ (n89 : Nat) (x : Int) (W89 : wSt), Fr fRt S W89 → (S 15 0 a ≤ x) → (x ≤ e9) → (∀ j, W89 12 0 j = S 12 0 j ∧ W89 15 0 j = S 15 0 j) → (∀ j, W89 13 0 j = W45 13 0 j) → (∀ j, j < S 15 0 a → W89 14 0 j = S 14 0 j) → (∀ y, S 15 0 a ≤ y → y < x → (0 ≤ W89 14 0 y ∧ W89 14 0 y < 68719476736) ∧ ∀ i, 0 ≤ i → i < S 3 16 2 → dg (W89 14 0 y) i = upv (S 5 16) (S 3 16 2) (W45 13 0 y) a i) → e9 - x < (n89 : Int) → Wk E g 4 W89 89 [(0, vr g 12 0), (1, vi a), (2, vi e9), (3, vi x)] [] := by
                  intro n89
                  induction n89 with
                  | zero => intro x W89 hfW89 x0 x1 h12 h13 h14 hup hm89; exact absurd hm89 (by omega)
                  | succ n89 ih89 =>
                    intro x W89 hfW89 x0 x1 h12 h13 h14 hup hm89
                    have enW89 : W89 3 16 2 = S 3 16 2 := hfW89 3 16 2 (by unfold fRt; omega)
                    refine kw_iload_n hC dX4_addHeight_89 rfl 3 rfl ?_
                    refine kw_iload_n hC dX4_addHeight_90 rfl 2 rfl ?_
                    refine kw_icmp_ge (tgt := 117) hC dX4_addHeight_91 rfl (by decide) (by omega) (by omega) ⟨fun c91 => ?_, fun c91 => ?_⟩
                    · refine kw_aload_n hC dX4_addHeight_117 rfl 0 rfl ?_
                      refine kg_12_3 hC w4 f18 dX4_addHeight_118 rfl (by decide) (by decide) ?_
                      refine kw_iload_n hC dX4_addHeight_121 rfl 1 rfl ?_
                      refine kw_iconst hC dX4_addHeight_122 rfl ?_
                      refine kw_iadd hC dX4_addHeight_123 rfl ?_
                      refine kw_iload_n hC dX4_addHeight_124 rfl 2 rfl ?_
                      refine ks_15 hC dX4_addHeight_125 rfl (by decide) (by decide) (by omega) (by omega) ?_
                      refine kw_hv hfW89 (by unfold fRt; omega) (fun S5 hfS5 hv5 ho5 => ?_)
                      have enS5 : S5 3 16 2 = S 3 16 2 := hfS5 3 16 2 (by unfold fRt; omega)
                      have hvA := hv5
                      have hoA := ho5
                      refine kw_aload_n hC dX4_addHeight_126 rfl 0 rfl ?_
                      refine kw_iload_n hC dX4_addHeight_127 rfl 1 rfl ?_
                      refine kp_12_4 hC w4 f26 dX4_addHeight_128 rfl (by decide) (by decide) ?_
                      refine kw_hv hfS5 (by unfold fRt; omega) (fun S6 hfS6 hv6 ho6 => ?_)
                      have enS6 : S6 3 16 2 = S 3 16 2 := hfS6 3 16 2 (by unfold fRt; omega)
                      have hX : RLI S6 := by refine ⟨by rw [hv6]; omega, by rw [ho6 12 0 5 (by omega), hoA 12 0 5 (by omega), (h12 5).1]; exact hL.2.1, ?_⟩; rw [hv6, show S6 5 16 = S 5 16 from funext (fun j => hfS6 5 16 j (by unfold fRt; omega)), enS6]; exact hT.grow a1 a2 hn.2 (fun j hj => by rw [ho6 15 0 j (by omega), hoA 15 0 j (by omega)]; exact (h12 j).2) (by rw [ho6 15 0 _ (by omega)]; exact hvA) (fun x hx => by rw [ho6 13 0 x (by omega), hoA 13 0 x (by omega), h13 x]; exact hlow x hx) (fun x x0 hx => by rw [ho6 14 0 x (by omega), hoA 14 0 x (by omega)]; exact h14 x hx) (by omega) he4 (fun y y0 y1 => by rw [ho6 13 0 y (by omega), hoA 13 0 y (by omega), h13 y]; exact hkk (by omega) y y0 y1) (fun y y0 y1 => by rw [ho6 14 0 y (by omega), hoA 14 0 y (by omega), ho6 13 0 y (by omega), hoA 13 0 y (by omega), h13 y]; exact hup y y0 (by omega)) (fun ha i i0 i1 => by obtain ⟨y, y0, y1, y2⟩ := hown (by omega) ha i i0 i1; exact ⟨y, y0, y1, by rw [ho6 13 0 y (by omega), hoA 13 0 y (by omega), h13 y]; exact y2⟩) (fun lo x i l1 l2 x0 x1 i0 i1 he => by obtain ⟨z, z0, z1, z2⟩ := hcl (by omega) lo x i l1 (by omega) x0 x1 i0 i1 he; exact ⟨z, z0, z1, by rw [ho6 13 0 z (by omega), hoA 13 0 z (by omega), h13 z]; exact z2⟩)
                      have hXX : RLXp (mxz (S 5 16)) (S 3 16 2).toNat S6 := hRX.grow (e := e9) hRS hh a1 hv6 ((ho6 12 0 5 (by omega)).trans ((hoA 12 0 5 (by omega)).trans (h12 5).1)) (fun j hj => (ho6 15 0 j (by omega)).trans ((hoA 15 0 j (by omega)).trans (h12 j).2)) ((ho6 15 0 _ (by omega)).trans hvA) (fun x hx => (ho6 13 0 x (by omega)).trans ((hoA 13 0 x (by omega)).trans ((h13 x).trans (hlow x hx)))) (by rw [show S6 13 0 = W45 13 0 from funext (fun j => (ho6 13 0 j (by omega)).trans ((hoA 13 0 j (by omega)).trans (h13 j)))]; exact hTY) (by omega)
                      exact hR9.2.2.2 rfl _ _ _ dX4_addHeight_131 ⟨rfl, hfS6, hX, hXX, Or.inl hv6⟩
                    · refine kw_aload_n hC dX4_addHeight_94 rfl 0 rfl ?_
                      refine kg_12_2 hC w4 f15 dX4_addHeight_95 rfl (by decide) (by decide) ?_
                      refine kw_iload_n hC dX4_addHeight_98 rfl 3 rfl ?_
                      refine kw_aload_n hC dX4_addHeight_99 rfl 0 rfl ?_
                      refine kw_aload_n hC dX4_addHeight_100 rfl 0 rfl ?_
                      refine kg_12_1 hC w4 f11 dX4_addHeight_101 rfl (by decide) (by decide) ?_
                      refine kw_iload_n hC dX4_addHeight_104 rfl 3 rfl ?_
                      refine ka_13 hC dX4_addHeight_105 rfl (by decide) (by decide) (by omega) (by omega) ?_
                      refine kw_chl (z' := W45 13 0 x) (h13 x) ?_
                      have hk9 := hkk (by omega) x (by omega) (by omega)
                      refine kw_iload_n hC dX4_addHeight_106 rfl 1 rfl ?_
                      refine kw_callV hC (d_X4_findUps hD (hRS.k13 hfW89 (fun j => (h12 j).1) (fun j => (h12 j).2) (fun x _ q => (h13 x).trans (hlow x (by rw [hh, show a - 1 + 1 = a by omega] at q; exact q))) (fun x x0 q => h14 x (by rw [hh, show a - 1 + 1 = a by omega] at q; exact q))) hk9.1.1 hk9.1.2 (by omega) (by omega)) gX4_addHeight_X4_findUps ⟨_, rfl⟩ rfl (by decide) (by decide) rfl ⟨rfl, rfl⟩ 2 (by decide +kernel) ⟨by decide, by decide⟩ rfl rfl (Nat.le_of_ble_eq_true rfl) dX4_addHeight_107 rfl (kd_l (fun r9 S9 hp9 => ?_))
                      obtain ⟨hu0, hu1, hS9⟩ := hp9
                      rw [hS9]
                      refine ks_14 hC dX4_addHeight_110 rfl (by decide) (by decide) (by omega) (by omega) ?_
                      refine kw_hv hfW89 (by unfold fRt; omega) (fun S7 hfS7 hv7 ho7 => ?_)
                      have enS7 : S7 3 16 2 = S 3 16 2 := hfS7 3 16 2 (by unfold fRt; omega)
                      have hup9 : ∀ y, S 15 0 a ≤ y → y < x + 1 → (0 ≤ S7 14 0 y ∧ S7 14 0 y < 68719476736) ∧ ∀ i, 0 ≤ i → i < S 3 16 2 → dg (S7 14 0 y) i = upv (S 5 16) (S 3 16 2) (W45 13 0 y) a i := fun y y0 y1 => by rcases Decidable.em (y = x) with q | q; exact (by rw [q, hv7]; refine ⟨hu0, fun i i0 i1 => ?_⟩; have h9 := hu1 i i0 (by rw [enW89]; exact i1); rw [enW89, show W89 5 16 = S 5 16 from funext (fun j => hfW89 5 16 j (by unfold fRt; omega))] at h9; exact h9); exact (by rw [ho7 14 0 y (by omega)]; exact hup y y0 (by omega))
                      refine kw_iinc (lv' := [(3, _), (0, _), (1, _), (2, _)]) hC dX4_addHeight_111 rfl 3 rfl (by decide) rfl ?_
                      refine kw_goto (tgt := 89) hC dX4_addHeight_114 rfl (by decide) ?_
                      refine kw_lv [1, 2, 3, 0] rfl ?_
                      exact ih89 (x + 1) S7 hfS7 (by omega) (by omega) (fun j => ⟨(ho7 12 0 j (by omega)).trans (h12 j).1, (ho7 15 0 j (by omega)).trans (h12 j).2⟩) (fun j => (ho7 13 0 j (by omega)).trans (h13 j)) (fun j hj => (ho7 14 0 j (by omega)).trans (h14 j hj)) hup9 (by omega)
                refine kw_lv [1, 2, 3, 0] rfl ?_
                exact hL89 401 _ W45 hfW45 (by omega) (by omega) (fun j => ⟨(hko j).1, (hko j).2.2⟩) (fun _ => rfl) (fun j _ => (hko j).2.1) (fun y _ _ => by omega) (by omega)
              · refine kw_aload_n hC dX4_addHeight_76 rfl 0 rfl ?_
                refine kw_iconst hC dX4_addHeight_77 rfl ?_
                refine kp_12_5 hC w4 f30 dX4_addHeight_78 rfl (by decide) (by decide) (by omega) ?_
                refine kw_hv hfW45 (by unfold fRt; omega) (fun S8 hfS8 hv8 ho8 => ?_)
                have enS8 : S8 3 16 2 = S 3 16 2 := hfS8 3 16 2 (by unfold fRt; omega)
                have hX : RLI S8 := by refine ⟨by rw [ho8 12 0 4 (by omega), (hko 4).1]; omega, Or.inr hv8, ?_⟩; rw [ho8 12 0 4 (by omega), (hko 4).1, show S8 5 16 = S 5 16 from funext (fun j => hfS8 5 16 j (by unfold fRt; omega)), enS8, show S8 15 0 = S 15 0 from funext (fun j => (ho8 15 0 j (by omega)).trans (hko j).2.2), hh]; exact hT.ext (by omega) (fun x _ q => (ho8 13 0 x (by omega)).trans (hlow x (by rw [show a - 1 + 1 = a by omega] at q; exact q))) (fun x _ _ => (ho8 14 0 x (by omega)).trans (hko x).2.1)
                have hXX : RLXp (mxz (S 5 16)) (S 3 16 2).toNat S8 := hRX.full hRS ((ho8 12 0 4 (by omega)).trans (hko 4).1) (fun j => (ho8 15 0 j (by omega)).trans (hko j).2.2) (fun x q => (ho8 13 0 x (by omega)).trans (hlow x (by rw [hh, show a - 1 + 1 = a by omega] at q; exact q))) (by rw [hh, show a - 1 + 1 = a by omega]; exact hTY.2 (by omega))
                exact hR9.2.2.2 rfl _ _ _ dX4_addHeight_81 ⟨rfl, hfS8, hX, hXX, Or.inr hv8⟩
            · refine kw_iload_n hC dX4_addHeight_50 rfl 2 rfl ?_
              refine kw_bipush hC dX4_addHeight_51 rfl (by decide) ?_
              refine kw_icmp_eq (tgt := 70) hC dX4_addHeight_53 rfl (by decide) (by omega) (by omega) ⟨fun c53 => ?_, fun c53 => ?_⟩
              · refine kw_iload_n hC dX4_addHeight_70 rfl 2 rfl ?_
                refine kw_bipush hC dX4_addHeight_71 rfl (by decide) ?_
                refine kw_icmp_ne (tgt := 82) hC dX4_addHeight_73 rfl (by decide) (by omega) (by omega) ⟨fun c73 => ?_, fun c73 => ?_⟩
                · refine kw_aload_n hC dX4_addHeight_82 rfl 0 rfl ?_
                  refine kg_12_3 hC w4 f18 dX4_addHeight_83 rfl (by decide) (by decide) ?_
                  refine kw_iload_n hC dX4_addHeight_86 rfl 1 rfl ?_
                  refine ka_15 hC dX4_addHeight_87 rfl (by decide) (by decide) (by omega) (by omega) ?_
                  refine kw_chi (z' := S 15 0 a) (hko a).2.2 ?_
                  refine kw_istore_n (lv' := [(3, _), (0, _), (1, _), (2, _)]) hC dX4_addHeight_88 rfl (by decide) rfl ?_
                  have hL89 : ∀ (n89 : Nat) (x : Int) (W89 : wSt), Fr fRt S W89 → (S 15 0 a ≤ x) → (x ≤ e9) → (∀ j, W89 12 0 j = S 12 0 j ∧ W89 15 0 j = S 15 0 j) → (∀ j, W89 13 0 j = W45 13 0 j) → (∀ j, j < S 15 0 a → W89 14 0 j = S 14 0 j) → (∀ y, S 15 0 a ≤ y → y < x → (0 ≤ W89 14 0 y ∧ W89 14 0 y < 68719476736) ∧ ∀ i, 0 ≤ i → i < S 3 16 2 → dg (W89 14 0 y) i = upv (S 5 16) (S 3 16 2) (W45 13 0 y) a i) → e9 - x < (n89 : Int) → Wk E g 4 W89 89 [(0, vr g 12 0), (1, vi a), (2, vi e9), (3, vi x)] [] := by
                    intro n89
                    induction n89 with
                    | zero => intro x W89 hfW89 x0 x1 h12 h13 h14 hup hm89; exact absurd hm89 (by omega)
                    | succ n89 ih89 =>
                      intro x W89 hfW89 x0 x1 h12 h13 h14 hup hm89
                      have enW89 : W89 3 16 2 = S 3 16 2 := hfW89 3 16 2 (by unfold fRt; omega)
                      refine kw_iload_n hC dX4_addHeight_89 rfl 3 rfl ?_
                      refine kw_iload_n hC dX4_addHeight_90 rfl 2 rfl ?_
                      refine kw_icmp_ge (tgt := 117) hC dX4_addHeight_91 rfl (by decide) (by omega) (by omega) ⟨fun c91 => ?_, fun c91 => ?_⟩
                      · refine kw_aload_n hC dX4_addHeight_117 rfl 0 rfl ?_
                        refine kg_12_3 hC w4 f18 dX4_addHeight_118 rfl (by decide) (by decide) ?_
                        refine kw_iload_n hC dX4_addHeight_121 rfl 1 rfl ?_
                        refine kw_iconst hC dX4_addHeight_122 rfl ?_
                        refine kw_iadd hC dX4_addHeight_123 rfl ?_
                        refine kw_iload_n hC dX4_addHeight_124 rfl 2 rfl ?_
                        refine ks_15 hC dX4_addHeight_125 rfl (by decide) (by decide) (by omega) (by omega) ?_
                        refine kw_hv hfW89 (by unfold fRt; omega) (fun S12 hfS12 hv12 ho12 => ?_)
                        have enS12 : S12 3 16 2 = S 3 16 2 := hfS12 3 16 2 (by unfold fRt; omega)
                        have hvA := hv12
                        have hoA := ho12
                        refine kw_aload_n hC dX4_addHeight_126 rfl 0 rfl ?_
                        refine kw_iload_n hC dX4_addHeight_127 rfl 1 rfl ?_
                        refine kp_12_4 hC w4 f26 dX4_addHeight_128 rfl (by decide) (by decide) ?_
                        refine kw_hv hfS12 (by unfold fRt; omega) (fun S13 hfS13 hv13 ho13 => ?_)
                        have enS13 : S13 3 16 2 = S 3 16 2 := hfS13 3 16 2 (by unfold fRt; omega)
                        have hX : RLI S13 := by refine ⟨by rw [hv13]; omega, by rw [ho13 12 0 5 (by omega), hoA 12 0 5 (by omega), (h12 5).1]; exact hL.2.1, ?_⟩; rw [hv13, show S13 5 16 = S 5 16 from funext (fun j => hfS13 5 16 j (by unfold fRt; omega)), enS13]; exact hT.grow a1 a2 hn.2 (fun j hj => by rw [ho13 15 0 j (by omega), hoA 15 0 j (by omega)]; exact (h12 j).2) (by rw [ho13 15 0 _ (by omega)]; exact hvA) (fun x hx => by rw [ho13 13 0 x (by omega), hoA 13 0 x (by omega), h13 x]; exact hlow x hx) (fun x x0 hx => by rw [ho13 14 0 x (by omega), hoA 14 0 x (by omega)]; exact h14 x hx) (by omega) he4 (fun y y0 y1 => by rw [ho13 13 0 y (by omega), hoA 13 0 y (by omega), h13 y]; exact hkk (by omega) y y0 y1) (fun y y0 y1 => by rw [ho13 14 0 y (by omega), hoA 14 0 y (by omega), ho13 13 0 y (by omega), hoA 13 0 y (by omega), h13 y]; exact hup y y0 (by omega)) (fun ha i i0 i1 => by obtain ⟨y, y0, y1, y2⟩ := hown (by omega) ha i i0 i1; exact ⟨y, y0, y1, by rw [ho13 13 0 y (by omega), hoA 13 0 y (by omega), h13 y]; exact y2⟩) (fun lo x i l1 l2 x0 x1 i0 i1 he => by obtain ⟨z, z0, z1, z2⟩ := hcl (by omega) lo x i l1 (by omega) x0 x1 i0 i1 he; exact ⟨z, z0, z1, by rw [ho13 13 0 z (by omega), hoA 13 0 z (by omega), h13 z]; exact z2⟩)
                        have hXX : RLXp (mxz (S 5 16)) (S 3 16 2).toNat S13 := hRX.grow (e := e9) hRS hh a1 hv13 ((ho13 12 0 5 (by omega)).trans ((hoA 12 0 5 (by omega)).trans (h12 5).1)) (fun j hj => (ho13 15 0 j (by omega)).trans ((hoA 15 0 j (by omega)).trans (h12 j).2)) ((ho13 15 0 _ (by omega)).trans hvA) (fun x hx => (ho13 13 0 x (by omega)).trans ((hoA 13 0 x (by omega)).trans ((h13 x).trans (hlow x hx)))) (by rw [show S13 13 0 = W45 13 0 from funext (fun j => (ho13 13 0 j (by omega)).trans ((hoA 13 0 j (by omega)).trans (h13 j)))]; exact hTY) (by omega)
                        exact hR9.2.2.2 rfl _ _ _ dX4_addHeight_131 ⟨rfl, hfS13, hX, hXX, Or.inl hv13⟩
                      · refine kw_aload_n hC dX4_addHeight_94 rfl 0 rfl ?_
                        refine kg_12_2 hC w4 f15 dX4_addHeight_95 rfl (by decide) (by decide) ?_
                        refine kw_iload_n hC dX4_addHeight_98 rfl 3 rfl ?_
                        refine kw_aload_n hC dX4_addHeight_99 rfl 0 rfl ?_
                        refine kw_aload_n hC dX4_addHeight_100 rfl 0 rfl ?_
                        refine kg_12_1 hC w4 f11 dX4_addHeight_101 rfl (by decide) (by decide) ?_
                        refine kw_iload_n hC dX4_addHeight_104 rfl 3 rfl ?_
                        refine ka_13 hC dX4_addHeight_105 rfl (by decide) (by decide) (by omega) (by omega) ?_
                        refine kw_chl (z' := W45 13 0 x) (h13 x) ?_
                        have hk9 := hkk (by omega) x (by omega) (by omega)
                        refine kw_iload_n hC dX4_addHeight_106 rfl 1 rfl ?_
                        refine kw_callV hC (d_X4_findUps hD (hRS.k13 hfW89 (fun j => (h12 j).1) (fun j => (h12 j).2) (fun x _ q => (h13 x).trans (hlow x (by rw [hh, show a - 1 + 1 = a by omega] at q; exact q))) (fun x x0 q => h14 x (by rw [hh, show a - 1 + 1 = a by omega] at q; exact q))) hk9.1.1 hk9.1.2 (by omega) (by omega)) gX4_addHeight_X4_findUps ⟨_, rfl⟩ rfl (by decide) (by decide) rfl ⟨rfl, rfl⟩ 2 (by decide +kernel) ⟨by decide, by decide⟩ rfl rfl (Nat.le_of_ble_eq_true rfl) dX4_addHeight_107 rfl (kd_l (fun r9 S9 hp9 => ?_))
                        obtain ⟨hu0, hu1, hS9⟩ := hp9
                        rw [hS9]
                        refine ks_14 hC dX4_addHeight_110 rfl (by decide) (by decide) (by omega) (by omega) ?_
                        refine kw_hv hfW89 (by unfold fRt; omega) (fun S14 hfS14 hv14 ho14 => ?_)
                        have enS14 : S14 3 16 2 = S 3 16 2 := hfS14 3 16 2 (by unfold fRt; omega)
                        have hup9 : ∀ y, S 15 0 a ≤ y → y < x + 1 → (0 ≤ S14 14 0 y ∧ S14 14 0 y < 68719476736) ∧ ∀ i, 0 ≤ i → i < S 3 16 2 → dg (S14 14 0 y) i = upv (S 5 16) (S 3 16 2) (W45 13 0 y) a i := fun y y0 y1 => by rcases Decidable.em (y = x) with q | q; exact (by rw [q, hv14]; refine ⟨hu0, fun i i0 i1 => ?_⟩; have h9 := hu1 i i0 (by rw [enW89]; exact i1); rw [enW89, show W89 5 16 = S 5 16 from funext (fun j => hfW89 5 16 j (by unfold fRt; omega))] at h9; exact h9); exact (by rw [ho14 14 0 y (by omega)]; exact hup y y0 (by omega))
                        refine kw_iinc (lv' := [(3, _), (0, _), (1, _), (2, _)]) hC dX4_addHeight_111 rfl 3 rfl (by decide) rfl ?_
                        refine kw_goto (tgt := 89) hC dX4_addHeight_114 rfl (by decide) ?_
                        refine kw_lv [1, 2, 3, 0] rfl ?_
                        exact ih89 (x + 1) S14 hfS14 (by omega) (by omega) (fun j => ⟨(ho14 12 0 j (by omega)).trans (h12 j).1, (ho14 15 0 j (by omega)).trans (h12 j).2⟩) (fun j => (ho14 13 0 j (by omega)).trans (h13 j)) (fun j hj => (ho14 14 0 j (by omega)).trans (h14 j hj)) hup9 (by omega)
                  refine kw_lv [1, 2, 3, 0] rfl ?_
                  exact hL89 401 _ W45 hfW45 (by omega) (by omega) (fun j => ⟨(hko j).1, (hko j).2.2⟩) (fun _ => rfl) (fun j _ => (hko j).2.1) (fun y _ _ => by omega) (by omega)
                · refine kw_aload_n hC dX4_addHeight_76 rfl 0 rfl ?_
                  refine kw_iconst hC dX4_addHeight_77 rfl ?_
                  refine kp_12_5 hC w4 f30 dX4_addHeight_78 rfl (by decide) (by decide) (by omega) ?_
                  refine kw_hv hfW45 (by unfold fRt; omega) (fun S15 hfS15 hv15 ho15 => ?_)
                  have enS15 : S15 3 16 2 = S 3 16 2 := hfS15 3 16 2 (by unfold fRt; omega)
                  have hX : RLI S15 := by refine ⟨by rw [ho15 12 0 4 (by omega), (hko 4).1]; omega, Or.inr hv15, ?_⟩; rw [ho15 12 0 4 (by omega), (hko 4).1, show S15 5 16 = S 5 16 from funext (fun j => hfS15 5 16 j (by unfold fRt; omega)), enS15, show S15 15 0 = S 15 0 from funext (fun j => (ho15 15 0 j (by omega)).trans (hko j).2.2), hh]; exact hT.ext (by omega) (fun x _ q => (ho15 13 0 x (by omega)).trans (hlow x (by rw [show a - 1 + 1 = a by omega] at q; exact q))) (fun x _ _ => (ho15 14 0 x (by omega)).trans (hko x).2.1)
                  have hXX : RLXp (mxz (S 5 16)) (S 3 16 2).toNat S15 := hRX.full hRS ((ho15 12 0 4 (by omega)).trans (hko 4).1) (fun j => (ho15 15 0 j (by omega)).trans (hko j).2.2) (fun x q => (ho15 13 0 x (by omega)).trans (hlow x (by rw [hh, show a - 1 + 1 = a by omega] at q; exact q))) (by rw [hh, show a - 1 + 1 = a by omega]; exact hTY.2 (by omega))
                  exact hR9.2.2.2 rfl _ _ _ dX4_addHeight_81 ⟨rfl, hfS15, hX, hXX, Or.inr hv15⟩
              · refine kw_aload_n hC dX4_addHeight_56 rfl 0 rfl ?_
                refine kw_iload_n hC dX4_addHeight_57 rfl 3 rfl ?_
                refine kw_iload_n hC dX4_addHeight_58 rfl 1 rfl ?_
                refine kw_iload_n hC dX4_addHeight_59 rfl 2 rfl ?_
                refine kw_callV hC (f_X4_insertTurned hD (hRS.k13 hfW45 (fun j => (hko j).1) (fun j => (hko j).2.2) (fun x _ q => hlow x (by rw [hh, show a - 1 + 1 = a by omega] at q; exact q)) (fun x _ _ => (hko x).2.1)) (by omega) (by omega) (by omega) (by rw [(hko 4).1]; omega) (by rw [(hko a).2.2]; omega) (by omega) (fun y y0 y1 => by rw [(hko a).2.2] at y0; rw [enW45]; exact hkk (by omega) y y0 y1) (RLX.fr hfW45 (hRX.keep hRS (fun j => (hko j).1) (fun j => (hko j).2.2) (fun x q => hlow x (by rw [hh, show a - 1 + 1 = a by omega] at q; exact q)))) (hTY.fw hfW45 (hko a).2.2)) gX4_addHeight_X4_insertTurned ⟨_, rfl⟩ rfl (by decide) (by decide) rfl ⟨rfl, rfl⟩ 3 (by decide +kernel) ⟨by decide, by decide⟩ rfl rfl (Nat.le_of_ble_eq_true rfl) dX4_addHeight_60 rfl (kd_i (fun r16 S16 hp16 => ?_))
                obtain ⟨hg16, hp16⟩ := hp16
                have hfS16 : Fr fRt S S16 := hfW45.trans (hg16.mono (fun k i j h => by unfold fK13 at h; unfold fRt; omega))
                have enS16 : S16 3 16 2 = S 3 16 2 := hfS16 3 16 2 (by unfold fRt; omega)
                obtain ⟨hI9, hY9⟩ := hp16
                have hTY9 := TBY.bk hfW45 (hko a).2.2 hY9
                obtain ⟨iA, iB⟩ := hI9
                have gI : ∀ k j, k ≠ 13 → S16 k 0 j = W45 k 0 j := fun k j hk => hg16 k 0 j (by unfold fK13; omega)
                rw [(hko a).2.2] at iA iB
                rw [enW45, (hko low).2.2, (hko (low + 1)).2.2] at iB
                have hko9 : ∀ j, S16 12 0 j = S 12 0 j ∧ S16 14 0 j = S 14 0 j ∧ S16 15 0 j = S 15 0 j := fun j => ⟨(gI 12 j (by decide)).trans (hko j).1, (gI 14 j (by decide)).trans (hko j).2.1, (gI 15 j (by decide)).trans (hko j).2.2⟩
                have hlow9 : ∀ j, j < S 15 0 a → S16 13 0 j = S 13 0 j := fun j hj => (iA j hj).trans (hlow j hj)
                have hkk9 : r16 ≠ -3 → ∀ y, S 15 0 a ≤ y → y < r16 → KOK (S 3 16 2) a (S16 13 0 y) := fun hr9 => (iB.resolve_left hr9).2.2.1
                have hown9 : r16 ≠ -3 → a = 1 → ∀ i9 : Int, 0 ≤ i9 → i9 < S 3 16 2 → ∃ y, S 15 0 a ≤ y ∧ y < r16 ∧ S16 13 0 y = 1 * 64 ^ (5 - i9).toNat := fun _ ha => by omega
                have hcl9 : r16 ≠ -3 → ∀ lo x i, 1 ≤ lo → lo < low + 1 → S 15 0 lo ≤ x → x < S 15 0 (lo + 1) → 0 ≤ i → i < S 3 16 2 → dg (S 14 0 x) i = a → ∃ z, S 15 0 a ≤ z ∧ z < r16 ∧ S16 13 0 z = S 13 0 x + (a - lo) * 64 ^ (5 - i).toNat := fun hr9 lo x i l0 l1 x0 x1 i0 i1 he => by obtain ⟨q1, q2, q3, q4, q5⟩ := iB.resolve_left hr9; rcases Decidable.em (lo = low) with e | e; exact (by rw [e] at x0 x1 ⊢; have hxa : x < S 15 0 a := (by have := hT.mono (q := low + 1) (r := a) (by omega) (by omega) (by omega); omega); obtain ⟨z, z0, z1, z2⟩ := q5 x i x0 x1 i0 i1 (Or.inl x1) (by rw [(hko x).2.1]; exact he); exact ⟨z, z0, z1, by rw [z2, hlow x hxa]⟩); obtain ⟨z, z0, z1, z2⟩ := hcl (by omega) lo x i l0 (by omega) x0 x1 i0 i1 he; obtain ⟨v, v0, v1, v2⟩ := q4 z z0 z1; exact ⟨v, v0, v1, v2.trans z2⟩
                have her9 : r16 = -3 ∨ S 15 0 a ≤ r16 := iB.imp id (fun q => by omega)
                have he49 : r16 ≤ 400 := by rcases iB with q | q; omega; exact q.2.1
                refine kw_istore_n (lv' := [(2, _), (0, _), (1, _), (3, _)]) hC dX4_addHeight_63 rfl (by decide) rfl ?_
                refine kw_iinc (lv' := [(3, _), (2, _), (0, _), (1, _)]) hC dX4_addHeight_64 rfl 3 rfl (by decide) rfl ?_
                refine kw_goto (tgt := 45) hC dX4_addHeight_67 rfl (by decide) ?_
                refine kw_lv [2, 3, 1, 0] rfl ?_
                exact ih45 (low + 1) _ S16 hfS16 (by omega) (by omega) hko9 hlow9 her9 he49 hkk9 hown9 hcl9 hTY9 (by omega)
        refine kw_lv [1, 2, 3, 0] rfl ?_
        exact hL45 41 1 _ W9 hfW9 (by omega) (by omega) hko hlow (by omega) (by omega) hkk (fun q1 q2 i i0 i1 => hown q1 q2 i i0 (by omega)) (fun _ lo x i _ _ => by omega) hTY (by omega)
      · refine kw_iload_n hC dX4_addHeight_20 rfl 1 rfl ?_
        refine kw_iconst hC dX4_addHeight_21 rfl ?_
        refine kw_icmp_ne (tgt := 43) hC dX4_addHeight_22 rfl (by decide) (by omega) (by omega) ⟨fun c22 => ?_, fun c22 => ?_⟩
        · refine kw_iconst hC dX4_addHeight_43 rfl ?_
          refine kw_istore_n (lv' := [(3, _), (0, _), (1, _), (2, _)]) hC dX4_addHeight_44 rfl (by decide) rfl ?_
          have hL45 : ∀ (n45 : Nat) (low : Int) (e9 : Int) (W45 : wSt), Fr fRt S W45 → (1 ≤ low) → (low ≤ a) → (∀ j, W45 12 0 j = S 12 0 j ∧ W45 14 0 j = S 14 0 j ∧ W45 15 0 j = S 15 0 j) → (∀ j, j < S 15 0 a → W45 13 0 j = S 13 0 j) → (e9 = -3 ∨ S 15 0 a ≤ e9) → (e9 ≤ 400) → (e9 ≠ -3 → ∀ y, S 15 0 a ≤ y → y < e9 → KOK (S 3 16 2) a (W45 13 0 y)) → (e9 ≠ -3 → a = 1 → ∀ i8 : Int, 0 ≤ i8 → i8 < S 3 16 2 → ∃ y, S 15 0 a ≤ y ∧ y < e9 ∧ W45 13 0 y = 1 * 64 ^ (5 - i8).toNat) → (e9 ≠ -3 → ∀ lo x i, 1 ≤ lo → lo < low → S 15 0 lo ≤ x → x < S 15 0 (lo + 1) → 0 ≤ i → i < S 3 16 2 → dg (S 14 0 x) i = a → ∃ z, S 15 0 a ≤ z ∧ z < e9 ∧ W45 13 0 z = S 13 0 x + (a - lo) * 64 ^ (5 - i).toNat) → (TBY (mxz (S 5 16)) (S 3 16 2).toNat (W45 13 0) (S 15 0 a) e9 a) → a - low < (n45 : Int) → Wk E g 4 W45 45 [(0, vr g 12 0), (1, vi a), (2, vi e9), (3, vi low)] [] := by
            intro n45
            induction n45 with
            | zero => intro low e9 W45 hfW45 l0 l1 hko hlow her he4 hkk hown hcl hTY hm45; exact absurd hm45 (by omega)
            | succ n45 ih45 =>
              intro low e9 W45 hfW45 l0 l1 hko hlow her he4 hkk hown hcl hTY hm45
              have enW45 : W45 3 16 2 = S 3 16 2 := hfW45 3 16 2 (by unfold fRt; omega)
              refine kw_iload_n hC dX4_addHeight_45 rfl 3 rfl ?_
              refine kw_iload_n hC dX4_addHeight_46 rfl 1 rfl ?_
              refine kw_icmp_ge (tgt := 70) hC dX4_addHeight_47 rfl (by decide) (by omega) (by omega) ⟨fun c47 => ?_, fun c47 => ?_⟩
              · refine kw_iload_n hC dX4_addHeight_70 rfl 2 rfl ?_
                refine kw_bipush hC dX4_addHeight_71 rfl (by decide) ?_
                refine kw_icmp_ne (tgt := 82) hC dX4_addHeight_73 rfl (by decide) (by omega) (by omega) ⟨fun c73 => ?_, fun c73 => ?_⟩
                · refine kw_aload_n hC dX4_addHeight_82 rfl 0 rfl ?_
                  refine kg_12_3 hC w4 f18 dX4_addHeight_83 rfl (by decide) (by decide) ?_
                  refine kw_iload_n hC dX4_addHeight_86 rfl 1 rfl ?_
                  refine ka_15 hC dX4_addHeight_87 rfl (by decide) (by decide) (by omega) (by omega) ?_
                  refine kw_chi (z' := S 15 0 a) (hko a).2.2 ?_
                  refine kw_istore_n (lv' := [(3, _), (0, _), (1, _), (2, _)]) hC dX4_addHeight_88 rfl (by decide) rfl ?_
                  have hL89 : ∀ (n89 : Nat) (x : Int) (W89 : wSt), Fr fRt S W89 → (S 15 0 a ≤ x) → (x ≤ e9) → (∀ j, W89 12 0 j = S 12 0 j ∧ W89 15 0 j = S 15 0 j) → (∀ j, W89 13 0 j = W45 13 0 j) → (∀ j, j < S 15 0 a → W89 14 0 j = S 14 0 j) → (∀ y, S 15 0 a ≤ y → y < x → (0 ≤ W89 14 0 y ∧ W89 14 0 y < 68719476736) ∧ ∀ i, 0 ≤ i → i < S 3 16 2 → dg (W89 14 0 y) i = upv (S 5 16) (S 3 16 2) (W45 13 0 y) a i) → e9 - x < (n89 : Int) → Wk E g 4 W89 89 [(0, vr g 12 0), (1, vi a), (2, vi e9), (3, vi x)] [] := by
                    intro n89
                    induction n89 with
                    | zero => intro x W89 hfW89 x0 x1 h12 h13 h14 hup hm89; exact absurd hm89 (by omega)
                    | succ n89 ih89 =>
                      intro x W89 hfW89 x0 x1 h12 h13 h14 hup hm89
                      have enW89 : W89 3 16 2 = S 3 16 2 := hfW89 3 16 2 (by unfold fRt; omega)
                      refine kw_iload_n hC dX4_addHeight_89 rfl 3 rfl ?_
                      refine kw_iload_n hC dX4_addHeight_90 rfl 2 rfl ?_
                      refine kw_icmp_ge (tgt := 117) hC dX4_addHeight_91 rfl (by decide) (by omega) (by omega) ⟨fun c91 => ?_, fun c91 => ?_⟩
                      · refine kw_aload_n hC dX4_addHeight_117 rfl 0 rfl ?_
                        refine kg_12_3 hC w4 f18 dX4_addHeight_118 rfl (by decide) (by decide) ?_
                        refine kw_iload_n hC dX4_addHeight_121 rfl 1 rfl ?_
                        refine kw_iconst hC dX4_addHeight_122 rfl ?_
                        refine kw_iadd hC dX4_addHeight_123 rfl ?_
                        refine kw_iload_n hC dX4_addHeight_124 rfl 2 rfl ?_
                        refine ks_15 hC dX4_addHeight_125 rfl (by decide) (by decide) (by omega) (by omega) ?_
                        refine kw_hv hfW89 (by unfold fRt; omega) (fun S21 hfS21 hv21 ho21 => ?_)
                        have enS21 : S21 3 16 2 = S 3 16 2 := hfS21 3 16 2 (by unfold fRt; omega)
                        have hvA := hv21
                        have hoA := ho21
                        refine kw_aload_n hC dX4_addHeight_126 rfl 0 rfl ?_
                        refine kw_iload_n hC dX4_addHeight_127 rfl 1 rfl ?_
                        refine kp_12_4 hC w4 f26 dX4_addHeight_128 rfl (by decide) (by decide) ?_
                        refine kw_hv hfS21 (by unfold fRt; omega) (fun S22 hfS22 hv22 ho22 => ?_)
                        have enS22 : S22 3 16 2 = S 3 16 2 := hfS22 3 16 2 (by unfold fRt; omega)
                        have hX : RLI S22 := by refine ⟨by rw [hv22]; omega, by rw [ho22 12 0 5 (by omega), hoA 12 0 5 (by omega), (h12 5).1]; exact hL.2.1, ?_⟩; rw [hv22, show S22 5 16 = S 5 16 from funext (fun j => hfS22 5 16 j (by unfold fRt; omega)), enS22]; exact hT.grow a1 a2 hn.2 (fun j hj => by rw [ho22 15 0 j (by omega), hoA 15 0 j (by omega)]; exact (h12 j).2) (by rw [ho22 15 0 _ (by omega)]; exact hvA) (fun x hx => by rw [ho22 13 0 x (by omega), hoA 13 0 x (by omega), h13 x]; exact hlow x hx) (fun x x0 hx => by rw [ho22 14 0 x (by omega), hoA 14 0 x (by omega)]; exact h14 x hx) (by omega) he4 (fun y y0 y1 => by rw [ho22 13 0 y (by omega), hoA 13 0 y (by omega), h13 y]; exact hkk (by omega) y y0 y1) (fun y y0 y1 => by rw [ho22 14 0 y (by omega), hoA 14 0 y (by omega), ho22 13 0 y (by omega), hoA 13 0 y (by omega), h13 y]; exact hup y y0 (by omega)) (fun ha i i0 i1 => by obtain ⟨y, y0, y1, y2⟩ := hown (by omega) ha i i0 i1; exact ⟨y, y0, y1, by rw [ho22 13 0 y (by omega), hoA 13 0 y (by omega), h13 y]; exact y2⟩) (fun lo x i l1 l2 x0 x1 i0 i1 he => by obtain ⟨z, z0, z1, z2⟩ := hcl (by omega) lo x i l1 (by omega) x0 x1 i0 i1 he; exact ⟨z, z0, z1, by rw [ho22 13 0 z (by omega), hoA 13 0 z (by omega), h13 z]; exact z2⟩)
                        have hXX : RLXp (mxz (S 5 16)) (S 3 16 2).toNat S22 := hRX.grow (e := e9) hRS hh a1 hv22 ((ho22 12 0 5 (by omega)).trans ((hoA 12 0 5 (by omega)).trans (h12 5).1)) (fun j hj => (ho22 15 0 j (by omega)).trans ((hoA 15 0 j (by omega)).trans (h12 j).2)) ((ho22 15 0 _ (by omega)).trans hvA) (fun x hx => (ho22 13 0 x (by omega)).trans ((hoA 13 0 x (by omega)).trans ((h13 x).trans (hlow x hx)))) (by rw [show S22 13 0 = W45 13 0 from funext (fun j => (ho22 13 0 j (by omega)).trans ((hoA 13 0 j (by omega)).trans (h13 j)))]; exact hTY) (by omega)
                        exact hR9.2.2.2 rfl _ _ _ dX4_addHeight_131 ⟨rfl, hfS22, hX, hXX, Or.inl hv22⟩
                      · refine kw_aload_n hC dX4_addHeight_94 rfl 0 rfl ?_
                        refine kg_12_2 hC w4 f15 dX4_addHeight_95 rfl (by decide) (by decide) ?_
                        refine kw_iload_n hC dX4_addHeight_98 rfl 3 rfl ?_
                        refine kw_aload_n hC dX4_addHeight_99 rfl 0 rfl ?_
                        refine kw_aload_n hC dX4_addHeight_100 rfl 0 rfl ?_
                        refine kg_12_1 hC w4 f11 dX4_addHeight_101 rfl (by decide) (by decide) ?_
                        refine kw_iload_n hC dX4_addHeight_104 rfl 3 rfl ?_
                        refine ka_13 hC dX4_addHeight_105 rfl (by decide) (by decide) (by omega) (by omega) ?_
                        refine kw_chl (z' := W45 13 0 x) (h13 x) ?_
                        have hk9 := hkk (by omega) x (by omega) (by omega)
                        refine kw_iload_n hC dX4_addHeight_106 rfl 1 rfl ?_
                        refine kw_callV hC (d_X4_findUps hD (hRS.k13 hfW89 (fun j => (h12 j).1) (fun j => (h12 j).2) (fun x _ q => (h13 x).trans (hlow x (by rw [hh, show a - 1 + 1 = a by omega] at q; exact q))) (fun x x0 q => h14 x (by rw [hh, show a - 1 + 1 = a by omega] at q; exact q))) hk9.1.1 hk9.1.2 (by omega) (by omega)) gX4_addHeight_X4_findUps ⟨_, rfl⟩ rfl (by decide) (by decide) rfl ⟨rfl, rfl⟩ 2 (by decide +kernel) ⟨by decide, by decide⟩ rfl rfl (Nat.le_of_ble_eq_true rfl) dX4_addHeight_107 rfl (kd_l (fun r9 S9 hp9 => ?_))
                        obtain ⟨hu0, hu1, hS9⟩ := hp9
                        rw [hS9]
                        refine ks_14 hC dX4_addHeight_110 rfl (by decide) (by decide) (by omega) (by omega) ?_
                        refine kw_hv hfW89 (by unfold fRt; omega) (fun S23 hfS23 hv23 ho23 => ?_)
                        have enS23 : S23 3 16 2 = S 3 16 2 := hfS23 3 16 2 (by unfold fRt; omega)
                        have hup9 : ∀ y, S 15 0 a ≤ y → y < x + 1 → (0 ≤ S23 14 0 y ∧ S23 14 0 y < 68719476736) ∧ ∀ i, 0 ≤ i → i < S 3 16 2 → dg (S23 14 0 y) i = upv (S 5 16) (S 3 16 2) (W45 13 0 y) a i := fun y y0 y1 => by rcases Decidable.em (y = x) with q | q; exact (by rw [q, hv23]; refine ⟨hu0, fun i i0 i1 => ?_⟩; have h9 := hu1 i i0 (by rw [enW89]; exact i1); rw [enW89, show W89 5 16 = S 5 16 from funext (fun j => hfW89 5 16 j (by unfold fRt; omega))] at h9; exact h9); exact (by rw [ho23 14 0 y (by omega)]; exact hup y y0 (by omega))
                        refine kw_iinc (lv' := [(3, _), (0, _), (1, _), (2, _)]) hC dX4_addHeight_111 rfl 3 rfl (by decide) rfl ?_
                        refine kw_goto (tgt := 89) hC dX4_addHeight_114 rfl (by decide) ?_
                        refine kw_lv [1, 2, 3, 0] rfl ?_
                        exact ih89 (x + 1) S23 hfS23 (by omega) (by omega) (fun j => ⟨(ho23 12 0 j (by omega)).trans (h12 j).1, (ho23 15 0 j (by omega)).trans (h12 j).2⟩) (fun j => (ho23 13 0 j (by omega)).trans (h13 j)) (fun j hj => (ho23 14 0 j (by omega)).trans (h14 j hj)) hup9 (by omega)
                  refine kw_lv [1, 2, 3, 0] rfl ?_
                  exact hL89 401 _ W45 hfW45 (by omega) (by omega) (fun j => ⟨(hko j).1, (hko j).2.2⟩) (fun _ => rfl) (fun j _ => (hko j).2.1) (fun y _ _ => by omega) (by omega)
                · refine kw_aload_n hC dX4_addHeight_76 rfl 0 rfl ?_
                  refine kw_iconst hC dX4_addHeight_77 rfl ?_
                  refine kp_12_5 hC w4 f30 dX4_addHeight_78 rfl (by decide) (by decide) (by omega) ?_
                  refine kw_hv hfW45 (by unfold fRt; omega) (fun S24 hfS24 hv24 ho24 => ?_)
                  have enS24 : S24 3 16 2 = S 3 16 2 := hfS24 3 16 2 (by unfold fRt; omega)
                  have hX : RLI S24 := by refine ⟨by rw [ho24 12 0 4 (by omega), (hko 4).1]; omega, Or.inr hv24, ?_⟩; rw [ho24 12 0 4 (by omega), (hko 4).1, show S24 5 16 = S 5 16 from funext (fun j => hfS24 5 16 j (by unfold fRt; omega)), enS24, show S24 15 0 = S 15 0 from funext (fun j => (ho24 15 0 j (by omega)).trans (hko j).2.2), hh]; exact hT.ext (by omega) (fun x _ q => (ho24 13 0 x (by omega)).trans (hlow x (by rw [show a - 1 + 1 = a by omega] at q; exact q))) (fun x _ _ => (ho24 14 0 x (by omega)).trans (hko x).2.1)
                  have hXX : RLXp (mxz (S 5 16)) (S 3 16 2).toNat S24 := hRX.full hRS ((ho24 12 0 4 (by omega)).trans (hko 4).1) (fun j => (ho24 15 0 j (by omega)).trans (hko j).2.2) (fun x q => (ho24 13 0 x (by omega)).trans (hlow x (by rw [hh, show a - 1 + 1 = a by omega] at q; exact q))) (by rw [hh, show a - 1 + 1 = a by omega]; exact hTY.2 (by omega))
                  exact hR9.2.2.2 rfl _ _ _ dX4_addHeight_81 ⟨rfl, hfS24, hX, hXX, Or.inr hv24⟩
              · refine kw_iload_n hC dX4_addHeight_50 rfl 2 rfl ?_
                refine kw_bipush hC dX4_addHeight_51 rfl (by decide) ?_
                refine kw_icmp_eq (tgt := 70) hC dX4_addHeight_53 rfl (by decide) (by omega) (by omega) ⟨fun c53 => ?_, fun c53 => ?_⟩
                · refine kw_iload_n hC dX4_addHeight_70 rfl 2 rfl ?_
                  refine kw_bipush hC dX4_addHeight_71 rfl (by decide) ?_
                  refine kw_icmp_ne (tgt := 82) hC dX4_addHeight_73 rfl (by decide) (by omega) (by omega) ⟨fun c73 => ?_, fun c73 => ?_⟩
                  · refine kw_aload_n hC dX4_addHeight_82 rfl 0 rfl ?_
                    refine kg_12_3 hC w4 f18 dX4_addHeight_83 rfl (by decide) (by decide) ?_
                    refine kw_iload_n hC dX4_addHeight_86 rfl 1 rfl ?_
                    refine ka_15 hC dX4_addHeight_87 rfl (by decide) (by decide) (by omega) (by omega) ?_
                    refine kw_chi (z' := S 15 0 a) (hko a).2.2 ?_
                    refine kw_istore_n (lv' := [(3, _), (0, _), (1, _), (2, _)]) hC dX4_addHeight_88 rfl (by decide) rfl ?_
                    have hL89 : ∀ (n89 : Nat) (x : Int) (W89 : wSt), Fr fRt S W89 → (S 15 0 a ≤ x) → (x ≤ e9) → (∀ j, W89 12 0 j = S 12 0 j ∧ W89 15 0 j = S 15 0 j) → (∀ j, W89 13 0 j = W45 13 0 j) → (∀ j, j < S 15 0 a → W89 14 0 j = S 14 0 j) → (∀ y, S 15 0 a ≤ y → y < x → (0 ≤ W89 14 0 y ∧ W89 14 0 y < 68719476736) ∧ ∀ i, 0 ≤ i → i < S 3 16 2 → dg (W89 14 0 y) i = upv (S 5 16) (S 3 16 2) (W45 13 0 y) a i) → e9 - x < (n89 : Int) → Wk E g 4 W89 89 [(0, vr g 12 0), (1, vi a), (2, vi e9), (3, vi x)] [] := by
                      intro n89
                      induction n89 with
                      | zero => intro x W89 hfW89 x0 x1 h12 h13 h14 hup hm89; exact absurd hm89 (by omega)
                      | succ n89 ih89 =>
                        intro x W89 hfW89 x0 x1 h12 h13 h14 hup hm89
                        have enW89 : W89 3 16 2 = S 3 16 2 := hfW89 3 16 2 (by unfold fRt; omega)
                        refine kw_iload_n hC dX4_addHeight_89 rfl 3 rfl ?_
                        refine kw_iload_n hC dX4_addHeight_90 rfl 2 rfl ?_
                        refine kw_icmp_ge (tgt := 117) hC dX4_addHeight_91 rfl (by decide) (by omega) (by omega) ⟨fun c91 => ?_, fun c91 => ?_⟩
                        · refine kw_aload_n hC dX4_addHeight_117 rfl 0 rfl ?_
                          refine kg_12_3 hC w4 f18 dX4_addHeight_118 rfl (by decide) (by decide) ?_
                          refine kw_iload_n hC dX4_addHeight_121 rfl 1 rfl ?_
                          refine kw_iconst hC dX4_addHeight_122 rfl ?_
                          refine kw_iadd hC dX4_addHeight_123 rfl ?_
                          refine kw_iload_n hC dX4_addHeight_124 rfl 2 rfl ?_
                          refine ks_15 hC dX4_addHeight_125 rfl (by decide) (by decide) (by omega) (by omega) ?_
                          refine kw_hv hfW89 (by unfold fRt; omega) (fun S28 hfS28 hv28 ho28 => ?_)
                          have enS28 : S28 3 16 2 = S 3 16 2 := hfS28 3 16 2 (by unfold fRt; omega)
                          have hvA := hv28
                          have hoA := ho28
                          refine kw_aload_n hC dX4_addHeight_126 rfl 0 rfl ?_
                          refine kw_iload_n hC dX4_addHeight_127 rfl 1 rfl ?_
                          refine kp_12_4 hC w4 f26 dX4_addHeight_128 rfl (by decide) (by decide) ?_
                          refine kw_hv hfS28 (by unfold fRt; omega) (fun S29 hfS29 hv29 ho29 => ?_)
                          have enS29 : S29 3 16 2 = S 3 16 2 := hfS29 3 16 2 (by unfold fRt; omega)
                          have hX : RLI S29 := by refine ⟨by rw [hv29]; omega, by rw [ho29 12 0 5 (by omega), hoA 12 0 5 (by omega), (h12 5).1]; exact hL.2.1, ?_⟩; rw [hv29, show S29 5 16 = S 5 16 from funext (fun j => hfS29 5 16 j (by unfold fRt; omega)), enS29]; exact hT.grow a1 a2 hn.2 (fun j hj => by rw [ho29 15 0 j (by omega), hoA 15 0 j (by omega)]; exact (h12 j).2) (by rw [ho29 15 0 _ (by omega)]; exact hvA) (fun x hx => by rw [ho29 13 0 x (by omega), hoA 13 0 x (by omega), h13 x]; exact hlow x hx) (fun x x0 hx => by rw [ho29 14 0 x (by omega), hoA 14 0 x (by omega)]; exact h14 x hx) (by omega) he4 (fun y y0 y1 => by rw [ho29 13 0 y (by omega), hoA 13 0 y (by omega), h13 y]; exact hkk (by omega) y y0 y1) (fun y y0 y1 => by rw [ho29 14 0 y (by omega), hoA 14 0 y (by omega), ho29 13 0 y (by omega), hoA 13 0 y (by omega), h13 y]; exact hup y y0 (by omega)) (fun ha i i0 i1 => by obtain ⟨y, y0, y1, y2⟩ := hown (by omega) ha i i0 i1; exact ⟨y, y0, y1, by rw [ho29 13 0 y (by omega), hoA 13 0 y (by omega), h13 y]; exact y2⟩) (fun lo x i l1 l2 x0 x1 i0 i1 he => by obtain ⟨z, z0, z1, z2⟩ := hcl (by omega) lo x i l1 (by omega) x0 x1 i0 i1 he; exact ⟨z, z0, z1, by rw [ho29 13 0 z (by omega), hoA 13 0 z (by omega), h13 z]; exact z2⟩)
                          have hXX : RLXp (mxz (S 5 16)) (S 3 16 2).toNat S29 := hRX.grow (e := e9) hRS hh a1 hv29 ((ho29 12 0 5 (by omega)).trans ((hoA 12 0 5 (by omega)).trans (h12 5).1)) (fun j hj => (ho29 15 0 j (by omega)).trans ((hoA 15 0 j (by omega)).trans (h12 j).2)) ((ho29 15 0 _ (by omega)).trans hvA) (fun x hx => (ho29 13 0 x (by omega)).trans ((hoA 13 0 x (by omega)).trans ((h13 x).trans (hlow x hx)))) (by rw [show S29 13 0 = W45 13 0 from funext (fun j => (ho29 13 0 j (by omega)).trans ((hoA 13 0 j (by omega)).trans (h13 j)))]; exact hTY) (by omega)
                          exact hR9.2.2.2 rfl _ _ _ dX4_addHeight_131 ⟨rfl, hfS29, hX, hXX, Or.inl hv29⟩
                        · refine kw_aload_n hC dX4_addHeight_94 rfl 0 rfl ?_
                          refine kg_12_2 hC w4 f15 dX4_addHeight_95 rfl (by decide) (by decide) ?_
                          refine kw_iload_n hC dX4_addHeight_98 rfl 3 rfl ?_
                          refine kw_aload_n hC dX4_addHeight_99 rfl 0 rfl ?_
                          refine kw_aload_n hC dX4_addHeight_100 rfl 0 rfl ?_
                          refine kg_12_1 hC w4 f11 dX4_addHeight_101 rfl (by decide) (by decide) ?_
                          refine kw_iload_n hC dX4_addHeight_104 rfl 3 rfl ?_
                          refine ka_13 hC dX4_addHeight_105 rfl (by decide) (by decide) (by omega) (by omega) ?_
                          refine kw_chl (z' := W45 13 0 x) (h13 x) ?_
                          have hk9 := hkk (by omega) x (by omega) (by omega)
                          refine kw_iload_n hC dX4_addHeight_106 rfl 1 rfl ?_
                          refine kw_callV hC (d_X4_findUps hD (hRS.k13 hfW89 (fun j => (h12 j).1) (fun j => (h12 j).2) (fun x _ q => (h13 x).trans (hlow x (by rw [hh, show a - 1 + 1 = a by omega] at q; exact q))) (fun x x0 q => h14 x (by rw [hh, show a - 1 + 1 = a by omega] at q; exact q))) hk9.1.1 hk9.1.2 (by omega) (by omega)) gX4_addHeight_X4_findUps ⟨_, rfl⟩ rfl (by decide) (by decide) rfl ⟨rfl, rfl⟩ 2 (by decide +kernel) ⟨by decide, by decide⟩ rfl rfl (Nat.le_of_ble_eq_true rfl) dX4_addHeight_107 rfl (kd_l (fun r9 S9 hp9 => ?_))
                          obtain ⟨hu0, hu1, hS9⟩ := hp9
                          rw [hS9]
                          refine ks_14 hC dX4_addHeight_110 rfl (by decide) (by decide) (by omega) (by omega) ?_
                          refine kw_hv hfW89 (by unfold fRt; omega) (fun S30 hfS30 hv30 ho30 => ?_)
                          have enS30 : S30 3 16 2 = S 3 16 2 := hfS30 3 16 2 (by unfold fRt; omega)
                          have hup9 : ∀ y, S 15 0 a ≤ y → y < x + 1 → (0 ≤ S30 14 0 y ∧ S30 14 0 y < 68719476736) ∧ ∀ i, 0 ≤ i → i < S 3 16 2 → dg (S30 14 0 y) i = upv (S 5 16) (S 3 16 2) (W45 13 0 y) a i := fun y y0 y1 => by rcases Decidable.em (y = x) with q | q; exact (by rw [q, hv30]; refine ⟨hu0, fun i i0 i1 => ?_⟩; have h9 := hu1 i i0 (by rw [enW89]; exact i1); rw [enW89, show W89 5 16 = S 5 16 from funext (fun j => hfW89 5 16 j (by unfold fRt; omega))] at h9; exact h9); exact (by rw [ho30 14 0 y (by omega)]; exact hup y y0 (by omega))
                          refine kw_iinc (lv' := [(3, _), (0, _), (1, _), (2, _)]) hC dX4_addHeight_111 rfl 3 rfl (by decide) rfl ?_
                          refine kw_goto (tgt := 89) hC dX4_addHeight_114 rfl (by decide) ?_
                          refine kw_lv [1, 2, 3, 0] rfl ?_
                          exact ih89 (x + 1) S30 hfS30 (by omega) (by omega) (fun j => ⟨(ho30 12 0 j (by omega)).trans (h12 j).1, (ho30 15 0 j (by omega)).trans (h12 j).2⟩) (fun j => (ho30 13 0 j (by omega)).trans (h13 j)) (fun j hj => (ho30 14 0 j (by omega)).trans (h14 j hj)) hup9 (by omega)
                    refine kw_lv [1, 2, 3, 0] rfl ?_
                    exact hL89 401 _ W45 hfW45 (by omega) (by omega) (fun j => ⟨(hko j).1, (hko j).2.2⟩) (fun _ => rfl) (fun j _ => (hko j).2.1) (fun y _ _ => by omega) (by omega)
                  · refine kw_aload_n hC dX4_addHeight_76 rfl 0 rfl ?_
                    refine kw_iconst hC dX4_addHeight_77 rfl ?_
                    refine kp_12_5 hC w4 f30 dX4_addHeight_78 rfl (by decide) (by decide) (by omega) ?_
                    refine kw_hv hfW45 (by unfold fRt; omega) (fun S31 hfS31 hv31 ho31 => ?_)
                    have enS31 : S31 3 16 2 = S 3 16 2 := hfS31 3 16 2 (by unfold fRt; omega)
                    have hX : RLI S31 := by refine ⟨by rw [ho31 12 0 4 (by omega), (hko 4).1]; omega, Or.inr hv31, ?_⟩; rw [ho31 12 0 4 (by omega), (hko 4).1, show S31 5 16 = S 5 16 from funext (fun j => hfS31 5 16 j (by unfold fRt; omega)), enS31, show S31 15 0 = S 15 0 from funext (fun j => (ho31 15 0 j (by omega)).trans (hko j).2.2), hh]; exact hT.ext (by omega) (fun x _ q => (ho31 13 0 x (by omega)).trans (hlow x (by rw [show a - 1 + 1 = a by omega] at q; exact q))) (fun x _ _ => (ho31 14 0 x (by omega)).trans (hko x).2.1)
                    have hXX : RLXp (mxz (S 5 16)) (S 3 16 2).toNat S31 := hRX.full hRS ((ho31 12 0 4 (by omega)).trans (hko 4).1) (fun j => (ho31 15 0 j (by omega)).trans (hko j).2.2) (fun x q => (ho31 13 0 x (by omega)).trans (hlow x (by rw [hh, show a - 1 + 1 = a by omega] at q; exact q))) (by rw [hh, show a - 1 + 1 = a by omega]; exact hTY.2 (by omega))
                    exact hR9.2.2.2 rfl _ _ _ dX4_addHeight_81 ⟨rfl, hfS31, hX, hXX, Or.inr hv31⟩
                · refine kw_aload_n hC dX4_addHeight_56 rfl 0 rfl ?_
                  refine kw_iload_n hC dX4_addHeight_57 rfl 3 rfl ?_
                  refine kw_iload_n hC dX4_addHeight_58 rfl 1 rfl ?_
                  refine kw_iload_n hC dX4_addHeight_59 rfl 2 rfl ?_
                  refine kw_callV hC (f_X4_insertTurned hD (hRS.k13 hfW45 (fun j => (hko j).1) (fun j => (hko j).2.2) (fun x _ q => hlow x (by rw [hh, show a - 1 + 1 = a by omega] at q; exact q)) (fun x _ _ => (hko x).2.1)) (by omega) (by omega) (by omega) (by rw [(hko 4).1]; omega) (by rw [(hko a).2.2]; omega) (by omega) (fun y y0 y1 => by rw [(hko a).2.2] at y0; rw [enW45]; exact hkk (by omega) y y0 y1) (RLX.fr hfW45 (hRX.keep hRS (fun j => (hko j).1) (fun j => (hko j).2.2) (fun x q => hlow x (by rw [hh, show a - 1 + 1 = a by omega] at q; exact q)))) (hTY.fw hfW45 (hko a).2.2)) gX4_addHeight_X4_insertTurned ⟨_, rfl⟩ rfl (by decide) (by decide) rfl ⟨rfl, rfl⟩ 3 (by decide +kernel) ⟨by decide, by decide⟩ rfl rfl (Nat.le_of_ble_eq_true rfl) dX4_addHeight_60 rfl (kd_i (fun r32 S32 hp32 => ?_))
                  obtain ⟨hg32, hp32⟩ := hp32
                  have hfS32 : Fr fRt S S32 := hfW45.trans (hg32.mono (fun k i j h => by unfold fK13 at h; unfold fRt; omega))
                  have enS32 : S32 3 16 2 = S 3 16 2 := hfS32 3 16 2 (by unfold fRt; omega)
                  obtain ⟨hI9, hY9⟩ := hp32
                  have hTY9 := TBY.bk hfW45 (hko a).2.2 hY9
                  obtain ⟨iA, iB⟩ := hI9
                  have gI : ∀ k j, k ≠ 13 → S32 k 0 j = W45 k 0 j := fun k j hk => hg32 k 0 j (by unfold fK13; omega)
                  rw [(hko a).2.2] at iA iB
                  rw [enW45, (hko low).2.2, (hko (low + 1)).2.2] at iB
                  have hko9 : ∀ j, S32 12 0 j = S 12 0 j ∧ S32 14 0 j = S 14 0 j ∧ S32 15 0 j = S 15 0 j := fun j => ⟨(gI 12 j (by decide)).trans (hko j).1, (gI 14 j (by decide)).trans (hko j).2.1, (gI 15 j (by decide)).trans (hko j).2.2⟩
                  have hlow9 : ∀ j, j < S 15 0 a → S32 13 0 j = S 13 0 j := fun j hj => (iA j hj).trans (hlow j hj)
                  have hkk9 : r32 ≠ -3 → ∀ y, S 15 0 a ≤ y → y < r32 → KOK (S 3 16 2) a (S32 13 0 y) := fun hr9 => (iB.resolve_left hr9).2.2.1
                  have hown9 : r32 ≠ -3 → a = 1 → ∀ i9 : Int, 0 ≤ i9 → i9 < S 3 16 2 → ∃ y, S 15 0 a ≤ y ∧ y < r32 ∧ S32 13 0 y = 1 * 64 ^ (5 - i9).toNat := fun _ ha => by omega
                  have hcl9 : r32 ≠ -3 → ∀ lo x i, 1 ≤ lo → lo < low + 1 → S 15 0 lo ≤ x → x < S 15 0 (lo + 1) → 0 ≤ i → i < S 3 16 2 → dg (S 14 0 x) i = a → ∃ z, S 15 0 a ≤ z ∧ z < r32 ∧ S32 13 0 z = S 13 0 x + (a - lo) * 64 ^ (5 - i).toNat := fun hr9 lo x i l0 l1 x0 x1 i0 i1 he => by obtain ⟨q1, q2, q3, q4, q5⟩ := iB.resolve_left hr9; rcases Decidable.em (lo = low) with e | e; exact (by rw [e] at x0 x1 ⊢; have hxa : x < S 15 0 a := (by have := hT.mono (q := low + 1) (r := a) (by omega) (by omega) (by omega); omega); obtain ⟨z, z0, z1, z2⟩ := q5 x i x0 x1 i0 i1 (Or.inl x1) (by rw [(hko x).2.1]; exact he); exact ⟨z, z0, z1, by rw [z2, hlow x hxa]⟩); obtain ⟨z, z0, z1, z2⟩ := hcl (by omega) lo x i l0 (by omega) x0 x1 i0 i1 he; obtain ⟨v, v0, v1, v2⟩ := q4 z z0 z1; exact ⟨v, v0, v1, v2.trans z2⟩
                  have her9 : r32 = -3 ∨ S 15 0 a ≤ r32 := iB.imp id (fun q => by omega)
                  have he49 : r32 ≤ 400 := by rcases iB with q | q; omega; exact q.2.1
                  refine kw_istore_n (lv' := [(2, _), (0, _), (1, _), (3, _)]) hC dX4_addHeight_63 rfl (by decide) rfl ?_
                  refine kw_iinc (lv' := [(3, _), (2, _), (0, _), (1, _)]) hC dX4_addHeight_64 rfl 3 rfl (by decide) rfl ?_
                  refine kw_goto (tgt := 45) hC dX4_addHeight_67 rfl (by decide) ?_
                  refine kw_lv [2, 3, 1, 0] rfl ?_
                  exact ih45 (low + 1) _ S32 hfS32 (by omega) (by omega) hko9 hlow9 her9 he49 hkk9 hown9 hcl9 hTY9 (by omega)
          refine kw_lv [1, 2, 3, 0] rfl ?_
          exact hL45 41 1 _ W9 hfW9 (by omega) (by omega) hko hlow (by omega) (by omega) hkk (fun q1 q2 i i0 i1 => hown q1 q2 i i0 (by omega)) (fun _ lo x i _ _ => by omega) hTY (by omega)
        · have ha1 : a = 1 := by omega
          have hFa0 : S 15 0 a = 0 := by rw [ha1]; exact hF1
          refine kw_aload_n hC dX4_addHeight_25 rfl 0 rfl ?_
          refine kw_iconst hC dX4_addHeight_26 rfl ?_
          refine kw_iload_n hC dX4_addHeight_27 rfl 3 rfl ?_
          refine kw_callS hC (d_X4_pack hD (by omega) (by omega) (by omega) (by omega)) gX4_addHeight_X4_pack rfl ⟨rfl, rfl⟩ 2 (by decide +kernel) ⟨by decide, by decide⟩ rfl rfl (Nat.le_of_ble_eq_true rfl) dX4_addHeight_28 rfl (kd_le ?_)
          have hk1 : KOK (S 3 16 2) 1 (1 * 64 ^ (5 - i).toNat) := by have := (KOK.zero (S 3 16 2)).add (m := 1) (c := i) (by omega) (by omega) (by omega) (by omega) (by omega); rw [Int.zero_add, Int.zero_add] at this; exact this
          have hTY0 : TBY (mxz (S 5 16)) (S 3 16 2).toNat (W9 13 0) 0 e9 a := by have h9 := hTY; rw [hFa0] at h9; exact h9
          have hKR1 : RTp (mxz (S 5 16)) (S 3 16 2).toNat (dgv (1 * 64 ^ (5 - i).toNat)) := by rw [dgv_own (n := 0) (by omega) (by omega)]; exact RTp.own _ (by omega)
          refine kw_iconst hC dX4_addHeight_31 rfl ?_
          refine kw_iload_n hC dX4_addHeight_32 rfl 2 rfl ?_
          refine kw_callV hC (f_X4_insert hD (hk1.1.1) (hk1.1.2) (by omega) (by omega) (by omega) (fun y y0 y1 => (hkk (by omega) y (by omega) y1).1) (hTY0.1 (by omega)).1) gX4_addHeight_X4_insert ⟨_, rfl⟩ rfl (by decide) (by decide) rfl ⟨rfl, rfl⟩ 3 (by decide +kernel) ⟨by decide, by decide⟩ rfl rfl (Nat.le_of_ble_eq_true rfl) dX4_addHeight_33 rfl (kd_i (fun r33 S33 hp33 => ?_))
          obtain ⟨hg33, hp33⟩ := hp33
          have hfS33 : Fr fRt S S33 := hfW9.trans (hg33.mono (fun k i j h => by unfold fK13 at h; unfold fRt; omega))
          have enS33 : S33 3 16 2 = S 3 16 2 := hfS33 3 16 2 (by unfold fRt; omega)
          obtain ⟨hI9, hX9⟩ := hp33
          have hTY9 : TBY (mxz (S 5 16)) (S 3 16 2).toNat (S33 13 0) (S 15 0 a) r33 a := by rw [hFa0]; exact hTY0.ins (hei ha1).1 hI9 hX9 hKR1 (fun _ q _ => by have := hei ha1; omega)
          obtain ⟨iA, iB⟩ := hI9
          have gI : ∀ k j, k ≠ 13 → S33 k 0 j = W9 k 0 j := fun k j hk => hg33 k 0 j (by unfold fK13; omega)
          have iB2 := iB.resolve_left (fun q => by omega)
          have hrE1 : i + 1 ≤ S 3 16 2 := by omega
          have hrF : S 3 16 2 - (i + 1) < (n9 : Int) := by omega
          have hrD : 0 ≤ i + 1 := by omega
          have hrE := hrE1
          have hrG : 0 ≤ e9 ∧ e9 ≤ i := hei ha1
          have hrA : r33 = -3 ∨ S 15 0 a ≤ r33 := by have p1 := iB2.1; clear iB iB2 iA; omega
          have hrB : r33 ≤ 400 := iB2.2.1
          have hrC : a = 1 → 0 ≤ r33 ∧ r33 ≤ i + 1 := fun _ => by have p1 := iB2.1; clear iB iB2 iA; omega
          obtain ⟨p1, p2, ⟨y9, y90, y91, y92⟩, p4, p5⟩ := iB2
          have hkk9 : r33 ≠ -3 → ∀ y, S 15 0 a ≤ y → y < r33 → KOK (S 3 16 2) a (S33 13 0 y) := fun _ y y0 y1 => by rcases p5 y (by omega) y1 with q | ⟨w, w0, w1, w2⟩; exact (by rw [q, ha1]; exact hk1); exact (by rw [w2]; exact hkk (by omega) w (by omega) w1)
          have hown9 : r33 ≠ -3 → a = 1 → ∀ i9 : Int, 0 ≤ i9 → i9 < i + 1 → ∃ y, S 15 0 a ≤ y ∧ y < r33 ∧ S33 13 0 y = 1 * 64 ^ (5 - i9).toNat := fun _ ha i9 i0 i1 => by rcases Decidable.em (i9 = i) with q | q; exact ⟨y9, by omega, y91, by rw [q]; exact y92⟩; obtain ⟨w, w0, w1, w2⟩ := hown (by omega) ha i9 i0 (by omega); obtain ⟨v, v0, v1, v2⟩ := p4 w (by omega) w1; exact ⟨v, by omega, v1, v2.trans w2⟩
          have hko9 : ∀ j, S33 12 0 j = S 12 0 j ∧ S33 14 0 j = S 14 0 j ∧ S33 15 0 j = S 15 0 j := fun j => ⟨(gI 12 j (by decide)).trans (hko j).1, (gI 14 j (by decide)).trans (hko j).2.1, (gI 15 j (by decide)).trans (hko j).2.2⟩
          have hlow9 : ∀ j, j < S 15 0 a → S33 13 0 j = S 13 0 j := fun j hj => (iA j (by rw [ha1, hF1] at hj; exact hj)).trans (hlow j hj)
          refine kw_istore_n (lv' := [(2, _), (0, _), (1, _), (3, _)]) hC dX4_addHeight_36 rfl (by decide) rfl ?_
          refine kw_iinc (lv' := [(3, _), (2, _), (0, _), (1, _)]) hC dX4_addHeight_37 rfl 3 rfl (by decide) rfl ?_
          refine kw_goto (tgt := 9) hC dX4_addHeight_40 rfl (by decide) ?_
          refine kw_lv [2, 3, 1, 0] rfl ?_
          exact ih9 (i + 1) _ S33 hfS33 hrD hrE hko9 hlow9 hrA hrB hrC (fun q => absurd ha1 q) hkk9 hown9 hTY9 hrF
  refine kw_lv [2, 3, 1, 0] rfl ?_
  exact hL9 7 0 _ S hfS (by omega) (by omega) (fun _ => ⟨rfl, rfl, rfl⟩) (fun _ _ => rfl) (by omega) (by omega) (fun q => by rw [q, hF1]; omega) (by omega) (fun _ y _ _ => by omega) (fun _ _ i _ _ => by omega) ⟨fun _ => ⟨fun x y _ _ _ => by omega, fun y _ _ => by omega⟩, fun q => by omega⟩ (by omega)

set_option maxHeartbeats 4000000 in
set_option maxRecDepth 100000 in
theorem f_X4_reaches {g : wG} (hD : wD g) {S : wSt} {a : Int} (hRS : CI S) (a0 : 1 ≤ a) (a1 : a ≤ 40) (hRX : RLX S) (l : Launch) : Kt l yX4_reaches wsX4_reaches ({ frames := 4, cells := 0, slots := 0, locals := 100 } : Room) g S [vr g 12 0, vi a] (pI (fun r S' => Fr fRt S S' ∧ (RLI S' ∧ RLXp (mxz (S 5 16)) (S 3 16 2).toNat S' ∧ (r = 0 ∨ r = 1) ∧ (r = 1 → a ≤ S' 12 0 4) ∧ (r = 0 → S' 12 0 5 = 1 ∧ S' 12 0 4 < a)))) := by
  refine Kt.of (cc := cX4_reaches) (nL := 3) (ret := (some .boolean)) (own := RX4) rfl hD (by decide) rfl (Nat.le_of_ble_eq_true rfl) ⟨rfl, rfl⟩ ?_
  intro E hC hR9
  have f26 : Cond.fieldLink RX4 26 "MirrorBench$RootList" "height" "I" ∈ wsX4_reaches := by decide +kernel
  have f30 : Cond.fieldLink RX4 30 "MirrorBench$RootList" "full" "Z" ∈ wsX4_reaches := by decide +kernel
  have w4 : ∀ w ∈ wsX40, w ∈ wsX4_reaches := by decide +kernel
  show Wk E g 3 S 0 [(0, vr g 12 0), (1, vi a)] []
  have hfS : Fr fRt S S := Fr.rfl _ S
  unfold RLX at hRX
  have hn := hRS.n
  have hL := hRS.rl
  have hL1 := hL.1
  refine kw_aload_n hC dX4_reaches_0 rfl 0 rfl ?_
  refine kg_12_4 hC w4 f26 dX4_reaches_1 rfl (by decide) (by decide) ?_
  refine kw_iconst hC dX4_reaches_4 rfl ?_
  refine kw_iadd hC dX4_reaches_5 rfl ?_
  refine kw_istore_n (lv' := [(2, _), (0, _), (1, _)]) hC dX4_reaches_6 rfl (by decide) rfl ?_
  have hL7 : ∀ (n7 : Nat) (x : Int) (W7 : wSt), Fr fRt S W7 → (1 ≤ x) → (x ≤ 41) → (RLI W7) → (RLXp (mxz (S 5 16)) (S 3 16 2).toNat W7) → (W7 12 0 4 = x - 1 ∨ W7 12 0 5 = 1) → 41 - x < (n7 : Int) → Wk E g 3 W7 7 [(0, vr g 12 0), (1, vi a), (2, vi x)] [] := by
    intro n7
    induction n7 with
    | zero => intro x W7 hfW7 x0 x1 hF hX hor hm7; exact absurd hm7 (by omega)
    | succ n7 ih7 =>
      intro x W7 hfW7 x0 x1 hF hX hor hm7
      refine kw_iload_n hC dX4_reaches_7 rfl 2 rfl ?_
      refine kw_iload_n hC dX4_reaches_8 rfl 1 rfl ?_
      refine kw_icmp_gt (tgt := 30) hC dX4_reaches_9 rfl (by decide) (by omega) (by omega) ⟨fun c9 => ?_, fun c9 => ?_⟩
      · have hFl := hF.1
        refine kw_iload_n hC dX4_reaches_30 rfl 1 rfl ?_
        refine kw_aload_n hC dX4_reaches_31 rfl 0 rfl ?_
        refine kg_12_4 hC w4 f26 dX4_reaches_32 rfl (by decide) (by decide) ?_
        refine kw_icmp_gt (tgt := 42) hC dX4_reaches_35 rfl (by decide) (by omega) (by omega) ⟨fun c35 => ?_, fun c35 => ?_⟩
        · refine kw_iconst hC dX4_reaches_42 rfl ?_
          exact hR9.2.1 rfl _ _ _ _ dX4_reaches_43 (by omega) ⟨_, rfl, hfW7, hF, hX, by omega, fun q => by omega, fun q => by omega⟩
        · refine kw_iconst hC dX4_reaches_38 rfl ?_
          refine kw_goto (tgt := 43) hC dX4_reaches_39 rfl (by decide) ?_
          exact hR9.2.1 rfl _ _ _ _ dX4_reaches_43 (by omega) ⟨_, rfl, hfW7, hF, hX, by omega, fun q => by omega, fun q => by omega⟩
      · have hfu := hF.2.1
        refine kw_aload_n hC dX4_reaches_12 rfl 0 rfl ?_
        refine kg_12_5 hC w4 f30 dX4_reaches_13 rfl (by decide) (by decide) ?_
        refine kw_if_ne (tgt := 30) hC dX4_reaches_16 rfl (by decide) (by omega) ⟨fun c16 => ?_, fun c16 => ?_⟩
        · have hFl := hF.1
          refine kw_iload_n hC dX4_reaches_30 rfl 1 rfl ?_
          refine kw_aload_n hC dX4_reaches_31 rfl 0 rfl ?_
          refine kg_12_4 hC w4 f26 dX4_reaches_32 rfl (by decide) (by decide) ?_
          refine kw_icmp_gt (tgt := 42) hC dX4_reaches_35 rfl (by decide) (by omega) (by omega) ⟨fun c35 => ?_, fun c35 => ?_⟩
          · refine kw_iconst hC dX4_reaches_42 rfl ?_
            exact hR9.2.1 rfl _ _ _ _ dX4_reaches_43 (by omega) ⟨_, rfl, hfW7, hF, hX, by omega, fun q => by omega, fun q => by omega⟩
          · refine kw_iconst hC dX4_reaches_38 rfl ?_
            refine kw_goto (tgt := 43) hC dX4_reaches_39 rfl (by decide) ?_
            exact hR9.2.1 rfl _ _ _ _ dX4_reaches_43 (by omega) ⟨_, rfl, hfW7, hF, hX, by omega, fun q => by omega, fun q => by omega⟩
        · refine kw_aload_n hC dX4_reaches_19 rfl 0 rfl ?_
          refine kw_iload_n hC dX4_reaches_20 rfl 2 rfl ?_
          refine kw_callV hC (f_X4_addHeight hD (hRS.rt hfW7 hF) (by omega) (by omega) (by omega) (RLX.fr hfW7 hX)) gX4_reaches_X4_addHeight ⟨_, rfl⟩ rfl (by decide) (by decide) rfl ⟨rfl, rfl⟩ 1 (by decide +kernel) ⟨by decide, by decide⟩ rfl rfl (Nat.le_of_ble_eq_true rfl) dX4_reaches_21 rfl (kd_v (fun S5 hp5 => ?_))
          obtain ⟨hg5, hp5⟩ := hp5
          have hfS5 : Fr fRt S S5 := hfW7.trans hg5
          obtain ⟨hF9, hX9, hor⟩ := hp5
          replace hX9 := RLX.bk hfW7 hX9
          refine kw_iinc (lv' := [(2, _), (0, _), (1, _)]) hC dX4_reaches_24 rfl 2 rfl (by decide) rfl ?_
          refine kw_goto (tgt := 7) hC dX4_reaches_27 rfl (by decide) ?_
          refine kw_lv [1, 2, 0] rfl ?_
          exact ih7 (x + 1) S5 hfS5 (by omega) (by omega) hF9 hX9 (by omega) (by omega)
  refine kw_lv [1, 2, 0] rfl ?_
  exact hL7 42 _ S hfS (by omega) (by omega) hL hRX (by omega) (by omega)

set_option maxHeartbeats 4000000 in
set_option maxRecDepth 100000 in
theorem f_X4_holds {g : wG} (hD : wD g) {S : wSt} {a : Int} (hRS : CI S) (a0 : 0 ≤ a) (ha : -2147483648 ≤ a ∧ a ≤ 2147483647) (hRX : RLX S) (l : Launch) : Kt l yX4_holds wsX4_holds ({ frames := 5, cells := 0, slots := 0, locals := 122 } : Room) g S [vr g 12 0, vi a] (pI (fun r S' => Fr fRt S S' ∧ (RLI S' ∧ RLXp (mxz (S 5 16)) (S 3 16 2).toNat S' ∧ (r = 0 ∨ r = 1) ∧ (r = 1 → a < S' 15 0 (S' 12 0 4 + 1)) ∧ (r = 0 → S' 12 0 4 < 40 → S' 12 0 5 = 1)))) := by
  refine Kt.of (cc := cX4_holds) (nL := 3) (ret := (some .boolean)) (own := RX4) rfl hD (by decide) rfl (Nat.le_of_ble_eq_true rfl) ⟨rfl, rfl⟩ ?_
  intro E hC hR9
  have f18 : Cond.fieldLink RX4 18 "MirrorBench$RootList" "firsts" "[I" ∈ wsX4_holds := by decide +kernel
  have f26 : Cond.fieldLink RX4 26 "MirrorBench$RootList" "height" "I" ∈ wsX4_holds := by decide +kernel
  have w4 : ∀ w ∈ wsX40, w ∈ wsX4_holds := by decide +kernel
  show Wk E g 3 S 0 [(0, vr g 12 0), (1, vi a)] []
  have hfS : Fr fRt S S := Fr.rfl _ S
  unfold RLX at hRX
  have hn := hRS.n
  have hL := hRS.rl
  have hL1 := hL.1
  refine kw_aload_n hC dX4_holds_0 rfl 0 rfl ?_
  refine kg_12_4 hC w4 f26 dX4_holds_1 rfl (by decide) (by decide) ?_
  refine kw_istore_n (lv' := [(2, _), (0, _), (1, _)]) hC dX4_holds_4 rfl (by decide) rfl ?_
  have hL5 : ∀ (n5 : Nat) (x : Int) (W5 : wSt), Fr fRt S W5 → (0 ≤ x) → (x ≤ 40) → (RLI W5) → (RLXp (mxz (S 5 16)) (S 3 16 2).toNat W5) → (x ≤ W5 12 0 4) → 40 - x < (n5 : Int) → Wk E g 3 W5 5 [(0, vr g 12 0), (1, vi a), (2, vi x)] [] := by
    intro n5
    induction n5 with
    | zero => intro x W5 hfW5 x0 x1 hF hX hxh hm5; exact absurd hm5 (by omega)
    | succ n5 ih5 =>
      intro x W5 hfW5 x0 x1 hF hX hxh hm5
      have hFl := hF.1
      have hFt := hF.2.2.2.2.1
      have hFm := hF.2.2.mono (q := 1) (r := W5 12 0 4 + 1) (by omega) (by omega) (by omega)
      have hF1 := hF.2.2.1
      refine kw_iload_n hC dX4_holds_5 rfl 2 rfl ?_
      refine kw_bipush hC dX4_holds_6 rfl (by decide) ?_
      refine kw_icmp_ge (tgt := 44) hC dX4_holds_8 rfl (by decide) (by omega) (by omega) ⟨fun c8 => ?_, fun c8 => ?_⟩
      · refine kw_iload_n hC dX4_holds_44 rfl 1 rfl ?_
        refine kw_aload_n hC dX4_holds_45 rfl 0 rfl ?_
        refine kg_12_3 hC w4 f18 dX4_holds_46 rfl (by decide) (by decide) ?_
        refine kw_aload_n hC dX4_holds_49 rfl 0 rfl ?_
        refine kg_12_4 hC w4 f26 dX4_holds_50 rfl (by decide) (by decide) ?_
        refine kw_iconst hC dX4_holds_53 rfl ?_
        refine kw_iadd hC dX4_holds_54 rfl ?_
        refine ka_15 hC dX4_holds_55 rfl (by decide) (by decide) (by omega) (by omega) ?_
        refine kw_icmp_ge (tgt := 63) hC dX4_holds_56 rfl (by decide) (by omega) (by omega) ⟨fun c56 => ?_, fun c56 => ?_⟩
        · refine kw_iconst hC dX4_holds_63 rfl ?_
          exact hR9.2.1 rfl _ _ _ _ dX4_holds_64 (by omega) ⟨_, rfl, hfW5, hF, hX, by omega, fun q => by omega, fun q _ => by omega⟩
        · refine kw_iconst hC dX4_holds_59 rfl ?_
          refine kw_goto (tgt := 64) hC dX4_holds_60 rfl (by decide) ?_
          exact hR9.2.1 rfl _ _ _ _ dX4_holds_64 (by omega) ⟨_, rfl, hfW5, hF, hX, by omega, fun q => by omega, fun q _ => by omega⟩
      · refine kw_aload_n hC dX4_holds_11 rfl 0 rfl ?_
        refine kg_12_3 hC w4 f18 dX4_holds_12 rfl (by decide) (by decide) ?_
        refine kw_aload_n hC dX4_holds_15 rfl 0 rfl ?_
        refine kg_12_4 hC w4 f26 dX4_holds_16 rfl (by decide) (by decide) ?_
        refine kw_iconst hC dX4_holds_19 rfl ?_
        refine kw_iadd hC dX4_holds_20 rfl ?_
        refine ka_15 hC dX4_holds_21 rfl (by decide) (by decide) (by omega) (by omega) ?_
        refine kw_iload_n hC dX4_holds_22 rfl 1 rfl ?_
        refine kw_icmp_gt (tgt := 44) hC dX4_holds_23 rfl (by decide) (by omega) (by omega) ⟨fun c23 => ?_, fun c23 => ?_⟩
        · refine kw_iload_n hC dX4_holds_44 rfl 1 rfl ?_
          refine kw_aload_n hC dX4_holds_45 rfl 0 rfl ?_
          refine kg_12_3 hC w4 f18 dX4_holds_46 rfl (by decide) (by decide) ?_
          refine kw_aload_n hC dX4_holds_49 rfl 0 rfl ?_
          refine kg_12_4 hC w4 f26 dX4_holds_50 rfl (by decide) (by decide) ?_
          refine kw_iconst hC dX4_holds_53 rfl ?_
          refine kw_iadd hC dX4_holds_54 rfl ?_
          refine ka_15 hC dX4_holds_55 rfl (by decide) (by decide) (by omega) (by omega) ?_
          refine kw_icmp_ge (tgt := 63) hC dX4_holds_56 rfl (by decide) (by omega) (by omega) ⟨fun c56 => ?_, fun c56 => ?_⟩
          · refine kw_iconst hC dX4_holds_63 rfl ?_
            exact hR9.2.1 rfl _ _ _ _ dX4_holds_64 (by omega) ⟨_, rfl, hfW5, hF, hX, by omega, fun q => by omega, fun q _ => by omega⟩
          · refine kw_iconst hC dX4_holds_59 rfl ?_
            refine kw_goto (tgt := 64) hC dX4_holds_60 rfl (by decide) ?_
            exact hR9.2.1 rfl _ _ _ _ dX4_holds_64 (by omega) ⟨_, rfl, hfW5, hF, hX, by omega, fun q => by omega, fun q _ => by omega⟩
        · refine kw_aload_n hC dX4_holds_26 rfl 0 rfl ?_
          refine kw_iload_n hC dX4_holds_27 rfl 2 rfl ?_
          refine kw_iconst hC dX4_holds_28 rfl ?_
          refine kw_iadd hC dX4_holds_29 rfl ?_
          refine kw_callV hC (f_X4_reaches hD (hRS.rt hfW5 hF) (by omega) (by omega) (RLX.fr hfW5 hX)) gX4_holds_X4_reaches ⟨_, rfl⟩ rfl (by decide) (by decide) rfl ⟨rfl, rfl⟩ 1 (by decide +kernel) ⟨by decide, by decide⟩ rfl rfl (Nat.le_of_ble_eq_true rfl) dX4_holds_30 rfl (kd_i (fun r5 S5 hp5 => ?_))
          obtain ⟨hg5, hp5⟩ := hp5
          have hfS5 : Fr fRt S S5 := hfW5.trans hg5
          obtain ⟨hF9, hX9, hb5, hr15, hr05⟩ := hp5
          replace hX9 := RLX.bk hfW5 hX9
          refine kw_if_ne (tgt := 38) hC dX4_holds_33 rfl (by decide) (by omega) ⟨fun c33 => ?_, fun c33 => ?_⟩
          · refine kw_iinc (lv' := [(2, _), (0, _), (1, _)]) hC dX4_holds_38 rfl 2 rfl (by decide) rfl ?_
            refine kw_goto (tgt := 5) hC dX4_holds_41 rfl (by decide) ?_
            refine kw_lv [1, 2, 0] rfl ?_
            exact ih5 (x + 1) S5 hfS5 (by omega) (by omega) hF9 hX9 (by omega) (by omega)
          · refine kw_iconst hC dX4_holds_36 rfl ?_
            exact hR9.2.1 rfl _ _ _ _ dX4_holds_37 (by omega) ⟨_, rfl, hfS5, hF9, hX9, by omega, fun q => by omega, fun q _ => (hr05 (by omega)).1⟩
  refine kw_lv [1, 2, 0] rfl ?_
  exact hL5 41 _ S hfS (by omega) (by omega) hL hRX (by omega) (by omega)

set_option maxHeartbeats 4000000 in
set_option maxRecDepth 100000 in
theorem f_X4_countAll {g : wG} (hD : wD g) {S : wSt} (hRS : CI S) (hRX : RLX S) (l : Launch) : Kt l yX4_countAll wsX4_countAll ({ frames := 5, cells := 0, slots := 0, locals := 122 } : Room) g S [vr g 12 0] (pI (fun r S' => Fr fRt S S' ∧ (RLI S' ∧ RLXp (mxz (S 5 16)) (S 3 16 2).toNat S' ∧ ((r = -2 ∧ ∀ L, ¬ EndL (mxz (S 5 16)) (S 3 16 2).toNat L) ∨ ((0 ≤ r ∧ r ≤ 400) ∧ 12 ≤ S' 12 0 4 ∧ NoB (mxz (S 5 16)) (S 3 16 2).toNat ∧ r = S' 15 0 12))))) := by
  refine Kt.of (cc := cX4_countAll) (nL := 4) (ret := (some .int)) (own := RX4) rfl hD (by decide) rfl (Nat.le_of_ble_eq_true rfl) ⟨rfl, rfl⟩ ?_
  intro E hC hR9
  have f15 : Cond.fieldLink RX4 15 "MirrorBench$RootList" "ups" "[J" ∈ wsX4_countAll := by decide +kernel
  have f18 : Cond.fieldLink RX4 18 "MirrorBench$RootList" "firsts" "[I" ∈ wsX4_countAll := by decide +kernel
  have f22 : Cond.fieldLink RX4 22 "MirrorBench$RootList" "set" "LMirrorBench$Mirrors;" ∈ wsX4_countAll := by decide +kernel
  have f46 : Cond.fieldLink RX4 46 "MirrorBench$Mirrors" "size" "I" ∈ wsX4_countAll := by decide +kernel
  have w3 : ∀ w ∈ wsX30, w ∈ wsX4_countAll := by decide +kernel
  have w4 : ∀ w ∈ wsX40, w ∈ wsX4_countAll := by decide +kernel
  show Wk E g 4 S 0 [(0, vr g 12 0)] []
  have hfS : Fr fRt S S := Fr.rfl _ S
  have hn := hRS.n
  have hL := hRS.rl
  refine kw_aload_n hC dX4_countAll_0 rfl 0 rfl ?_
  refine kw_bipush hC dX4_countAll_1 rfl (by decide) ?_
  refine kw_callV hC (f_X4_reaches hD hRS (by omega) (by omega) hRX) gX4_countAll_X4_reaches ⟨_, rfl⟩ rfl (by decide) (by decide) rfl ⟨rfl, rfl⟩ 1 (by decide +kernel) ⟨by decide, by decide⟩ rfl rfl (Nat.le_of_ble_eq_true rfl) dX4_countAll_3 rfl (kd_i (fun r1 S1 hp1 => ?_))
  obtain ⟨hg1, hp1⟩ := hp1
  have hfS1 : Fr fRt S S1 := hfS.trans hg1
  obtain ⟨hF, hX, hb1, hr1, hr01⟩ := hp1
  have hr0X := hr01
  have hrX := hr1
  refine kw_if_ne (tgt := 12) hC dX4_countAll_6 rfl (by decide) (by omega) ⟨fun c6 => ?_, fun c6 => ?_⟩
  · have h12 := hrX (by omega)
    have hFl := hF.1
    have e5 : S1 5 16 = S 5 16 := funext fun j => hfS1 5 16 j (by unfold fRt; omega)
    have e3 : S1 3 16 2 = S 3 16 2 := hfS1 3 16 2 (by unfold fRt; omega)
    have hT := hF.2.2
    have hT2 := hT
    rw [e5, e3] at hT2
    have hF1 := hT.1
    have hm1 := hT.mono (q := 1) (r := 12) (by omega) (by omega) (by omega)
    have hm2 := hT.mono (q := 12) (r := S1 12 0 4 + 1) (by omega) (by omega) (by omega)
    have hm3 := hT.2.2.1
    have hups : ∀ x, 0 ≤ x → x < S1 15 0 12 → 0 ≤ S1 14 0 x ∧ S1 14 0 x < 68719476736 := fun x x0 x1 => by obtain ⟨q, q1, q2, q3, q4⟩ := hT.find 11 x (by omega) x0 x1; exact (hT.2.2.2.1 q x q1 (by omega) q3 q4).2.2.2.1
    refine kw_aload_n hC dX4_countAll_12 rfl 0 rfl ?_
    refine kg_12_3 hC w4 f18 dX4_countAll_13 rfl (by decide) (by decide) ?_
    refine kw_bipush hC dX4_countAll_16 rfl (by decide) ?_
    refine ka_15 hC dX4_countAll_18 rfl (by decide) (by decide) (by omega) (by omega) ?_
    refine kw_istore_n (lv' := [(1, _), (0, _)]) hC dX4_countAll_19 rfl (by decide) rfl ?_
    refine kw_iconst hC dX4_countAll_20 rfl ?_
    refine kw_istore_n (lv' := [(2, _), (1, _), (0, _)]) hC dX4_countAll_21 rfl (by decide) rfl ?_
    have hL22 : ∀ (n22 : Nat) (x : Int), (0 ≤ x) → (x ≤ S1 15 0 12) → (∀ y, 0 ≤ y → y < x → ∀ i, 0 ≤ i → i < S1 3 16 2 → dg (S1 14 0 y) i ≤ 11) → S1 15 0 12 - x < (n22 : Int) → Wk E g 4 S1 22 [(0, vr g 12 0), (1, vi (S1 15 0 12)), (2, vi x)] [] := by
      intro n22
      induction n22 with
      | zero => intro x x0 x1 hall hm22; exact absurd hm22 (by omega)
      | succ n22 ih22 =>
        intro x x0 x1 hall hm22
        refine kw_iload_n hC dX4_countAll_22 rfl 2 rfl ?_
        refine kw_iload_n hC dX4_countAll_23 rfl 1 rfl ?_
        refine kw_icmp_ge (tgt := 70) hC dX4_countAll_24 rfl (by decide) (by omega) (by omega) ⟨fun c24 => ?_, fun c24 => ?_⟩
        · refine kw_iload_n hC dX4_countAll_70 rfl 1 rfl ?_
          exact hR9.1 rfl _ _ _ _ dX4_countAll_71 ⟨_, rfl, hfS1, hF, hX, Or.inr ⟨⟨by omega, by omega⟩, h12, by rw [← e5, ← e3]; exact roots_noB hT h12 (kd := S 4 16) (by rw [e5, e3]; exact hRS.set) (fun y y0 y1 i i0 i1 => hall y y0 (by omega) i i0 i1), rfl⟩⟩
        · refine kw_iconst hC dX4_countAll_27 rfl ?_
          refine kw_istore_n (lv' := [(3, _), (0, _), (1, _), (2, _)]) hC dX4_countAll_28 rfl (by decide) rfl ?_
          have hL29 : ∀ (n29 : Nat) (i : Int), (0 ≤ i) → (i ≤ S1 3 16 2) → (∀ i8 : Int, 0 ≤ i8 → i8 < i → dg (S1 14 0 x) i8 ≤ 11) → S1 3 16 2 - i < (n29 : Int) → Wk E g 4 S1 29 [(0, vr g 12 0), (1, vi (S1 15 0 12)), (2, vi x), (3, vi i)] [] := by
            intro n29
            induction n29 with
            | zero => intro i i0 i1 hal2 hm29; exact absurd hm29 (by omega)
            | succ n29 ih29 =>
              intro i i0 i1 hal2 hm29
              refine kw_iload_n hC dX4_countAll_29 rfl 3 rfl ?_
              refine kw_aload_n hC dX4_countAll_30 rfl 0 rfl ?_
              refine kg_12_0 hC w4 f22 dX4_countAll_31 rfl (by decide) (by decide) ?_
              refine kg_3_2 hC w3 f46 dX4_countAll_34 rfl (by omega) (by omega) ?_
              refine kw_icmp_ge (tgt := 64) hC dX4_countAll_37 rfl (by decide) (by omega) (by omega) ⟨fun c37 => ?_, fun c37 => ?_⟩
              · refine kw_iinc (lv' := [(2, _), (0, _), (1, _), (3, _)]) hC dX4_countAll_64 rfl 2 rfl (by decide) rfl ?_
                refine kw_goto (tgt := 22) hC dX4_countAll_67 rfl (by decide) ?_
                refine kw_lv [1, 2, 0] rfl ?_
                exact ih22 (x + 1) (by omega) (by omega) (fun y y0 y1 i8 i0 i1 => by rcases Decidable.em (y = x) with e | e; exact (by rw [e]; exact hal2 i8 i0 (by omega)); exact hall y y0 (by omega) i8 i0 i1) (by omega)
              · refine kw_aload_n hC dX4_countAll_40 rfl 0 rfl ?_
                refine kg_12_2 hC w4 f15 dX4_countAll_41 rfl (by decide) (by decide) ?_
                refine kw_iload_n hC dX4_countAll_44 rfl 2 rfl ?_
                refine ka_14 hC dX4_countAll_45 rfl (by decide) (by decide) (by omega) (by omega) ?_
                have hux := hups x (by omega) (by omega)
                refine kw_iload_n hC dX4_countAll_46 rfl 3 rfl ?_
                refine kw_callS hC (d_X4_unpack hD hux.1 hux.2 (by omega) (by omega)) gX4_countAll_X4_unpack rfl ⟨rfl, rfl⟩ 2 (by decide +kernel) ⟨by decide, by decide⟩ rfl rfl (Nat.le_of_ble_eq_true rfl) dX4_countAll_47 rfl (kd_ie ?_)
                refine kw_bipush hC dX4_countAll_50 rfl (by decide) ?_
                refine kw_icmp_le (tgt := 58) hC dX4_countAll_52 rfl (by decide) (by have := dg_r (S1 14 0 x) i; omega) (by omega) ⟨fun c52 => ?_, fun c52 => ?_⟩
                · refine kw_iinc (lv' := [(3, _), (0, _), (1, _), (2, _)]) hC dX4_countAll_58 rfl 3 rfl (by decide) rfl ?_
                  refine kw_goto (tgt := 29) hC dX4_countAll_61 rfl (by decide) ?_
                  refine kw_lv [1, 2, 3, 0] rfl ?_
                  exact ih29 (i + 1) (by omega) (by omega) (fun i8 q0 q1 => by rcases Decidable.em (i8 = i) with e | e; exact (by rw [e]; omega); exact hal2 i8 q0 (by omega)) (by omega)
                · refine kw_bipush hC dX4_countAll_55 rfl (by decide) ?_
                  exact hR9.1 rfl _ _ _ _ dX4_countAll_57 ⟨_, rfl, hfS1, hF, hX, Or.inl ⟨rfl, fun L hL => ups_no hn hRS.set.mok.z hT2 hX h12 x0 (by omega) i0 (by omega) (by omega) hL⟩⟩
          refine kw_lv [1, 2, 3, 0] rfl ?_
          exact hL29 7 0 (by omega) (by omega) (fun y _ _ => by omega) (by omega)
    refine kw_lv [2, 1, 0] rfl ?_
    exact hL22 401 0 (by omega) (by omega) (fun y _ _ => by omega) (by omega)
  · refine kw_bipush hC dX4_countAll_9 rfl (by decide) ?_
    exact hR9.1 rfl _ _ _ _ dX4_countAll_11 ⟨_, rfl, hfS1, hF, hX, Or.inl ⟨rfl, fun L hL => (hX.2.2 (hr0X (by omega)).1).noL hRS.set.mok.z hL.1⟩⟩
end
