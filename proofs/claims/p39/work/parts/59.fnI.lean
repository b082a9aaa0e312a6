section
/-! the roots of a set that ends: heights, and each comes from a lower one -/
def rooJ (t : Nat) : Bool :=
  let R := rooT.getD t []
  let K := tyK t
  R.all (fun p => Nat.ble (smN K (fun j => p.getD j 0)) 11 && (anyN K (fun i => allN K (fun b => Nat.beq (p.getD b 0) (bif Nat.beq b i then 1 else 0))) || anyN K (fun i => Nat.blt (smN K (fun j => tyN t i j * p.getD j 0)) (2 * p.getD i 0))))
theorem rooj_ok : allN 21 rooJ = true := by decide +kernel
theorem rooG {t : Nat} (ht : t < 21) {p : List Nat} (hp : p ∈ rooT.getD t []) : smN (tyK t) (fun j => p.getD j 0) ≤ 11 ∧ ((∃ i, i < tyK t ∧ ∀ b, b < tyK t → p.getD b 0 = if b = i then 1 else 0) ∨ ∃ i, i < tyK t ∧ smN (tyK t) (fun j => tyN t i j * p.getD j 0) < 2 * p.getD i 0) := by
  have h := allN_e rooj_ok t ht
  simp only [rooJ] at h
  have h := List.all_eq_true.mp h p hp
  simp only [Bool.and_eq_true, Bool.or_eq_true, Nat.ble_eq] at h
  refine ⟨h.1, h.2.imp (fun q => ?_) (fun q => ?_)⟩
  · obtain ⟨i, hi, q⟩ := anyN_e q
    refine ⟨i, hi, fun b hb => ?_⟩
    rw [Nat.beq_eq.mp (allN_e q b hb)]
    by_cases e : b = i
    · subst e; simp
    · rw [if_neg e, b_ne e]; rfl
  · obtain ⟨i, hi, q⟩ := anyN_e q
    exact ⟨i, hi, Nat.blt_eq.mp q⟩
theorem roots_of2 {M : Nat → Nat → Int} {n : Nat} (hM : MOk M n) (hn : n ≤ 6) (hU : NoB M n) : ∃ L, RLi M n L ∧ ∀ p, p ∈ L → sm n p ≤ 11 ∧ (∀ j, n ≤ j → p j = 0) ∧ ((∃ i, i < n ∧ p = ownV i) ∨ ∃ i, i < n ∧ 0 < prg M n p i) := by
  obtain ⟨cs, h1, h2, h3⟩ := decomp hM hn hU n (Nat.le_refl n)
  obtain ⟨ve, hve⟩ : ∃ f : List Nat → Nat → Int, f = fun p a => (p.getD a 0 : Int) := ⟨_, rfl⟩
  have vea : ∀ p a, ve p a = (p.getD a 0 : Int) := fun p a => by rw [hve]
  refine ⟨cs.flatMap (fun c => (rooT.getD c.1 []).map (fun p => emb (tyK c.1) c.2 (ve p))), ⟨?_, ?_, ?_, ?_⟩, ?_⟩
  · have hlen : ∀ ds : List (Nat × (Nat → Nat)), (∀ c, c ∈ ds → c.1 < 21) → (ds.flatMap (fun c => (rooT.getD c.1 []).map (fun p => emb (tyK c.1) c.2 (ve p)))).length ≤ 6 * (ds.map (fun c => tyK c.1)).sum := by
      intro ds
      induction ds with
      | nil => intro _; exact Nat.zero_le _
      | cons c ds ih =>
        intro hd
        have := ih (fun d hd9 => hd d (List.mem_cons_of_mem _ hd9))
        have := (rooF (hd c List.mem_cons_self)).1
        simp only [List.flatMap_cons, List.length_append, List.length_map, List.map_cons, List.sum_cons]
        omega
    have := hlen cs (fun c hc => (h1 c hc).iso.t0)
    have e := sum_tyK cs
    have := php_list (m := List.range n) h2 (fun x hx => by
      obtain ⟨c, hc, a, ha, rfl⟩ := mem_cov.mp hx
      exact List.mem_range.mpr ((h1 c hc).iso.lt a ha))
    rw [List.length_range] at this
    omega
  · intro i hi
    obtain ⟨c, hc, a, ha, rfl⟩ := mem_cov.mp (h3 i hi)
    obtain ⟨q, hq, hq2⟩ := (rooF (h1 c hc).iso.t0).2.1 a ha
    refine List.mem_flatMap.mpr ⟨c, hc, List.mem_map.mpr ⟨q, hq, ?_⟩⟩
    rw [← emb_own (h1 c hc).iso.inj ha]
    exact emb_ext (fun b hb => by rw [vea, hq2 b hb]; split <;> rfl)
  · intro p hp i hi
    obtain ⟨c, hc, hp⟩ := List.mem_flatMap.mp hp
    obtain ⟨p, hp2, rfl⟩ := List.mem_map.mp hp
    have hI := (h1 c hc).iso
    by_cases hin : ∃ a, a < tyK c.1 ∧ c.2 a = i
    · obtain ⟨a, ha, rfl⟩ := hin
      rcases ((rooF hI.t0).2.2 p hp2).2 a ha with h5 | ⟨q, hq, hq2⟩
      · left
        rw [← emb_own hI.inj ha]
        exact emb_ext (fun b hb => by rw [vea, h5 b hb]; split <;> rfl)
      · right
        refine List.mem_flatMap.mpr ⟨c, hc, List.mem_map.mpr ⟨q, hq, ?_⟩⟩
        funext x
        have epr : prg M n (emb (tyK c.1) c.2 (ve p)) (c.2 a) = 2 * ve p a - sm (tyK c.1) (fun b => tyM c.1 a b * ve p b) := by
          unfold prg
          rw [sm_emb hI.lt, emb_at hI.inj ha]
          congr 1
          exact sm_congr (fun b hb => by rw [hI.eq a b ha hb])
        unfold rfx
        by_cases hx : ∃ b, b < tyK c.1 ∧ c.2 b = x
        · obtain ⟨b, hb, rfl⟩ := hx
          have h6 := hq2 b hb
          by_cases e : b = a
          · subst e
            rw [if_pos rfl] at h6
            rw [if_pos rfl, epr, emb_at hI.inj hb, emb_at hI.inj hb, vea, vea]
            have h7 : ((p.getD b 0 : Nat) : Int) + (q.getD b 0 : Nat) = sm (tyK c.1) (fun j => tyM c.1 b j * ve p j) := by
              rw [← Int.natCast_add, Nat.add_comm, h6, smN_c]
              exact sm_congr (fun j _ => by rw [vea, Int.natCast_mul]; rfl)
            omega
          · rw [if_neg e] at h6
            rw [if_neg (fun e2 => e (hI.inj b a hb ha e2)), emb_at hI.inj hb, emb_at hI.inj hb, vea, vea, h6]
        · have ho : ∀ b, b < tyK c.1 → c.2 b ≠ x := fun b hb e => hx ⟨b, hb, e⟩
          rw [if_neg (fun e => ho a ha e.symm), emb_out ho, emb_out ho]
    · right
      have ho : ∀ b, b < tyK c.1 → c.2 b ≠ i := fun b hb e => hin ⟨b, hb, e⟩
      have e : rfx M n (emb (tyK c.1) c.2 (ve p)) i = emb (tyK c.1) c.2 (ve p) := by
        funext x
        unfold rfx
        split
        · rename_i e
          subst e
          unfold prg
          rw [sm_emb hI.lt, emb_out ho, sm_zero (fun b hb => by rw [(h1 c hc).mx x hi ho b hb]; omega)]
          rfl
        · rfl
      rw [e]
      exact List.mem_flatMap.mpr ⟨c, hc, List.mem_map.mpr ⟨p, hp2, rfl⟩⟩
  · intro p hp j
    obtain ⟨c, hc, hp⟩ := List.mem_flatMap.mp hp
    obtain ⟨p, hp2, rfl⟩ := List.mem_map.mp hp
    have hI := (h1 c hc).iso
    by_cases hx : ∃ b, b < tyK c.1 ∧ c.2 b = j
    · obtain ⟨b, hb, rfl⟩ := hx
      rw [emb_at hI.inj hb, vea]
      have := ((rooF hI.t0).2.2 p hp2).1 b hb
      omega
    · rw [emb_out (fun b hb e => hx ⟨b, hb, e⟩)]
      omega
  · intro p hp
    obtain ⟨c, hc, hp⟩ := List.mem_flatMap.mp hp
    obtain ⟨p, hp2, rfl⟩ := List.mem_map.mp hp
    have hI := (h1 c hc).iso
    obtain ⟨g1, g2⟩ := rooG hI.t0 hp2
    refine ⟨?_, fun j hj => emb_out (fun a ha e => by have := hI.lt a ha; omega), ?_⟩
    · have e := sm_emb hI.lt (n := n) (k := tyK c.1) (c := ve p) (fun _ => 1)
      simp only [Int.one_mul] at e
      rw [show sm n (emb (tyK c.1) c.2 (ve p)) = sm n (fun j => emb (tyK c.1) c.2 (ve p) j) from rfl, e]
      have e2 : sm (tyK c.1) (ve p) = ((smN (tyK c.1) (fun j => p.getD j 0) : Nat) : Int) := by
        rw [smN_c]
        exact sm_congr (fun a _ => vea p a)
      rw [show sm (tyK c.1) (fun a => ve p a) = sm (tyK c.1) (ve p) from rfl, e2]
      omega
    · rcases g2 with ⟨i, hi, h5⟩ | ⟨i, hi, h5⟩
      · left
        refine ⟨c.2 i, hI.lt i hi, ?_⟩
        rw [← emb_own hI.inj hi]
        exact emb_ext (fun b hb => by rw [vea, h5 b hb]; split <;> rfl)
      · right
        refine ⟨c.2 i, hI.lt i hi, ?_⟩
        unfold prg
        rw [sm_emb hI.lt, emb_at hI.inj hi, vea]
        have e : sm (tyK c.1) (fun a => M (c.2 i) (c.2 a) * ve p a) = ((smN (tyK c.1) (fun j => tyN c.1 i j * p.getD j 0) : Nat) : Int) := by
          rw [smN_c]
          refine sm_congr (fun a ha => ?_)
          rw [hI.eq i a hi ha, vea, Int.natCast_mul]
          rfl
        rw [e]
        omega
end
section
/-! what turning up makes of the own ones -/
def RTp (M : Nat → Nat → Int) (n : Nat) (x : Nat → Int) : Prop := ∀ P : (Nat → Int) → Prop, (∀ i, i < n → P (ownV i)) → (∀ x i, P x → i < n → prg M n x i < 0 → P (rfx M n x i)) → P x
theorem RTp.own {M : Nat → Nat → Int} {n : Nat} (i : Nat) (hi : i < n) : RTp M n (ownV i) := fun _ h _ => h i hi
theorem RTp.up {M : Nat → Nat → Int} {n : Nat} (x : Nat → Int) (i : Nat) (h : RTp M n x) (hi : i < n) (hp : prg M n x i < 0) : RTp M n (rfx M n x i) := fun P h1 h2 => h2 x i (h P h1 h2) hi hp
theorem RTp.ind {M : Nat → Nat → Int} {n : Nat} {P : (Nat → Int) → Prop} {x : Nat → Int} (h : RTp M n x) (h1 : ∀ i, i < n → P (ownV i)) (h2 : ∀ x i, RTp M n x → i < n → prg M n x i < 0 → P x → P (rfx M n x i)) : P x := (h (fun z => RTp M n z ∧ P z) (fun i hi => ⟨RTp.own i hi, h1 i hi⟩) (fun x i q hi hp => ⟨RTp.up x i q.1 hi hp, h2 x i q.1 hi hp q.2⟩)).2
def EndL (M : Nat → Nat → Int) (n : Nat) (L : List (Nat → Int)) : Prop := RLi M n L ∧ ∀ p, p ∈ L → sm n p ≤ 11 ∧ (∀ j, n ≤ j → p j = 0) ∧ ((∃ i, i < n ∧ p = ownV i) ∨ ∃ i, i < n ∧ 0 < prg M n p i)
theorem prg_cg {M M' : Nat → Nat → Int} {n : Nat} (h : ∀ i j, i < n → j < n → M' i j = M i j) {x : Nat → Int} {i : Nat} (hi : i < n) : prg M' n x i = prg M n x i := by
  unfold prg
  rw [sm_congr (fun j hj => by rw [h i j hi hj])]
theorem rfx_cg {M M' : Nat → Nat → Int} {n : Nat} (h : ∀ i j, i < n → j < n → M' i j = M i j) {x : Nat → Int} {i : Nat} (hi : i < n) : rfx M' n x i = rfx M n x i := by
  funext j
  unfold rfx
  rw [prg_cg h hi]
theorem RLi.cg {M M' : Nat → Nat → Int} {n : Nat} (h : ∀ i j, i < n → j < n → M' i j = M i j) {L : List (Nat → Int)} (q : RLi M n L) : RLi M' n L := ⟨q.1, q.2.1, fun p hp i hi => by rw [rfx_cg h hi]; exact q.2.2.1 p hp i hi, q.2.2.2⟩
theorem EndL.cg {M M' : Nat → Nat → Int} {n : Nat} (h : ∀ i j, i < n → j < n → M' i j = M i j) {L : List (Nat → Int)} (q : EndL M n L) : EndL M' n L := ⟨q.1.cg h, fun p hp => by
  obtain ⟨a, b, c⟩ := q.2 p hp
  exact ⟨a, b, c.imp id (fun ⟨i, hi, c⟩ => ⟨i, hi, by rw [prg_cg h hi]; exact c⟩)⟩⟩
theorem RTp.cg {M M' : Nat → Nat → Int} {n : Nat} (h : ∀ i j, i < n → j < n → M' i j = M i j) {x : Nat → Int} (q : RTp M n x) : RTp M' n x := by
  refine q.ind (fun i hi => RTp.own i hi) (fun x i _ hi hp ih => ?_)
  rw [← rfx_cg h hi]
  exact RTp.up x i ih hi (by rw [prg_cg h hi]; exact hp)
theorem prg_own {M : Nat → Nat → Int} {n i : Nat} (hi : i < n) (hz : M i i = 0) : prg M n (ownV i) i = 2 := by
  unfold prg
  rw [sm_own (fun j => M i j) hi, hz]
  unfold ownV
  rw [if_pos rfl]
  rfl
theorem RTp.inL {M : Nat → Nat → Int} {n : Nat} {L : List (Nat → Int)} (hz : ∀ i, i < n → M i i = 0) (hL : RLi M n L) {x : Nat → Int} (h : RTp M n x) : x ∈ L := by
  refine h.ind (fun i hi => hL.own i hi) (fun x i _ hi hp ih => ?_)
  refine (hL.cl x ih i hi).resolve_left (fun e => ?_)
  rw [e, prg_own hi (hz i hi)] at hp
  omega
theorem sm_rfx2 {M : Nat → Nat → Int} {n : Nat} {x : Nat → Int} {i : Nat} (hi : i < n) : sm n (rfx M n x i) = sm n x - prg M n x i := sm_rfx hi
theorem RTp.ofL {M : Nat → Nat → Int} {n : Nat} {L : List (Nat → Int)} (hz : ∀ i, i < n → M i i = 0) (hL : EndL M n L) : ∀ (m : Nat) (x : Nat → Int), (sm n x).toNat ≤ m → x ∈ L → RTp M n x := by
  intro m
  induction m with
  | zero =>
    intro x hm hx
    rcases (hL.2 x hx).2.2 with ⟨i, hi, rfl⟩ | ⟨i, hi, hp⟩
    · exact RTp.own i hi
    · have h0 := sm_nonneg (n := n) (f := x) (fun j _ => (hL.1.nn x hx j).1)
      have h1 := sm_ge (n := n) (f := x) (fun j _ => (hL.1.nn x hx j).1) hi
      have h2 : 2 * x i - sm n (fun j => M i j * x j) > 0 := hp
      have h3 : ∀ j, j < n → x j = 0 := fun j hj => by
        have := sm_ge (n := n) (f := x) (fun j _ => (hL.1.nn x hx j).1) hj
        have := (hL.1.nn x hx j).1
        omega
      rw [sm_zero (fun j hj => by rw [h3 j hj, Int.mul_zero]), h3 i hi] at h2
      omega
  | succ m ih =>
    intro x hm hx
    rcases (hL.2 x hx).2.2 with ⟨i, hi, rfl⟩ | ⟨i, hi, hp⟩
    · exact RTp.own i hi
    · rcases hL.1.cl x hx i hi with e | e
      · rw [e]; exact RTp.own i hi
      · have h1 := sm_rfx2 (M := M) (x := x) hi
        have h0 := sm_nonneg (n := n) (f := rfx M n x i) (fun j _ => (hL.1.nn _ e j).1)
        have h2 := ih (rfx M n x i) (by omega) e
        have h3 := RTp.up (rfx M n x i) i h2 hi (by rw [prg_rfx (hz i hi)]; omega)
        rw [rfx_rfx (hz i hi)] at h3
        exact h3
/-- more than 400 up to a height -/
def RMo (M : Nat → Nat → Int) (n : Nat) (h : Int) : Prop := ∃ l : List (Nat → Int), l.Nodup ∧ 400 < l.length ∧ ∀ x, x ∈ l → RTp M n x ∧ sm n x ≤ h
theorem RMo.noL {M : Nat → Nat → Int} {n : Nat} {h : Int} (q : RMo M n h) {L : List (Nat → Int)} (hz : ∀ i, i < n → M i i = 0) (hL : RLi M n L) : False := by
  haveI : DecidableEq (Nat → Int) := fun a b => Classical.propDecidable (a = b)
  obtain ⟨l, h1, h2, h3⟩ := q
  have h4 := php_list h1 (fun x hx => (h3 x hx).1.inL hz hL)
  have := hL.len
  omega
theorem RMo.mono {M : Nat → Nat → Int} {n : Nat} {h h' : Int} (q : RMo M n h) (hh : h ≤ h') : RMo M n h' := by
  obtain ⟨l, h1, h2, h3⟩ := q
  exact ⟨l, h1, h2, fun x hx => ⟨(h3 x hx).1, Int.le_trans (h3 x hx).2 hh⟩⟩
theorem RMo.cg {M M' : Nat → Nat → Int} {n : Nat} {h : Int} (e : ∀ i j, i < n → j < n → M' i j = M i j) (q : RMo M n h) : RMo M' n h := by
  obtain ⟨l, h1, h2, h3⟩ := q
  exact ⟨l, h1, h2, fun x hx => ⟨(h3 x hx).1.cg e, (h3 x hx).2⟩⟩
/-! packed roots -/
def dgv (k : Int) : Nat → Int := fun b => if b < 6 then dg k (b : Int) else 0
theorem dg_inj {k k' : Int} (h0 : 0 ≤ k ∧ k < 68719476736) (h1 : 0 ≤ k' ∧ k' < 68719476736) (h : dgv k = dgv k') : k = k' := by
  have e : ∀ b : Nat, b < 6 → dg k (b : Int) = dg k' (b : Int) := fun b hb => by
    have := congrFun h b
    unfold dgv at this
    rw [if_pos hb, if_pos hb] at this
    exact this
  have e0 := e 0 (by decide)
  have e1 := e 1 (by decide)
  have e2 := e 2 (by decide)
  have e3 := e 3 (by decide)
  have e4 := e 4 (by decide)
  have e5 := e 5 (by decide)
  unfold dg at e0 e1 e2 e3 e4 e5
  simp only [show ((5 : Int) - ((0 : Nat) : Int)).toNat = 5 from rfl, show ((5 : Int) - ((1 : Nat) : Int)).toNat = 4 from rfl, show ((5 : Int) - ((2 : Nat) : Int)).toNat = 3 from rfl, show ((5 : Int) - ((3 : Nat) : Int)).toNat = 2 from rfl, show ((5 : Int) - ((4 : Nat) : Int)).toNat = 1 from rfl, show ((5 : Int) - ((5 : Nat) : Int)).toNat = 0 from rfl, show ((64 : Int) ^ 5) = 1073741824 from rfl, show ((64 : Int) ^ 4) = 16777216 from rfl, show ((64 : Int) ^ 3) = 262144 from rfl, show ((64 : Int) ^ 2) = 4096 from rfl, show ((64 : Int) ^ 1) = 64 from rfl, show ((64 : Int) ^ 0) = 1 from rfl] at e0 e1 e2 e3 e4 e5
  omega
theorem dgv_sm {n q k : Int} (hn : 0 ≤ n ∧ n ≤ 6) (h : KOK n q k) : sm n.toNat (dgv k) = q := by
  have e1 : sm 6 (dgv k) = q := by rw [← h.2.1]; exact sm_congr (fun b hb => by unfold dgv; rw [if_pos hb])
  have e2 : ∀ m : Nat, n.toNat ≤ m → m ≤ 6 → sm m (dgv k) = sm n.toNat (dgv k) := by
    intro m
    induction m with
    | zero => intro h1 _; rw [show n.toNat = 0 by omega]
    | succ m ih =>
      intro h1 h2
      by_cases e : n.toNat = m + 1
      · rw [e]
      · rw [sm, ih (by omega) (by omega)]
        have : dgv k m = 0 := by unfold dgv; rw [if_pos (by omega)]; exact h.2.2 _ (by omega) (by omega)
        omega
  rw [← e2 6 (by omega) (Nat.le_refl _)]
  exact e1
theorem dgv_own {n i : Int} (i0 : 0 ≤ i) (i1 : i < 6) : dgv (1 * 64 ^ (5 - i).toNat) = ownV i.toNat := by
  funext b
  unfold dgv ownV
  by_cases hb : b < 6
  · rw [if_pos hb]
    have h9 := dg_add (k := 0) (m := 1) (c := i) (b := (b : Int)) (by omega) (by omega) i0 i1 (by omega) (by omega) (by rw [dg_0]; omega)
    rw [Int.zero_add, dg_0, Int.zero_add] at h9
    rw [h9]
    by_cases e : b = i.toNat
    · rw [if_pos (by omega), if_pos e]
    · rw [if_neg (by omega), if_neg e]
  · rw [if_neg hb, if_neg (by omega)]
/-- a root turned up, packed -/
theorem dgv_up {mt : Int → Int} {n a b k u i : Int} (hn : 0 ≤ n ∧ n ≤ 6) (hk : KOK n a k) (i0 : 0 ≤ i) (i1 : i < n) (hu : u = upv mt n k a i) (hb : u = b) (hab : a < b) (hb40 : b ≤ 40) : prg (mxz mt) n.toNat (dgv k) i.toNat = a - b ∧ dgv (k + (b - a) * 64 ^ (5 - i).toNat) = rfx (mxz mt) n.toNat (dgv k) i.toNat := by
  have hri : -2 * dg k i + sm n.toNat (fun j => mt (6 * i + (j : Int)) * dg k (j : Int)) = - prg (mxz mt) n.toNat (dgv k) i.toNat := by
    unfold prg
    have e1 : dgv k i.toNat = dg k i := by unfold dgv; rw [if_pos (by omega), Int.toNat_of_nonneg i0]
    rw [e1, sm_congr (g := fun j => mxz mt i.toNat j * dgv k j) (fun j hj => by unfold dgv mxz; rw [if_pos (by omega), Int.toNat_of_nonneg i0])]
    omega
  unfold upv at hu
  rw [hri] at hu
  have ha : 0 ≤ a := by
    rw [← dgv_sm hn hk]
    exact sm_nonneg (fun j _ => by unfold dgv; split; exact (dg_r _ _).1; omega)
  have hp : prg (mxz mt) n.toNat (dgv k) i.toNat = a - b := by
    split at hu <;> omega
  refine ⟨hp, ?_⟩
  have hd := dg_le hk i0 (by omega)
  funext x
  unfold rfx
  rw [hp]
  by_cases hx : x < 6
  · have e : dgv (k + (b - a) * 64 ^ (5 - i).toNat) x = dg (k + (b - a) * 64 ^ (5 - i).toNat) (x : Int) := by unfold dgv; rw [if_pos hx]
    have e2 : dgv k x = dg k (x : Int) := by unfold dgv; rw [if_pos hx]
    rw [e, dg_add hk.1.1 (by omega) i0 (by omega) (by omega) (by omega) (by omega), e2]
    by_cases q : x = i.toNat
    · rw [if_pos (by omega), if_pos q]
      have : dgv k i.toNat = dg k (x : Int) := by rw [← q]; exact e2
      omega
    · rw [if_neg (by omega), if_neg q]
      omega
  · have e : dgv (k + (b - a) * 64 ^ (5 - i).toNat) x = 0 := by unfold dgv; rw [if_neg hx]
    rw [e, if_neg (by omega)]
    unfold dgv
    rw [if_neg hx]
def SRT (K : Int → Int) (a b : Int) : Prop := ∀ x y, a ≤ x → x < y → y < b → K y < K x
theorem SRT.eq {K K' : Int → Int} {a b : Int} (h : SRT K a b) (e : ∀ x, a ≤ x → x < b → K' x = K x) : SRT K' a b := fun x y x0 xy y1 => by
  rw [e x x0 (by omega), e y (by omega) y1]
  exact h x y x0 xy y1
theorem ins_no {K : Int → Int} {f e p k : Int} (hS : SRT K f e) (p1 : p ≤ e) (hl : ∀ x, p ≤ x → x < e → K x < k) (hp : p = f ∨ k < K (p - 1)) : ∀ x, f ≤ x → x < e → K x ≠ k := fun x x0 x1 q => by
  by_cases c : p ≤ x
  · have := hl x c x1; omega
  · rcases hp with hp | hp
    · omega
    · by_cases c2 : x = p - 1
      · rw [← c2] at hp; omega
      · have := hS x (p - 1) x0 (by omega) (by omega)
        omega
theorem ins_st {K K' : Int → Int} {f e p k : Int} (hS : SRT K f e) (p0 : f ≤ p) (p1 : p ≤ e) (hl : ∀ x, p ≤ x → x < e → K x < k) (hp : p = f ∨ k < K (p - 1)) (h1 : ∀ j, f ≤ j → j < p → K' j = K j) (h2 : K' p = k) (h3 : ∀ j, p ≤ j → j < e → K' (j + 1) = K j) : SRT K' f (e + 1) := fun x y x0 xy y1 => by
  have hlow : ∀ z, f ≤ z → z < p → k < K z := fun z z0 z1 => by
    rcases hp with hp | hp
    · omega
    · by_cases c : z = p - 1
      · rw [c]; exact hp
      · have := hS z (p - 1) z0 (by omega) (by omega)
        omega
  have e3 : ∀ j, p < j → j ≤ e → K' j = K (j - 1) := fun j j0 j1 => by
    have := h3 (j - 1) (by omega) (by omega)
    rw [show j - 1 + 1 = j by omega] at this
    exact this
  by_cases cx : x < p
  · rw [h1 x x0 cx]
    have hx := hlow x x0 cx
    by_cases cy : y < p
    · rw [h1 y (by omega) cy]; exact hS x y x0 xy (by omega)
    · by_cases cy2 : y = p
      · rw [cy2, h2]; exact hx
      · rw [e3 y (by omega) (by omega)]
        have := hl (y - 1) (by omega) (by omega)
        omega
  · by_cases cx2 : x = p
    · rw [cx2, h2, e3 y (by omega) (by omega)]
      exact hl (y - 1) (by omega) (by omega)
    · rw [e3 x (by omega) (by omega), e3 y (by omega) (by omega)]
      exact hS (x - 1) (y - 1) (by omega) (by omega) (by omega)
end
section
theorem rmo_of {mt F K U K' : Int → Int} {n b k : Int} {M : Nat → Nat → Int} (hn : 0 ≤ n ∧ n ≤ 6) (H : RTI mt n (b - 1) F K U) (b1 : 1 ≤ b) (hS : ∀ q, 1 ≤ q → q ≤ b - 1 → SRT K (F q) (F (q + 1))) (hR : ∀ x, 0 ≤ x → x < F b → RTp M n.toNat (dgv (K x))) (e : ∀ j, j < F b → K' j = K j) (hS' : SRT K' (F b) 400) (hK' : ∀ y, F b ≤ y → y < 400 → KOK n b (K' y) ∧ RTp M n.toNat (dgv (K' y))) (hk : KOK n b k) (hkr : RTp M n.toNat (dgv k)) (hno : ∀ y, F b ≤ y → y < 400 → K' y ≠ k) : RMo M n.toNat b := by
  have hq : ∀ j, 0 ≤ j → j < 400 → ∃ q, (1 ≤ q ∧ q ≤ b) ∧ KOK n q (K' j) ∧ RTp M n.toNat (dgv (K' j)) ∧ ((q = b ∧ F b ≤ j) ∨ (q < b ∧ F q ≤ j ∧ j < F (q + 1) ∧ j < F b)) := fun j j0 j1 => by
    by_cases c : F b ≤ j
    · exact ⟨b, by omega, (hK' j c j1).1, (hK' j c j1).2, Or.inl ⟨rfl, c⟩⟩
    · obtain ⟨q, q1, q2, q3, q4⟩ := H.find (b - 1).toNat j (by omega) j0 (by rw [Int.toNat_of_nonneg (by omega), show b - 1 + 1 = b by omega]; omega)
      have hk9 := H.kok q1 (by omega) q3 q4
      refine ⟨q, by omega, by rw [e j (by omega)]; exact hk9, by rw [e j (by omega)]; exact hR j j0 (by omega), Or.inr ⟨by omega, q3, q4, by omega⟩⟩
  have hne : ∀ i j, 0 ≤ i → i < j → j < 400 → K' i ≠ K' j := fun i j i0 ij j1 h => by
    obtain ⟨q, qa, qb, -, qd⟩ := hq i i0 (by omega)
    obtain ⟨p, pa, pb, -, pd⟩ := hq j (by omega) j1
    have e1 := dgv_sm hn qb
    have e2 := dgv_sm hn pb
    rw [h] at e1
    have eqp : q = p := e1.symm.trans e2
    subst eqp
    rcases qd with ⟨q1, q2⟩ | ⟨q1, q2, q3, q4⟩
    · have := hS' i j (by rw [← q1] at q2 ⊢; exact q2) ij j1
      omega
    · rcases pd with ⟨p1, p2⟩ | ⟨p1, p2, p3, p4⟩
      · omega
      · have := hS q (by omega) (by omega) i j q2 ij p3
        rw [e i (by omega), e j (by omega)] at h
        omega
  refine ⟨((List.range 400).map (fun (j : Nat) => dgv (K' (j : Int)))) ++ [dgv k], ?_, by simp, fun x hx => ?_⟩
  · rw [List.nodup_append]
    refine ⟨?_, List.nodup_cons.mpr ⟨by simp, List.nodup_nil⟩, fun a ha b9 hb9 => ?_⟩
    · rw [List.nodup_iff_pairwise_ne, List.pairwise_map]
      refine List.Pairwise.imp_of_mem ?_ (List.nodup_iff_pairwise_ne.mp (List.nodup_range (n := 400)))
      intro i j hi hj hij h
      have hi := List.mem_range.mp hi
      have hj := List.mem_range.mp hj
      obtain ⟨q, qa, qb, -⟩ := hq (i : Int) (by omega) (by omega)
      obtain ⟨p, pa, pb, -⟩ := hq (j : Int) (by omega) (by omega)
      have h9 := dg_inj qb.1 pb.1 h
      rcases Nat.lt_or_gt_of_ne hij with c | c
      · exact hne i j (by omega) (by omega) (by omega) h9
      · exact hne j i (by omega) (by omega) (by omega) h9.symm
    · obtain ⟨i, hi, rfl⟩ := List.mem_map.mp ha
      have hi := List.mem_range.mp hi
      rw [List.mem_singleton.mp hb9]
      intro h
      obtain ⟨q, qa, qb, -, qd⟩ := hq (i : Int) (by omega) (by omega)
      have h9 := dg_inj qb.1 hk.1 h
      have e1 := dgv_sm hn qb
      have e2 := dgv_sm hn hk
      rw [h9] at e1
      have eqp : q = b := e1.symm.trans e2
      rcases qd with ⟨q1, q2⟩ | ⟨q1, -⟩
      · exact hno _ q2 (by omega) h9
      · omega
  · rcases List.mem_append.mp hx with hx | hx
    · obtain ⟨i, hi, rfl⟩ := List.mem_map.mp hx
      have hi := List.mem_range.mp hi
      obtain ⟨q, qa, qb, qc, -⟩ := hq (i : Int) (by omega) (by omega)
      exact ⟨qc, by rw [dgv_sm hn qb]; exact qa.2⟩
    · rw [List.mem_singleton.mp hx]
      exact ⟨hkr, by rw [dgv_sm hn hk]; exact Int.le_refl _⟩
/-- the class's roots are what turns up, in their order -/
def RLXp (M : Nat → Nat → Int) (n : Nat) (S : wSt) : Prop := (∀ q, 1 ≤ q → q ≤ S 12 0 4 → SRT (S 13 0) (S 15 0 q) (S 15 0 (q + 1))) ∧ (∀ x, 0 ≤ x → x < S 15 0 (S 12 0 4 + 1) → RTp M n (dgv (S 13 0 x))) ∧ (S 12 0 5 = 1 → RMo M n (S 12 0 4 + 1))
def RLX (S : wSt) : Prop := RLXp (mxz (S 5 16)) (S 3 16 2).toNat S
theorem RLXp.keep {M : Nat → Nat → Int} {n : Nat} {S W : wSt} (h : RLXp M n S) (hC : CI S) (e12 : ∀ j, W 12 0 j = S 12 0 j) (e15 : ∀ j, W 15 0 j = S 15 0 j) (e13 : ∀ x, x < S 15 0 (S 12 0 4 + 1) → W 13 0 x = S 13 0 x) : RLXp M n W := by
  have hl := hC.rl.1
  have hT := hC.rl.2.2
  unfold RLXp
  rw [e12, e12, show W 15 0 = S 15 0 from funext e15]
  refine ⟨fun q q1 q2 => (h.1 q q1 q2).eq (fun x x0 x1 => e13 x ?_), fun x x0 x1 => by rw [e13 x x1]; exact h.2.1 x x0 x1, h.2.2⟩
  have := hT.mono (q := q + 1) (r := S 12 0 4 + 1) (by omega) (by omega) (by omega)
  omega
theorem RLX.fr {S W : wSt} (f : Fr fRt S W) (h : RLXp (mxz (S 5 16)) (S 3 16 2).toNat W) : RLX W := by
  unfold RLX
  rw [show W 5 16 = S 5 16 from funext (fun j => f 5 16 j (by unfold fRt; omega)), f 3 16 2 (by unfold fRt; omega)]
  exact h
theorem RLX.bk {S W W' : wSt} (f : Fr fRt S W) (h : RLXp (mxz (W 5 16)) (W 3 16 2).toNat W') : RLXp (mxz (S 5 16)) (S 3 16 2).toNat W' := by
  rw [← show W 5 16 = S 5 16 from funext (fun j => f 5 16 j (by unfold fRt; omega)), ← f 3 16 2 (by unfold fRt; omega)]
  exact h
/-- the keys from fb to g, of height b, so far -/
def TBY (M : Nat → Nat → Int) (n : Nat) (K : Int → Int) (fb g b : Int) : Prop := (g ≠ -3 → SRT K fb g ∧ ∀ y, fb ≤ y → y < g → RTp M n (dgv (K y))) ∧ (g = -3 → RMo M n b)
def IXS (K K' : Int → Int) (f e r k : Int) : Prop := (r = -3 → ∀ x, f ≤ x → x < e → K x ≠ k) ∧ (r ≠ -3 → SRT K' f r)
theorem TBY.ins {M : Nat → Nat → Int} {n : Nat} {K K' : Int → Int} {fb g r b k : Int} (h : TBY M n K fb g b) (hg : 0 ≤ g) (hI : INS K K' fb g r k) (hX : IXS K K' fb g r k) (hkr : RTp M n (dgv k)) (hful : r = -3 → g = 400 → (∀ y, fb ≤ y → y < 400 → K y ≠ k) → RMo M n b) : TBY M n K' fb r b := by
  obtain ⟨h1, h2⟩ := h.1 (by omega)
  refine ⟨fun q => ⟨hX.2 q, fun y y0 y1 => ?_⟩, fun q => ?_⟩
  · have hI2 := hI.2.resolve_left (fun z => q z.1)
    rcases hI2.2.2.2.2 y y0 y1 with e | ⟨x, x0, x1, e⟩
    · rw [e]; exact hkr
    · rw [e]; exact h2 x x0 x1
  · have e4 : g = 400 := by
      rcases hI.2 with z | z
      · exact z.2
      · have z1 := z.1
        omega
    exact hful q e4 (fun y y0 y1 => hX.1 q y y0 (by omega))
theorem RLXp.grow {M : Nat → Nat → Int} {n : Nat} {S W : wSt} {a e : Int} (h : RLXp M n S) (hC : CI S) (hh : S 12 0 4 = a - 1) (a1 : 1 ≤ a) (e4 : W 12 0 4 = a) (e5 : W 12 0 5 = S 12 0 5) (e15 : ∀ j, j ≤ a → W 15 0 j = S 15 0 j) (ee : W 15 0 (a + 1) = e) (e13 : ∀ x, x < S 15 0 a → W 13 0 x = S 13 0 x) (hT : TBY M n (W 13 0) (S 15 0 a) e a) (he : e ≠ -3) : RLXp M n W := by
  obtain ⟨g1, g2⟩ := hT.1 he
  have hl := hC.rl.1
  have hR := hC.rl.2.2
  unfold RLXp
  rw [e4, e5]
  refine ⟨fun q q1 q2 => ?_, fun x x0 x1 => ?_, fun q => ?_⟩
  · by_cases c : q = a
    · rw [c, ee, e15 a (Int.le_refl _)]; exact g1
    · rw [e15 q q2, e15 (q + 1) (by omega)]
      refine (h.1 q q1 (by omega)).eq (fun x x0 x1 => e13 x ?_)
      have := hR.mono (q := q + 1) (r := a) (by omega) (by omega) (by omega)
      omega
  · rw [ee] at x1
    by_cases c : x < S 15 0 a
    · rw [e13 x c]
      exact h.2.1 x x0 (by rw [hh, show a - 1 + 1 = a by omega]; exact c)
    · exact g2 x (by omega) x1
  · have := h.2.2 q
    rw [hh] at this
    exact this.mono (by omega)
theorem RTI_all {mt F K U : Int → Int} {n h : Int} (hn : 0 ≤ n ∧ n ≤ 6) (H : RTI mt n h F K U) (hz : ∀ i, 0 ≤ i → i < n → mt (6 * i + i) = 0) (h40 : h ≤ 40) {x : Nat → Int} (hx : RTp (mxz mt) n.toNat x) : (∀ j, 0 ≤ x j) ∧ 1 ≤ sm n.toNat x ∧ (sm n.toNat x ≤ h → ∃ y, (F (sm n.toNat x) ≤ y ∧ y < F (sm n.toNat x + 1)) ∧ dgv (K y) = x) := by
  refine RTp.ind (P := fun x => (∀ j, 0 ≤ x j) ∧ 1 ≤ sm n.toNat x ∧ (sm n.toNat x ≤ h → ∃ y, (F (sm n.toNat x) ≤ y ∧ y < F (sm n.toNat x + 1)) ∧ dgv (K y) = x)) hx (fun i hi => ?_) (fun x i _ hi hp ih => ?_)
  · skip
    have e1 : sm n.toNat (ownV i) = 1 := by
      have := sm_own (n := n.toNat) (i := i) (fun _ => 1) hi
      simp only [Int.one_mul] at this
      exact this
    refine ⟨fun j => by unfold ownV; split <;> omega, by omega, fun hs => ?_⟩
    rw [e1] at hs ⊢
    obtain ⟨y, a, b, c⟩ := H.2.2.2.2.1 hs (i : Int) (by omega) (by omega)
    refine ⟨y, ⟨by rw [H.1]; exact a, b⟩, ?_⟩
    funext j
    unfold dgv ownV
    by_cases hj : j < 6
    · rw [if_pos hj, c _ (by omega) (by omega)]
      by_cases q : j = i
      · rw [if_pos q, if_pos (by omega)]
      · rw [if_neg q, if_neg (by omega)]
    · rw [if_neg hj, if_neg (by omega)]
  · skip
    obtain ⟨i1, i2, i3⟩ := ih
    have es := sm_rfx (M := mxz mt) (x := x) hi
    refine ⟨fun j => ?_, by omega, fun hs => ?_⟩
    · unfold rfx
      split
      · rename_i e; have := i1 i; omega
      · exact i1 j
    · obtain ⟨y, ⟨y0, y1⟩, hy⟩ := i3 (by omega)
      generalize hq : sm n.toNat x = q at *
      have hk := H.kok i2 (by omega) y0 y1
      obtain ⟨-, -, -, -, k5⟩ := H.2.2.2.1 q y i2 (by omega) y0 y1
      have hup := k5 (i : Int) (by omega) (by omega)
      have hri : -2 * dg (K y) (i : Int) + sm n.toNat (fun j => mt (6 * (i : Int) + (j : Int)) * dg (K y) (j : Int)) = - prg (mxz mt) n.toNat x i := by
        have ev : ∀ b : Nat, b < 6 → dg (K y) (b : Int) = x b := fun b hb => by rw [← hy]; unfold dgv; rw [if_pos hb]
        unfold prg
        rw [ev i (by omega), sm_congr (g := fun j => mxz mt i j * x j) (fun j hj => by rw [ev j (by omega)]; rfl)]
        omega
      unfold upv at hup
      rw [hri, if_pos (by omega)] at hup
      obtain ⟨z, z0, z1, z2⟩ := H.2.2.2.2.2 q (q + - prg (mxz mt) n.toNat x i) y (i : Int) i2 (by omega) (by omega) y0 y1 (by omega) (by omega) (by omega)
      refine ⟨z, by rw [es, show q - prg (mxz mt) n.toNat x i = q + - prg (mxz mt) n.toNat x i by omega]; exact ⟨z0, z1⟩, ?_⟩
      funext b
      by_cases hb : b < 6
      · have ez : dgv (K z) b = dg (K z) (b : Int) := by unfold dgv; rw [if_pos hb]
        have ey : dg (K y) (b : Int) = x b := by rw [← hy]; unfold dgv; rw [if_pos hb]
        rw [ez, z2 _ (by omega) (by omega), ey]
        unfold rfx
        by_cases e : b = i
        · rw [if_pos e, if_pos (by omega), e]; omega
        · rw [if_neg e, if_neg (by omega)]; omega
      · have ez : dgv (K z) b = 0 := by unfold dgv; rw [if_neg hb]
        have ey : x b = 0 := by rw [← hy]; unfold dgv; rw [if_neg hb]
        rw [ez]
        unfold rfx
        rw [if_neg (by omega), ey]
theorem RLX.of {S W : wSt} (h : RLX S) (e : ∀ k i j, k = 5 ∨ k = 3 ∨ k = 12 ∨ k = 13 ∨ k = 15 → W k i j = S k i j) : RLX W := by
  have a (k : Nat) (i : Int) (hk : k = 5 ∨ k = 3 ∨ k = 12 ∨ k = 13 ∨ k = 15) : W k i = S k i := funext fun j => e k i j hk
  unfold RLX RLXp
  rw [a 5 16 (by decide), a 3 16 (by decide), a 12 0 (by decide), a 13 0 (by decide), a 15 0 (by decide)]
  exact h
theorem RLX.new {S : wSt} (h4 : S 12 0 4 = 0) (h5 : S 12 0 5 = 0) (h15 : S 15 0 1 = 0) : RLX S := by
  unfold RLX RLXp
  rw [h4, h5]
  refine ⟨fun q a b => by omega, fun x a b => ?_, fun q => absurd q (by decide)⟩
  rw [show (0 : Int) + 1 = 1 from rfl, h15] at b
  omega
end
section
theorem RLXp.full {M : Nat → Nat → Int} {n : Nat} {S W : wSt} (h : RLXp M n S) (hC : CI S) (e4 : W 12 0 4 = S 12 0 4) (e15 : ∀ j, W 15 0 j = S 15 0 j) (e13 : ∀ x, x < S 15 0 (S 12 0 4 + 1) → W 13 0 x = S 13 0 x) (hm : RMo M n (S 12 0 4 + 1)) : RLXp M n W := by
  have hl := hC.rl.1
  have hT := hC.rl.2.2
  unfold RLXp
  rw [e4, show W 15 0 = S 15 0 from funext e15]
  refine ⟨fun q q1 q2 => (h.1 q q1 q2).eq (fun x x0 x1 => e13 x ?_), fun x x0 x1 => by rw [e13 x x1]; exact h.2.1 x x0 x1, fun _ => hm⟩
  have := hT.mono (q := q + 1) (r := S 12 0 4 + 1) (by omega) (by omega) (by omega)
  omega
theorem TBY.bk {S W : wSt} {K : Int → Int} {a g b : Int} (f : Fr fRt S W) (e : W 15 0 a = S 15 0 a) (h : TBY (mxz (W 5 16)) (W 3 16 2).toNat K (W 15 0 a) g b) : TBY (mxz (S 5 16)) (S 3 16 2).toNat K (S 15 0 a) g b := by
  rw [← show W 5 16 = S 5 16 from funext (fun j => f 5 16 j (by unfold fRt; omega)), ← f 3 16 2 (by unfold fRt; omega), ← e]
  exact h
theorem TBY.fw {S W : wSt} {K : Int → Int} {a g b : Int} (f : Fr fRt S W) (e : W 15 0 a = S 15 0 a) (h : TBY (mxz (S 5 16)) (S 3 16 2).toNat K (S 15 0 a) g b) : TBY (mxz (W 5 16)) (W 3 16 2).toNat K (W 15 0 a) g b := by
  rw [show W 5 16 = S 5 16 from funext (fun j => f 5 16 j (by unfold fRt; omega)), f 3 16 2 (by unfold fRt; omega), e]
  exact h
theorem ups_no {S : wSt} {mt : Int → Int} {n : Int} (hn : 0 ≤ n ∧ n ≤ 6) (hz : ∀ i, i < n.toNat → mxz mt i i = 0) (H : RTI mt n (S 12 0 4) (S 15 0) (S 13 0) (S 14 0)) (h : RLXp (mxz mt) n.toNat S) (h12 : 12 ≤ S 12 0 4) {x i : Int} (x0 : 0 ≤ x) (x1 : x < S 15 0 12) (i0 : 0 ≤ i) (i1 : i < n) (hu : 11 < dg (S 14 0 x) i) {L : List (Nat → Int)} (hL : EndL (mxz mt) n.toNat L) : False := by
  obtain ⟨q, q1, q2, q3, q4⟩ := H.find 11 x (by omega) x0 x1
  have hk := H.kok q1 (by omega) q3 q4
  obtain ⟨-, -, -, -, k5⟩ := H.2.2.2.1 q x q1 (by omega) q3 q4
  have hup := k5 i i0 i1
  have hm := H.mono (q := 12) (r := S 12 0 4 + 1) (by omega) (by omega) (by omega)
  have hr := h.2.1 x x0 (by omega)
  have hri : -2 * dg (S 13 0 x) i + sm n.toNat (fun j => mt (6 * i + (j : Int)) * dg (S 13 0 x) (j : Int)) = - prg (mxz mt) n.toNat (dgv (S 13 0 x)) i.toNat := by
    unfold prg
    have e1 : dgv (S 13 0 x) i.toNat = dg (S 13 0 x) i := by unfold dgv; rw [if_pos (by omega), Int.toNat_of_nonneg i0]
    rw [e1, sm_congr (g := fun j => mxz mt i.toNat j * dgv (S 13 0 x) j) (fun j hj => by unfold dgv mxz; rw [if_pos (by omega), Int.toNat_of_nonneg i0])]
    omega
  unfold upv at hup
  rw [hri] at hup
  have hneg : prg (mxz mt) n.toNat (dgv (S 13 0 x)) i.toNat < 0 ∧ 11 < q - prg (mxz mt) n.toNat (dgv (S 13 0 x)) i.toNat := by
    split at hup <;> omega
  have h5 := (RTp.up _ _ hr (show i.toNat < n.toNat by omega) hneg.1).inL hz hL.1
  have h6 := (hL.2 _ h5).1
  rw [sm_rfx (by omega), dgv_sm hn hk] at h6
  omega
end
section
end
