section
/-! words that do the same, in a set that ends and whose numbers can be evened out -/
def Evn (d : Nat → Int) (M : Nat → Nat → Int) (n : Nat) : Prop := (∀ i, i < n → 0 < d i) ∧ ∀ i j, i < n → j < n → d i * M i j = d j * M j i
def BF (d : Nat → Int) (M : Nat → Nat → Int) (n : Nat) (x y : Nat → Int) : Int := sm n (fun i => d i * x i * prg M n y i)
def vad (x : Nat → Int) (p : Int) (y : Nat → Int) : Nat → Int := fun j => x j + p * y j
section EV
variable {d : Nat → Int} {M : Nat → Nat → Int} {n : Nat}
theorem prg_ad (x : Nat → Int) (p : Int) (y : Nat → Int) (i : Nat) : prg M n (vad x p y) i = prg M n x i + p * prg M n y i := by
  unfold prg vad
  rw [sm_congr (g := fun j => M i j * x j + p * (M i j * y j)) (fun j _ => by rw [Int.mul_add, ← Int.mul_assoc, ← Int.mul_assoc, Int.mul_comm (M i j) p]), sm_add, sm_mul, Int.mul_sub, Int.mul_add, ← Int.mul_assoc 2 p, ← Int.mul_assoc p 2, Int.mul_comm 2 p]
  omega
theorem rfx_ad (x : Nat → Int) (i : Nat) : rfx M n x i = vad x (- prg M n x i) (ownV i) := by
  funext j
  unfold rfx vad ownV
  by_cases e : j = i
  · rw [if_pos e, if_pos e, e]; omega
  · rw [if_neg e, if_neg e]; omega
theorem rfx_lin (x : Nat → Int) (p : Int) (y : Nat → Int) (i : Nat) : rfx M n (vad x p y) i = vad (rfx M n x i) p (rfx M n y i) := by
  funext j
  have h := prg_ad (M := M) (n := n) x p y i
  unfold rfx
  rw [h]
  unfold vad
  split
  · dsimp only
    rw [if_pos (by assumption), if_pos (by assumption), Int.mul_sub]
    omega
  · dsimp only
    rw [if_neg (by assumption), if_neg (by assumption)]
theorem act_lin (x : Nat → Int) (p : Int) (y : Nat → Int) : ∀ w : List Nat, act M n w (vad x p y) = vad (act M n w x) p (act M n w y)
  | [] => rfl
  | c :: t => by
    show rfx M n (act M n t (vad x p y)) c = _
    rw [act_lin x p y t, rfx_lin]
    rfl
theorem BF_l (x : Nat → Int) (p : Int) (z y : Nat → Int) : BF d M n (vad x p z) y = BF d M n x y + p * BF d M n z y := by
  unfold BF vad
  rw [← sm_mul, ← sm_add]
  refine sm_congr (fun i _ => ?_)
  rw [Int.mul_add, Int.add_mul, ← Int.mul_assoc (d i), Int.mul_comm (d i) p, Int.mul_assoc p, Int.mul_assoc p]
theorem BF_sym (hd : Evn d M n) (x y : Nat → Int) : BF d M n x y = BF d M n y x := by
  have e : ∀ x y : Nat → Int, BF d M n x y = sm n (fun i => 2 * (d i * (x i * y i))) - sm n (fun i => sm n (fun j => d i * M i j * (x i * y j))) := fun x y => by
    unfold BF
    rw [← sm_sub]
    refine sm_congr (fun i _ => ?_)
    unfold prg
    rw [Int.mul_sub]
    congr 1
    · simp only [Int.mul_assoc, Int.mul_left_comm, Int.mul_comm]
    · rw [← sm_mul]
      exact sm_congr (fun j _ => by simp only [Int.mul_assoc, Int.mul_left_comm, Int.mul_comm])
  rw [e x y, e y x]
  congr 1
  · exact sm_congr (fun i _ => by rw [Int.mul_comm (x i)])
  · rw [sm_comm]
    exact sm_congr (fun j hj => sm_congr (fun i hi => by rw [hd.2 i j hi hj, Int.mul_comm (x i)]))
theorem BF_own {i : Nat} (hi : i < n) (y : Nat → Int) : BF d M n (ownV i) y = d i * prg M n y i := by
  unfold BF
  have := sm_own (n := n) (i := i) (fun j => d j * prg M n y j) hi
  rw [← this]
  exact sm_congr (fun j _ => by simp only [Int.mul_assoc, Int.mul_left_comm, Int.mul_comm])
theorem BF_rfx (hM : mB M) (hd : Evn d M n) {i : Nat} (hi : i < n) (x y : Nat → Int) : BF d M n (rfx M n x i) (rfx M n y i) = BF d M n x y := by
  have h2 : prg M n (ownV i) i = 2 := prg_own hi (hM.1 i)
  rw [rfx_ad x, rfx_ad y, BF_l, BF_own hi, BF_sym hd x, BF_l, BF_own hi, BF_sym hd y x, prg_ad, h2]
  have e : d i * (prg M n y i + - prg M n y i * 2) = - (d i * prg M n y i) := by
    rw [show prg M n y i + - prg M n y i * 2 = - prg M n y i by omega, Int.mul_neg]
  rw [e, Int.neg_mul, Int.neg_mul, Int.mul_neg, ← Int.mul_assoc, ← Int.mul_assoc, Int.mul_comm (prg M n y i) (d i), Int.mul_comm (prg M n x i) (d i), Int.mul_assoc, Int.mul_assoc, Int.mul_comm (prg M n x i)]
  omega
theorem BF_act (hM : mB M) (hd : Evn d M n) (x y : Nat → Int) : ∀ w : List Nat, (∀ i, i ∈ w → i < n) → BF d M n (act M n w x) (act M n w y) = BF d M n x y
  | [], _ => rfl
  | c :: t, hw => by
    show BF d M n (rfx M n (act M n t x) c) (rfx M n (act M n t y) c) = _
    rw [BF_rfx hM hd (hw c List.mem_cons_self), BF_act hM hd x y t (fun i hi => hw i (List.mem_cons_of_mem _ hi))]
theorem act_rev (hM : mB M) (x : Nat → Int) : ∀ w : List Nat, act M n w.reverse (act M n w x) = x
  | [] => rfl
  | c :: t => by
    rw [List.reverse_cons, act_app]
    show act M n t.reverse (rfx M n (rfx M n (act M n t x) c) c) = x
    rw [rfx_rfx (hM.1 c), act_rev hM x t]
theorem act_rev2 (hM : mB M) (x : Nat → Int) (w : List Nat) : act M n w (act M n w.reverse x) = x := by
  have := act_rev (n := n) hM x w.reverse
  rw [List.reverse_reverse] at this
  exact this
/-- a mirror seen through a word is the mirror of the root that it comes to -/
theorem conj_w (hM : mB M) (hd : Evn d M n) {u : List Nat} (hu : ∀ i, i ∈ u → i < n) {c e : Nat} (hc : c < n) (he : e < n) (h : act M n u (ownV c) = ownV e) (x : Nat → Int) : act M n u (rfx M n x c) = rfx M n (act M n u x) e := by
  have h2 : ∀ i, i < n → BF d M n (ownV i) (ownV i) = 2 * d i := fun i hi => by
    rw [BF_own hi, prg_own hi (hM.1 i), Int.mul_comm]
  have hde : d c = d e := by
    have := BF_act hM hd (ownV c) (ownV c) u hu
    rw [h, h2 e he, h2 c hc] at this
    omega
  have hp : prg M n x c = prg M n (act M n u x) e := by
    have := BF_act hM hd (ownV c) x u hu
    rw [h, BF_own he, BF_own hc, hde] at this
    have h0 := hd.1 e he
    exact (Int.eq_of_mul_eq_mul_left (by omega) this).symm
  rw [rfx_ad x, act_lin, h, hp, ← rfx_ad]
/-- two words that do the same -/
def Sam (M : Nat → Nat → Int) (n : Nat) (w w' : List Nat) : Prop := ∀ x, act M n w x = act M n w' x
theorem Sam.symm {w w' : List Nat} (h : Sam M n w w') : Sam M n w' w := fun x => (h x).symm
theorem Sam.trans {w w' w'' : List Nat} (h : Sam M n w w') (g : Sam M n w' w'') : Sam M n w w'' := fun x => (h x).trans (g x)
theorem Sam.app {u u' w w' : List Nat} (h : Sam M n u u') (g : Sam M n w w') : Sam M n (u ++ w) (u' ++ w') := fun x => by rw [act_app, act_app, g, h]
theorem Sam.rev (hM : mB M) {w w' : List Nat} (h : Sam M n w w') : Sam M n w.reverse w'.reverse := fun x => by
  have e : act M n w.reverse (act M n w' (act M n w'.reverse x)) = act M n w'.reverse x := by rw [← h, act_rev hM]
  rw [act_rev2 hM] at e
  exact e
/-- no word that does the same is shorter -/
def Mnw (M : Nat → Nat → Int) (n : Nat) (w : List Nat) : Prop := (∀ i, i ∈ w → i < n) ∧ ∀ w', (∀ i, i ∈ w' → i < n) → Sam M n w' w → w.length ≤ w'.length
theorem Bl_mem' : ∀ {r : List Nat} {k : Nat}, k < r.length → act M n (r.take k) (ownV (r.getD k 0)) ∈ Bl M n r
  | [], k, h => by simp at h
  | a :: r, 0, _ => List.mem_cons_self
  | a :: r, k + 1, h => List.mem_cons_of_mem _ (List.mem_map.mpr ⟨_, Bl_mem' (r := r) (k := k) (by simp at h; omega), rfl⟩)
theorem Bl_len : ∀ r : List Nat, (Bl M n r).length = r.length
  | [] => rfl
  | a :: r => by simp [Bl, Bl_len r]
variable {L : List (Nat → Int)}
def Inv (M : Nat → Nat → Int) (n : Nat) (L : List (Nat → Int)) (w : List Nat) (x : Nat → Int) : Prop := x ∈ L ∧ (fun j => - act M n w.reverse x j) ∈ L
theorem Inv.cg (hM : mB M) {w w' : List Nat} (h : Sam M n w w') {x : Nat → Int} (g : Inv M n L w x) : Inv M n L w' x := ⟨g.1, by rw [← h.rev hM]; exact g.2⟩
theorem pos_neg (hE : EndL M n L) {x : Nat → Int} (h : x ∈ L) (g : (fun j => - x j) ∈ L) : False := hE.nz h (fun j => by
  have a := (hE.1.nn x h j).1
  have b : 0 ≤ - x j := (hE.1.nn _ g j).1
  omega)
theorem Inv.bl (hM : mB M) (hE : EndL M n L) : ∀ {w : List Nat} {x : Nat → Int}, (∀ i, i ∈ w → i < n) → Inv M n L w x → x ∈ Bl M n w
  | [], x, _, h => (pos_neg hE h.1 h.2).elim
  | a :: r, x, hw, h => by
    have ha := hw a List.mem_cons_self
    rcases hE.1.cl x h.1 a ha with e | e
    · rw [e]; exact List.mem_cons_self
    · have h2 := h.2
      rw [List.reverse_cons, act_app] at h2
      have := Inv.bl hM hE (w := r) (fun i hi => hw i (List.mem_cons_of_mem _ hi)) ⟨e, h2⟩
      exact List.mem_cons_of_mem _ (List.mem_map.mpr ⟨_, this, rfx_rfx (hM.1 a)⟩)
theorem bl_inv (hM : mB M) (hE : EndL M n L) : ∀ {w : List Nat} {x : Nat → Int}, (∀ i, i ∈ w → i < n) → RdL M n w → x ∈ Bl M n w → Inv M n L w x
  | [], x, _, _, h => by cases h
  | a :: r, x, hw, hr, h => by
    have hz : ∀ i, i < n → M i i = 0 := fun i _ => hM.1 i
    have ha := hw a List.mem_cons_self
    have hw' : ∀ i, i ∈ r → i < n := fun i hi => hw i (List.mem_cons_of_mem _ hi)
    refine ⟨(Bl_ok hz hE.1 hw hr).2 x h, ?_⟩
    rw [List.reverse_cons, act_app]
    rcases List.mem_cons.mp h with e | e
    · rw [e]
      show (fun j => - act M n r.reverse (rfx M n (ownV a) a) j) ∈ L
      rw [rfx_own ha (hM.1 a), act_neg]
      have hu := UL_act hz hE.1 (w := r.reverse) (fun i hi => hw' i (List.mem_reverse.mp hi)) (Or.inl (hE.1.own a ha))
      rcases hu with q | q
      · rw [neg_neg_v]; exact q
      · exfalso
        have hb := Inv.bl hM hE hw' ⟨hE.1.own a ha, q⟩
        have h2 := (Bl_ok hz hE.1 hw hr).1
        rw [Bl, List.nodup_cons] at h2
        have h3 := Bl_mem hb
        obtain ⟨k, hk, hk2⟩ := h3
        have h5 := hr (k + 1) (by simp; omega)
        simp only [List.take_succ_cons, List.getD_cons_succ] at h5
        exact h5.1 hk2.symm
    · obtain ⟨y, hy, rfl⟩ := List.mem_map.mp e
      show (fun j => - act M n r.reverse (rfx M n (rfx M n y a) a) j) ∈ L
      rw [rfx_rfx (hM.1 a)]
      exact (bl_inv hM hE hw' hr.tl hy).2
theorem RdL.mn (hM : mB M) (hE : EndL M n L) {w : List Nat} (hw : ∀ i, i ∈ w → i < n) (h : RdL M n w) : Mnw M n w := ⟨hw, fun w' hw' hs => by
  haveI : DecidableEq (Nat → Int) := fun a b => Classical.propDecidable (a = b)
  have h1 := Bl_ok (fun i _ => hM.1 i) hE.1 hw h
  have h2 := php_list h1.1 (m := Bl M n w') (fun x hx => (((bl_inv hM hE hw h hx).cg hM hs.symm)).bl hM hE hw')
  rw [Bl_len, Bl_len] at h2
  exact h2⟩
theorem split_at {r : List Nat} {k : Nat} (h : k < r.length) : r = r.take k ++ r.getD k 0 :: r.drop (k + 1) := by
  rw [← drop_c h, List.take_append_drop]
/-- a letter behind takes one away -/
theorem take_b (hM : mB M) (hd : Evn d M n) {R : List Nat} (hR : ∀ i, i ∈ R → i < n) {c y : Nat} (hc : c < n) (hy : y < R.length) (h : act M n (R.drop (y + 1)) (ownV c) = ownV (R.getD y 0)) : Sam M n (R ++ [c]) (R.eraseIdx y) := fun x => by
  have hb : ∀ i, i ∈ R.drop (y + 1) → i < n := fun i hi => hR i (List.mem_of_mem_drop hi)
  have hyn := hR _ (getD_mem hy)
  rw [List.eraseIdx_eq_take_drop_succ, act_app, act_app]
  conv => lhs; rw [split_at hy]
  rw [act_app]
  congr 1
  show rfx M n (act M n (R.drop (y + 1)) (rfx M n x c)) (R.getD y 0) = _
  rw [conj_w hM hd hb hc hyn h, rfx_rfx (hM.1 _)]
/-- a letter ahead takes one away -/
theorem take_a (hM : mB M) (hd : Evn d M n) {R : List Nat} (hR : ∀ i, i ∈ R → i < n) {s y : Nat} (hs : s < n) (hy : y < R.length) (h : act M n (R.take y) (ownV (R.getD y 0)) = ownV s) : Sam M n (s :: R) (R.eraseIdx y) := fun x => by
  have hb : ∀ i, i ∈ R.take y → i < n := fun i hi => hR i (List.mem_of_mem_take hi)
  have hyn := hR _ (getD_mem hy)
  rw [List.eraseIdx_eq_take_drop_succ, act_app]
  show rfx M n (act M n R x) s = _
  conv => lhs; rw [split_at hy]
  rw [act_app]
  show rfx M n (act M n (R.take y) (rfx M n (act M n (R.drop (y + 1)) x) (R.getD y 0))) s = _
  rw [conj_w hM hd hb hyn hs h, rfx_rfx (hM.1 _)]
theorem len_erase {R : List Nat} {y : Nat} (h : y < R.length) : (R.eraseIdx y).length + 1 = R.length := by rw [List.length_eraseIdx_of_lt h]; omega
theorem Mnw.rd (hM : mB M) (hd : Evn d M n) {w : List Nat} (h : Mnw M n w) : RdL M n w := fun k hk => Classical.byContradiction fun q => by
  rw [NB_iff] at q
  have hw := h.1
  have hkn := hw _ (getD_mem hk)
  have ht : ∀ i, i ∈ w.take k → i < n := fun i hi => hw i (List.mem_of_mem_take hi)
  obtain ⟨y, y1, y2⟩ : ∃ y, y < (w.take k).length ∧ act M n ((w.take k).drop (y + 1)) (ownV (w.getD k 0)) = ownV ((w.take k).getD y 0) := Classical.byContradiction fun z => q (fun y y1 y2 => z ⟨y, y1, y2⟩)
  have hs := take_b hM hd ht hkn y1 y2
  have hs2 : Sam M n ((w.take k).eraseIdx y ++ w.drop (k + 1)) w := fun x => by
    conv => rhs; rw [split_at hk]
    rw [show w.take k ++ w.getD k 0 :: w.drop (k + 1) = (w.take k ++ [w.getD k 0]) ++ w.drop (k + 1) by simp, act_app, act_app, hs]
  have := h.2 _ (fun i hi => by
    rcases List.mem_append.mp hi with z | z
    · exact ht i (List.mem_of_mem_eraseIdx z)
    · exact hw i (List.mem_of_mem_drop z)) hs2
  have a := len_erase y1
  rw [List.length_append, List.length_drop] at this
  rw [List.length_take] at a y1
  omega
end EV
end
section
/-! what is short and what is the form, in a set that ends -/
section FV
variable {d : Nat → Int} {M : Nat → Nat → Int} {n : Nat} {L : List (Nat → Int)}
theorem bhd_at : ∀ {l : List Nat} {s : Nat}, (∀ i, i ∈ l → i < n) → s < n → ∀ x, x ≤ l.length → ∀ y : Nat, bhd M n l x (act M n (l.drop x) (ownV s)) = (y : Int) → y < x ∧ act M n (l.drop (y + 1)) (ownV s) = ownV (l.getD y 0) := by
  intro l s hl hs x
  induction x with
  | zero => intro _ y h; rw [bhd] at h; omega
  | succ x ih =>
    intro hx y h
    have hd : ∀ i, i ∈ l.drop (x + 1) → i < n := fun i hi => hl i (List.mem_of_mem_drop hi)
    have hc : l.getD x 0 < n := hl _ (getD_mem (by omega))
    have hv := act_zb (M := M) (v := ownV s) hd (zb_own hs)
    have e3 : rfx M n (act M n (l.drop (x + 1)) (ownV s)) (l.getD x 0) = act M n (l.drop x) (ownV s) := by rw [drop_c (show x < l.length by omega)]; rfl
    rw [bhd, e3] at h
    by_cases e : isO n (act M n (l.drop (x + 1)) (ownV s)) (l.getD x 0)
    · rw [if_pos e] at h
      have exy : x = y := by omega
      subst exy
      exact ⟨by omega, (isO_eq hv hc).mp e⟩
    · rw [if_neg e] at h
      split at h
      · omega
      · have := ih (by omega) y h
        exact ⟨by omega, this.2⟩
theorem bh_at {l : List Nat} {s : Nat} (hl : ∀ i, i ∈ l → i < n) (hs : s < n) (h0 : 0 ≤ bh M n l s) : (bh M n l s).toNat < l.length ∧ act M n (l.drop ((bh M n l s).toNat + 1)) (ownV s) = ownV (l.getD (bh M n l s).toNat 0) := by
  have h := bhd_at (M := M) hl hs l.length (Nat.le_refl _) (bh M n l s).toNat
  rw [show act M n (l.drop l.length) (ownV s) = ownV s by rw [List.drop_length]; rfl] at h
  exact h (by rw [Int.toNat_of_nonneg h0]; rfl)
theorem ahd_at (hM : mB M) : ∀ (w : List Nat) (k : Nat) (x : Nat → Int) (y : Nat), (∀ i, i ∈ w → i < n) → zb n x → ahd M n w k x = ((k + y : Nat) : Int) → y < w.length ∧ x = act M n (w.take y) (ownV (w.getD y 0))
  | [], k, x, y, _, _, h => by rw [ahd] at h; omega
  | c :: t, k, x, y, hw, hx, h => by
    have hc := hw c List.mem_cons_self
    rw [ahd] at h
    by_cases e : isO n x c
    · rw [if_pos e] at h
      have ey : y = 0 := by omega
      subst ey
      exact ⟨by simp, (isO_eq hx hc).mp e⟩
    · rw [if_neg e] at h
      split at h
      · omega
      · have hr := ahd_r M n t (k + 1) (rfx M n x c)
        have ey : y = (y - 1) + 1 := by omega
        rw [ey] at h ⊢
        obtain ⟨a, b⟩ := ahd_at hM t (k + 1) (rfx M n x c) (y - 1) (fun i hi => hw i (List.mem_cons_of_mem _ hi)) (zb_rfx hx hc) (by rw [h]; omega)
        refine ⟨by simp only [List.length_cons]; omega, ?_⟩
        show x = rfx M n (act M n (t.take (y - 1)) (ownV (t.getD (y - 1) 0))) c
        rw [← b, rfx_rfx (hM.1 c)]
theorem ah_at (hM : mB M) {w : List Nat} {s : Nat} (hw : ∀ i, i ∈ w → i < n) (hs : s < n) (h0 : 0 ≤ ah M n w s) : (ah M n w s).toNat < w.length ∧ ownV s = act M n (w.take (ah M n w s).toNat) (ownV (w.getD (ah M n w s).toNat 0)) := ahd_at hM w 0 (ownV s) _ hw (zb_own hs) (by rw [Nat.zero_add, Int.toNat_of_nonneg h0]; rfl)
theorem ahd_no (hM : mB M) (hL : RLi M n L) : ∀ (w : List Nat) (k : Nat) (x : Nat → Int), (∀ i, i ∈ w → i < n) → UL L x → ahd M n w k x ≠ -4
  | [], k, x, _, _ => by rw [ahd]; decide
  | c :: t, k, x, hw, hu => by
    have hc := hw c List.mem_cons_self
    have hu2 := UL_rfx (fun i _ => hM.1 i) hL hc hu
    have hng : ¬ grt (rfx M n x c c) := fun q => by
      have := hu2.rg hL c
      omega
    rw [ahd]
    split
    · omega
    · try rw [if_neg hng]
      exact ahd_no hM hL t (k + 1) _ (fun i hi => hw i (List.mem_cons_of_mem _ hi)) hu2
theorem ah_no (hM : mB M) (hE : EndL M n L) {w : List Nat} {s : Nat} (hw : ∀ i, i ∈ w → i < n) (hs : s < n) : ah M n w s ≠ -4 := ahd_no hM hE.1 w 0 (ownV s) hw (Or.inl (hE.1.own s hs))
theorem ah_inv (hM : mB M) (hd : Evn d M n) (hE : EndL M n L) {w : List Nat} {s : Nat} (hw : Mnw M n w) (hs : s < n) : ah M n w s ≠ -1 ↔ Inv M n L w (ownV s) := by
  have hw1 := hw.1
  constructor
  · intro h
    have h0 : 0 ≤ ah M n w s := by
      have := ah_r M n w s
      have := ah_no hM hE hw1 hs
      omega
    obtain ⟨a, b⟩ := ah_at hM hw1 hs h0
    exact bl_inv hM hE hw1 (hw.rd hM hd) (by rw [b]; exact Bl_mem' a)
  · intro h q
    unfold ah at q
    rw [ahd_actL (fun i _ => hM.1 i) hE.1 w 0 (ownV s) hw1 (zb_own hs) (Or.inl (hE.1.own s hs))] at q
    obtain ⟨k, k1, k2⟩ := Bl_mem (h.bl hM hE hw1)
    exact q k k1 ((wkF_act hM _ _ _).mpr k2)
theorem Mnw.erase_b (hM : mB M) {R R' : List Nat} {c : Nat} (h : Mnw M n R) (hc : c < n) (hR' : ∀ i, i ∈ R' → i < n) (hs : Sam M n (R ++ [c]) R') (hl : R'.length + 1 = R.length) : Mnw M n R' := ⟨hR', fun w' hw' hs' => by
  have e : Sam M n (w' ++ [c]) R := fun x => by
    rw [act_app, hs', ← hs, act_app]
    show act M n R (rfx M n (rfx M n x c) c) = _
    rw [rfx_rfx (hM.1 c)]
  have := h.2 (w' ++ [c]) (fun i hi => by
    rcases List.mem_append.mp hi with z | z
    · exact hw' i z
    · rw [List.mem_singleton.mp z]; exact hc) e
  simp only [List.length_append, List.length_cons, List.length_nil] at this
  omega⟩
theorem Mnw.erase_a (hM : mB M) {R R' : List Nat} {s : Nat} (h : Mnw M n R) (hsn : s < n) (hR' : ∀ i, i ∈ R' → i < n) (hs : Sam M n (s :: R) R') (hl : R'.length + 1 = R.length) : Mnw M n R' ∧ Sam M n (s :: R') R := by
  have e2 : ∀ w', Sam M n w' R' → Sam M n (s :: w') R := fun w' hs' x => by
    show rfx M n (act M n w' x) s = _
    rw [hs', ← hs]
    show rfx M n (rfx M n (act M n R x) s) s = _
    rw [rfx_rfx (hM.1 s)]
  refine ⟨⟨hR', fun w' hw' hs' => ?_⟩, e2 R' (fun _ => rfl)⟩
  have := h.2 (s :: w') (fun i hi => by
    rcases List.mem_cons.mp hi with z | z
    · rw [z]; exact hsn
    · exact hw' i z) (e2 w' hs')
  simp only [List.length_cons] at this
  omega
theorem rdl_snoc {R : List Nat} {c : Nat} (h : RdL M n R) (hc : NB M n R c) : RdL M n (R ++ [c]) := fun k hk => by
  simp only [List.length_append, List.length_cons, List.length_nil] at hk
  by_cases e : k < R.length
  · rw [getD_app0 e, List.take_append_of_le_length (by omega)]
    exact h k e
  · have ek : k = R.length := by omega
    subst ek
    rw [getD_app2, List.take_append_of_le_length (Nat.le_refl _), List.take_length]
    exact hc
theorem shoP_mn (hM : mB M) (hd : Evn d M n) (hE : EndL M n L) : ∀ (W R : List Nat), Mnw M n R → (∀ i, i ∈ W → i < n) → ∃ R', shoP M n R W = some R' ∧ Mnw M n R' ∧ Sam M n R' (R ++ W)
  | [], R, h, _ => ⟨R, by rw [shoP], h, by rw [List.append_nil]; exact fun _ => rfl⟩
  | c :: t, R, h, hW => by
    have hc := hW c List.mem_cons_self
    have ht : ∀ i, i ∈ t → i < n := fun i hi => hW i (List.mem_cons_of_mem _ hi)
    obtain ⟨b1, b2⟩ := bhL (fun i _ => hM.1 i) hE.1 h.1 hc
    rw [shoP, if_neg b1]
    by_cases e : bh M n R c = -1
    · rw [if_pos e]
      have h1 : Mnw M n (R ++ [c]) := RdL.mn hM hE (fun i hi => by
        rcases List.mem_append.mp hi with z | z
        · exact h.1 i z
        · rw [List.mem_singleton.mp z]; exact hc) (rdl_snoc (h.rd hM hd) (b2.mp e))
      obtain ⟨R', g1, g2, g3⟩ := shoP_mn hM hd hE t (R ++ [c]) h1 ht
      refine ⟨R', g1, g2, ?_⟩
      rw [List.append_assoc] at g3
      exact g3
    · rw [if_neg e]
      have h0 : 0 ≤ bh M n R c := by
        have := bh_r M n R c
        omega
      obtain ⟨p1, p2⟩ := bh_at h.1 hc h0
      have hs := take_b hM hd h.1 hc p1 p2
      have hR' : ∀ i, i ∈ R.eraseIdx (bh M n R c).toNat → i < n := fun i hi => h.1 i (List.mem_of_mem_eraseIdx hi)
      obtain ⟨R', g1, g2, g3⟩ := shoP_mn hM hd hE t _ (h.erase_b hM hc hR' hs (len_erase p1)) ht
      refine ⟨R', g1, g2, g3.trans (fun x => ?_)⟩
      rw [act_app, ← hs, ← act_app, List.append_assoc]
      rfl
theorem ldn_in (hM : mB M) (hE : EndL M n L) {R : List Nat} (hR : ∀ i, i ∈ R → i < n) (h0 : R ≠ []) : (ldn M n aJ R n).1 < n ∧ 0 ≤ (ldn M n aJ R n).2 ∧ (ldn M n aJ R n).2 = ah M n R (ldn M n aJ R n).1 ∧ ∀ t, t < n → ah M n R t ≠ -1 → (ldn M n aJ R n).1 ≤ t := by
  have h1 : (ldn M n aJ R n).2 ≠ -1 := by
    cases R with
    | nil => exact absurd rfl h0
    | cons c t => exact ldn_hd (hR c List.mem_cons_self)
  rcases ldn_r M n aJ R n (Nat.le_refl _) with q | q
  · exact absurd q.1 h1
  · have h4 := ah_no hM hE hR q.2.2.2.1
    have h5 := ah_r M n R (ldn M n aJ R n).1
    rw [← q.1] at h4 h5
    exact ⟨q.2.2.2.1, by omega, q.1, fun t ht hne => (ldn_le M n aJ R n (Nat.le_refl _) t (by omega) ht rfl hne).2⟩
theorem frm_mn (hM : mB M) (hd : Evn d M n) (hE : EndL M n L) : ∀ (f : Nat) (R F : List Nat), R.length = f → Mnw M n R → ∃ G, frm M n aJ f R F = some ([], F ++ G) ∧ Sam M n G R ∧ G.length = f ∧ (∀ i, i ∈ G → i < n) ∧ ∀ R2, Mnw M n R2 → Sam M n R2 R → frm M n aJ f R2 F = some ([], F ++ G)
  | 0, R, F, hf, h => by
    have e : R = [] := List.eq_nil_of_length_eq_zero hf
    subst e
    refine ⟨[], by rw [frm, List.append_nil], fun _ => rfl, rfl, fun i hi => (by cases hi), fun R2 h2 hs => ?_⟩
    have := h2.2 [] (fun i hi => by cases hi) hs.symm
    have e2 : R2 = [] := List.eq_nil_of_length_eq_zero (by simp only [List.length_nil] at this; omega)
    rw [e2, frm, List.append_nil]
  | f + 1, R, F, hf, h => by
    have hne : R ≠ [] := fun e => by rw [e] at hf; simp at hf
    obtain ⟨l1, l2, l3, l4⟩ := ldn_in hM hE h.1 hne
    have a0 : 0 ≤ ah M n R (ldn M n aJ R n).1 := by rw [← l3]; exact l2
    obtain ⟨p1, p2⟩ := ah_at hM h.1 l1 a0
    have hs := take_a hM hd h.1 l1 p1 p2.symm
    have hR' : ∀ i, i ∈ R.eraseIdx (ah M n R (ldn M n aJ R n).1).toNat → i < n := fun i hi => h.1 i (List.mem_of_mem_eraseIdx hi)
    obtain ⟨m1, m2⟩ := h.erase_a hM l1 hR' hs (len_erase p1)
    obtain ⟨G, g1, g2, g3, g4, g5⟩ := frm_mn hM hd hE f _ (F ++ [(ldn M n aJ R n).1]) (by have := len_erase p1; omega) m1
    refine ⟨(ldn M n aJ R n).1 :: G, ?_, fun x => ?_, by simp only [List.length_cons]; omega, fun i hi => ?_, fun R2 h2 hsm => ?_⟩
    · rw [frm, if_neg (by omega), if_neg (by omega), l3, g1, List.append_assoc]
      rfl
    · show rfx M n (act M n G x) _ = _
      rw [g2]
      exact m2 x
    · rcases List.mem_cons.mp hi with z | z
      · rw [z]; exact l1
      · exact g4 i z
    · have hl2 : R2.length = f + 1 := by
        have a := h2.2 R h.1 hsm.symm
        have b := h.2 R2 h2.1 hsm
        omega
      have hne2 : R2 ≠ [] := fun e => by rw [e] at hl2; simp at hl2
      obtain ⟨k1, k2, k3, k4⟩ := ldn_in hM hE h2.1 hne2
      have es : (ldn M n aJ R2 n).1 = (ldn M n aJ R n).1 := by
        have a := k4 _ l1 ((ah_inv hM hd hE h2 l1).mpr (((ah_inv hM hd hE h l1).mp (by rw [← l3]; omega)).cg hM hsm.symm))
        have b := l4 _ k1 ((ah_inv hM hd hE h k1).mpr (((ah_inv hM hd hE h2 k1).mp (by rw [← k3]; omega)).cg hM hsm))
        omega
      have b0 : 0 ≤ ah M n R2 (ldn M n aJ R2 n).1 := by rw [← k3]; exact k2
      obtain ⟨q1, q2⟩ := ah_at hM h2.1 k1 b0
      have hs2 := take_a hM hd h2.1 k1 q1 q2.symm
      have hR2' : ∀ i, i ∈ R2.eraseIdx (ah M n R2 (ldn M n aJ R2 n).1).toNat → i < n := fun i hi => h2.1 i (List.mem_of_mem_eraseIdx hi)
      obtain ⟨n1, n2⟩ := h2.erase_a hM k1 hR2' hs2 (len_erase q1)
      rw [frm, if_neg (by omega), if_neg (by omega), k3]
      have := g5 _ n1 (fun x => by
        rw [← hs2, ← hs]
        show rfx M n (act M n R2 x) _ = rfx M n (act M n R x) _
        rw [hsm, es])
      rw [es] at this ⊢
      rw [this, List.append_assoc]
      rfl
theorem fwP_mn (hM : mB M) (hd : Evn d M n) (hE : EndL M n L) {W : List Nat} (hW : ∀ i, i ∈ W → i < n) : ∃ F, fwP M n W = some F ∧ Mnw M n F ∧ Sam M n F W ∧ ∀ W', (∀ i, i ∈ W' → i < n) → Sam M n W' W → fwP M n W' = some F := by
  have h0 : Mnw M n [] := ⟨fun i hi => (by cases hi), fun w' _ _ => Nat.zero_le _⟩
  obtain ⟨R, r1, r2, r3⟩ := shoP_mn hM hd hE W [] h0 hW
  rw [List.nil_append] at r3
  obtain ⟨G, g1, g2, g3, g4, g5⟩ := frm_mn hM hd hE R.length R [] rfl r2
  rw [List.nil_append] at g1 g5
  refine ⟨G, fwP_s r1 (by unfold foP; rw [g1]; rfl), ⟨g4, fun w' hw' hs => by rw [g3]; exact r2.2 w' hw' (hs.trans g2)⟩, g2.trans r3, fun W' hW' hs => ?_⟩
  obtain ⟨R2, s1, s2, s3⟩ := shoP_mn hM hd hE W' [] h0 hW'
  rw [List.nil_append] at s3
  have e : Sam M n R2 R := s3.trans (hs.trans r3.symm)
  have el : R2.length = R.length := by
    have a := r2.2 R2 s2.1 e
    have b := s2.2 R r2.1 e.symm
    omega
  exact fwP_s s1 (by unfold foP; rw [el, g5 R2 s2 e]; rfl)
theorem tbd_act (hM : mB M) (hL : RLi M n L) {R : List Nat} (hR : ∀ i, i ∈ R → i < n) : ∀ (x : Nat) (v : Nat → Int), x ≤ R.length → UL L v → tbd M n R x v = some (act M n (R.take x) v)
  | 0, v, _, _ => rfl
  | x + 1, v, hx, hu => by
    have hc : R.getD x 0 < n := hR _ (getD_mem (by omega))
    have hu2 := UL_rfx (fun i _ => hM.1 i) hL hc hu
    have hng : ¬ grt (rfx M n v (R.getD x 0) (R.getD x 0)) := fun q => by
      have := hu2.rg hL (R.getD x 0)
      omega
    rw [tbd, if_neg hng, tbd_act hM hL hR x _ (by omega) hu2, take_s (by omega), act_app]
    rfl
end FV
end
section
/-! chambers and walls, in a set that ends -/
noncomputable def wab (y : Nat → Int) (j : Nat) : Int := @ite _ (∃ k, y k < 0) (Classical.propDecidable _) (- y j) (y j)
def bta (M : Nat → Nat → Int) (n : Nat) (u F : List Nat) (i : Nat) : Nat → Int := act M n u (act M n (F.take i) (ownV (F.getD i 0)))
section WV
variable {d : Nat → Int} {M : Nat → Nat → Int} {n : Nat} {L : List (Nat → Int)}
theorem wab_p {y : Nat → Int} (h : ∀ k, 0 ≤ y k) : wab y = y := by
  funext j
  unfold wab
  rw [if_neg (fun ⟨k, q⟩ => by have := h k; omega)]
theorem wab_n (hE : EndL M n L) {p : Nat → Int} (h : p ∈ L) : wab (fun j => - p j) = p := by
  have hk : ∃ k, (fun j => - p j) k < 0 := Classical.byContradiction fun q => hE.nz h (fun j => by
    have a := (hE.1.nn p h j).1
    have b : ¬ (- p j < 0) := fun z => q ⟨j, z⟩
    omega)
  funext j
  unfold wab
  rw [if_pos hk]
  show - - p j = p j
  omega
theorem wab_UL (hE : EndL M n L) {y : Nat → Int} (h : UL L y) : wab y ∈ L ∧ (y = wab y ∨ y = fun j => - wab y j) := by
  rcases h with h | h
  · have e := wab_p (fun k => (hE.1.nn y h k).1)
    rw [e]
    exact ⟨h, Or.inl rfl⟩
  · have e := wab_n hE h
    rw [neg_neg_v] at e
    rw [e]
    exact ⟨h, Or.inr (neg_neg_v y).symm⟩
theorem wab_neg (hE : EndL M n L) {y : Nat → Int} (h : UL L y) : wab (fun j => - y j) = wab y := by
  rcases h with h | h
  · rw [wab_n hE h, wab_p (fun k => (hE.1.nn y h k).1)]
  · have e := wab_n hE h
    rw [neg_neg_v] at e
    rw [e]
    exact wab_p (fun k => (hE.1.nn _ h k).1)
theorem Bl_get : ∀ (r : List Nat) (k : Nat), k < r.length → (Bl M n r)[k]? = some (act M n (r.take k) (ownV (r.getD k 0)))
  | [], k, h => by simp at h
  | a :: r, 0, _ => rfl
  | a :: r, k + 1, h => by
    rw [Bl, List.getElem?_cons_succ, List.getElem?_map, Bl_get r k (by simp at h; omega)]
    rfl
theorem bl_ne (hM : mB M) (hE : EndL M n L) {F : List Nat} (hF : ∀ i, i ∈ F → i < n) (hr : RdL M n F) {c i : Nat} (hc : c < i) (hi : i < F.length) : act M n (F.take c) (ownV (F.getD c 0)) ≠ act M n (F.take i) (ownV (F.getD i 0)) := fun h => by
  have h1 := (Bl_ok (fun i _ => hM.1 i) hE.1 hF hr).1
  have a := Bl_get (M := M) (n := n) F c (by omega)
  have b := Bl_get (M := M) (n := n) F i hi
  rw [h] at a
  have hl : i < (Bl M n F).length := by rw [Bl_len]; exact hi
  have hl' : c < (Bl M n F).length := by omega
  rw [List.getElem?_eq_getElem hl'] at a
  rw [List.getElem?_eq_getElem hl] at b
  have := List.pairwise_iff_getElem.mp (List.nodup_iff_pairwise_ne.mp h1) c i hl' hl hc
  exact this (Option.some.inj (a.trans b.symm))
theorem bl_in (hM : mB M) (hd : Evn d M n) (hE : EndL M n L) {F : List Nat} (hF : Mnw M n F) {i : Nat} (hi : i < F.length) : Inv M n L F (act M n (F.take i) (ownV (F.getD i 0))) := bl_inv hM hE hF.1 (hF.rd hM hd) (Bl_mem' hi)
theorem bta_UL (hM : mB M) (hd : Evn d M n) (hE : EndL M n L) {u F : List Nat} (hu : ∀ i, i ∈ u → i < n) (hF : Mnw M n F) {i : Nat} (hi : i < F.length) : UL L (bta M n u F i) := UL_act (fun i _ => hM.1 i) hE.1 hu (Or.inl (bl_in hM hd hE hF hi).1)
/-- a wall: at or above 0, and above 0 somewhere -/
theorem wall_pos (hE : EndL M n L) {y : Nat → Int} (h : UL L y) : (∀ j, 0 ≤ wab y j ∧ wab y j ≤ 6) ∧ (∃ j, j < n ∧ 0 < wab y j) ∧ ∀ j, n ≤ j → wab y j = 0 := by
  have h1 := (wab_UL hE h).1
  have hz := (hE.2 _ h1).2.1
  refine ⟨fun j => hE.1.nn _ h1 j, Classical.byContradiction fun q => hE.nz h1 (fun j => ?_), hz⟩
  by_cases c : j < n
  · have a := (hE.1.nn _ h1 j).1
    have b : ¬ (0 < wab y j) := fun z => q ⟨j, c, z⟩
    omega
  · exact hz j (by omega)
theorem wall_two (hM : mB M) (hd : Evn d M n) (hE : EndL M n L) {u F : List Nat} (hu : ∀ i, i ∈ u → i < n) (hF : Mnw M n F) {c i : Nat} (hc : c < i) (hi : i < F.length) : ∃ j, j < n ∧ wab (bta M n u F c) j ≠ wab (bta M n u F i) j := Classical.byContradiction fun q => by
  have uc := bta_UL hM hd hE hu hF (show c < F.length by omega)
  have ui := bta_UL hM hd hE hu hF hi
  have e : wab (bta M n u F c) = wab (bta M n u F i) := funext fun j => by
    by_cases z : j < n
    · exact Classical.byContradiction fun z2 => q ⟨j, z, z2⟩
    · rw [(wall_pos hE uc).2.2 j (by omega), (wall_pos hE ui).2.2 j (by omega)]
  have hne := bl_ne hM hE hF.1 (hF.rd hM hd) hc hi
  have bc := (bl_in hM hd hE hF (show c < F.length by omega)).1
  have bi := (bl_in hM hd hE hF hi).1
  have hpm : bta M n u F c = bta M n u F i ∨ bta M n u F c = fun j => - bta M n u F i j := by
    rcases (wab_UL hE uc).2 with a | a
    · rcases (wab_UL hE ui).2 with b | b
      · left; rw [a, b, e]
      · right
        rw [a, e]
        conv => rhs; rw [b]
        exact (neg_neg_v _).symm
    · rcases (wab_UL hE ui).2 with b | b
      · right
        rw [a, e]
        conv => rhs; rw [b]
      · left; rw [a, b, e]
  have hi2 : ∀ x, act M n u.reverse (act M n u x) = x := fun x => act_rev hM x u
  rcases hpm with h | h
  · refine hne ?_
    have := congrArg (act M n u.reverse) h
    unfold bta at this
    rw [hi2, hi2] at this
    exact this
  · have := congrArg (act M n u.reverse) h
    unfold bta at this
    rw [act_neg, hi2, hi2] at this
    refine pos_neg hE bi ?_
    rw [← this]
    exact bc
/-- the way back -/
theorem back_w {u v : List Nat} : (u.reverse ++ v).reverse = v.reverse ++ u := by rw [List.reverse_append, List.reverse_reverse]
theorem back_len (hM : mB M) {u v F F' : List Nat} (hF : Mnw M n F) (hs : Sam M n F (u.reverse ++ v)) (hF' : Mnw M n F') (hs' : Sam M n F' (v.reverse ++ u)) : F'.length = F.length ∧ Sam M n F'.reverse F := by
  have e : Sam M n F.reverse F' := by
    have := hs.rev hM
    rw [back_w] at this
    exact this.trans hs'.symm
  have e2 : Sam M n F'.reverse F := by
    have := e.rev hM
    rw [List.reverse_reverse] at this
    exact this.symm
  have a := hF'.2 F.reverse (fun i hi => hF.1 i (List.mem_reverse.mp hi)) e
  have b := hF.2 F'.reverse (fun i hi => hF'.1 i (List.mem_reverse.mp hi)) e2
  rw [List.length_reverse] at a b
  exact ⟨by omega, e2⟩
theorem wall_back (hM : mB M) (hd : Evn d M n) (hE : EndL M n L) {u v F F' : List Nat} (hu : ∀ i, i ∈ u → i < n) (hF : Mnw M n F) (hs : Sam M n F (u.reverse ++ v)) (hF' : Mnw M n F') (hs' : Sam M n F' (v.reverse ++ u)) {i : Nat} (hi : i < F.length) : ∃ c, c < F'.length ∧ wab (bta M n v F' c) = wab (bta M n u F i) := by
  obtain ⟨b1, b2⟩ := bl_in hM hd hE hF hi
  obtain ⟨b, hb⟩ : ∃ b, b = act M n (F.take i) (ownV (F.getD i 0)) := ⟨_, rfl⟩
  rw [← hb] at b1 b2
  have e2 := (back_len hM hF hs hF' hs').2
  have hiv : Inv M n L F' (fun j => - act M n F.reverse b j) := ⟨b2, by
    rw [e2, act_neg, neg_neg_v, act_rev2 hM]
    exact b1⟩
  obtain ⟨c, c1, c2⟩ := Bl_mem (hiv.bl hM hE hF'.1)
  refine ⟨c, c1, ?_⟩
  have e3 : bta M n v F' c = fun j => - bta M n u F i j := by
    unfold bta
    rw [← c2, ← hb, act_neg]
    have hr := hs.rev hM
    rw [back_w] at hr
    rw [hr, act_app, act_rev2 hM]
  rw [e3]
  exact wab_neg hE (bta_UL hM hd hE hu hF hi)
theorem third_w (hM : mB M) {t u v : List Nat} : Sam M n ((t ++ u).reverse ++ (t ++ v)) (u.reverse ++ v) := fun x => by
  rw [List.reverse_append, act_app, act_app, act_app, act_app, act_rev hM]
theorem here_w (hM : mB M) {u : List Nat} : Sam M n (u.reverse ++ u) [] := fun x => by
  rw [act_app, act_rev hM]
  rfl
theorem there_w (hM : mB M) {u v F : List Nat} (hs : Sam M n F (u.reverse ++ v)) : Sam M n (u ++ F) v := fun x => by
  rw [act_app, hs, act_app, act_rev2 hM]
end WV
/-- a set that is one component -/
theorem endl_iso {M : Nat → Nat → Int} {n t : Nat} {pos : Nat → Nat} (hI : Iso M n t pos) (hz : ∀ i, i < n → M i i = 0) (hc : ∀ i, i < n → ∃ a, a < tyK t ∧ pos a = i) : EndL M n ((rooT.getD t []).map (fun p => emb (tyK t) pos (veL p))) := by
  refine ⟨⟨?_, fun i hi => ?_, fun p hp i hi => ?_, fun p hp j => ?_⟩, fun p hp => ?_⟩
  · rw [List.length_map]
    have := (rooF hI.t0).1
    have h6 : tyK t ≤ 6 := by
      have h := allN_e (show allN 21 (fun t => Nat.ble (tyK t) 6) = true by decide +kernel) t hI.t0
      exact Nat.ble_eq.mp h
    omega
  · obtain ⟨a, ha, rfl⟩ := hc i hi
    obtain ⟨q, hq, hq2⟩ := (rooF hI.t0).2.1 a ha
    exact List.mem_map.mpr ⟨q, hq, emb_unit hI ha hq2⟩
  · obtain ⟨p, hp2, rfl⟩ := List.mem_map.mp hp
    obtain ⟨a, ha, rfl⟩ := hc i hi
    rcases ((rooF hI.t0).2.2 p hp2).2 a ha with h5 | ⟨q, hq, hq2⟩
    · exact Or.inl (emb_unit hI ha h5)
    · exact Or.inr (List.mem_map.mpr ⟨q, hq, (rfx_emb hI ha hq2).symm⟩)
  · obtain ⟨p, hp2, rfl⟩ := List.mem_map.mp hp
    by_cases hx : ∃ b, b < tyK t ∧ pos b = j
    · obtain ⟨b, hb, rfl⟩ := hx
      rw [emb_at hI.inj hb]
      unfold veL
      have := ((rooF hI.t0).2.2 p hp2).1 b hb
      omega
    · rw [emb_out (fun b hb e => hx ⟨b, hb, e⟩)]
      omega
  · obtain ⟨p, hp2, rfl⟩ := List.mem_map.mp hp
    obtain ⟨g1, g2⟩ := rooG hI.t0 hp2
    refine ⟨?_, fun j hj => emb_out (fun a ha e => by have := hI.lt a ha; omega), ?_⟩
    · have := emb_sm hI p
      unfold hgN at this
      omega
    · rcases g2 with ⟨i, hi, h5⟩ | ⟨i, hi, h5⟩
      · exact Or.inl ⟨pos i, hI.lt i hi, emb_unit hI hi h5⟩
      · refine Or.inr ⟨pos i, hI.lt i hi, ?_⟩
        rw [prg_emb hI p hi]
        omega
end
