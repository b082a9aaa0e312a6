section
/-! the longest word: each time the least mirror that makes it longer -/
def stp (M : Nat → Nat → Int) (n : Nat) (R : List Nat) : List Nat := if lup M n R n = -1 then R else R ++ [(lup M n R n).toNat]
def lgr (M : Nat → Nat → Int) (n : Nat) : Nat → List Nat
  | 0 => []
  | k + 1 => stp M n (lgr M n k)
theorem lup_r (M : Nat → Nat → Int) (n : Nat) (R : List Nat) : ∀ f, f ≤ n → lup M n R f = -1 ∨ (0 ≤ lup M n R f ∧ lup M n R f < n ∧ bh M n R (lup M n R f).toNat = -1 ∧ ∀ s, n - f ≤ s → s < (lup M n R f).toNat → bh M n R s ≠ -1)
  | 0, _ => Or.inl rfl
  | f + 1, hf => by
    rw [lup]
    split
    · rename_i e
      exact Or.inr ⟨by omega, by omega, by rw [Int.toNat_natCast]; exact e, fun s h1 h2 => by omega⟩
    · rename_i e
      rcases lup_r M n R f (by omega) with h | ⟨h1, h2, h3, h4⟩
      · exact Or.inl h
      · refine Or.inr ⟨h1, h2, h3, fun s q1 q2 => ?_⟩
        by_cases c : s = n - (f + 1)
        · rw [c]; exact e
        · exact h4 s (by omega) q2
theorem NB_iff {M : Nat → Nat → Int} {n : Nat} {s : Nat} : ∀ (r : List Nat), NB M n r s ↔ ∀ y, y < r.length → act M n (r.drop (y + 1)) (ownV s) ≠ ownV (r.getD y 0)
  | [] => ⟨fun _ y hy => by simp at hy, fun _ => trivial⟩
  | i :: r => by
    have ih := NB_iff (M := M) (n := n) (s := s) r
    show (act M n r (ownV s) ≠ ownV i ∧ NB M n r s) ↔ _
    rw [ih]
    constructor
    · rintro ⟨h1, h2⟩ y hy
      cases y with
      | zero => exact h1
      | succ y => exact h2 y (by simp only [List.length_cons] at hy; omega)
    · intro h
      exact ⟨h 0 (by simp), fun y hy => h (y + 1) (by simp only [List.length_cons]; omega)⟩
theorem rfx_neg {M : Nat → Nat → Int} {n : Nat} {v : Nat → Int} {c : Nat} : rfx M n (fun j => - v j) c = fun j => - rfx M n v c j := by
  have e : sm n (fun j => M c j * - v j) = - sm n (fun j => M c j * v j) := by
    have := sm_mul n (-1) (fun j => M c j * v j)
    rw [show -1 * sm n (fun j => M c j * v j) = - sm n (fun j => M c j * v j) by omega] at this
    rw [← this]
    exact sm_congr (fun j _ => by rw [Int.mul_neg]; omega)
  funext j
  unfold rfx prg
  rw [e]
  dsimp only
  split <;> omega
theorem act_neg {M : Nat → Nat → Int} {n : Nat} {v : Nat → Int} : ∀ (w : List Nat), act M n w (fun j => - v j) = fun j => - act M n w v j
  | [] => rfl
  | c :: t => by
    show rfx M n (act M n t (fun j => - v j)) c = _
    rw [act_neg t, rfx_neg]
    rfl
theorem act_app {M : Nat → Nat → Int} {n : Nat} {v : Nat → Int} : ∀ (u w : List Nat), act M n (u ++ w) v = act M n u (act M n w v)
  | [], _ => rfl
  | c :: t, w => by
    show rfx M n (act M n (t ++ w) v) c = _
    rw [act_app t w]
    rfl
theorem rfx_own {M : Nat → Nat → Int} {n c : Nat} (hc : c < n) (hz : M c c = 0) : rfx M n (ownV c) c = fun j => - ownV c j := by
  funext j
  unfold rfx
  rw [prg_own hc hz]
  unfold ownV
  split
  · rename_i e; rw [if_pos rfl]; rfl
  · rfl
def UL (L : List (Nat → Int)) (v : Nat → Int) : Prop := v ∈ L ∨ (fun j => - v j) ∈ L
section EL
variable {M : Nat → Nat → Int} {n : Nat} {L : List (Nat → Int)}
theorem neg_neg_v (v : Nat → Int) : (fun j => - (fun j => - v j) j) = v := by funext j; show - - v j = v j; omega
theorem UL_rfx (hz : ∀ i, i < n → M i i = 0) (hL : RLi M n L) {v : Nat → Int} {c : Nat} (hc : c < n) (h : UL L v) : UL L (rfx M n v c) := by
  have key : ∀ v, v ∈ L → UL L (rfx M n v c) := fun v hv => by
    rcases hL.cl v hv c hc with e | e
    · right
      rw [e, rfx_own hc (hz c hc), neg_neg_v]
      exact hL.own c hc
    · exact Or.inl e
  rcases h with h | h
  · exact key v h
  · have := key _ h
    rw [rfx_neg] at this
    rcases this with q | q
    · exact Or.inr q
    · rw [neg_neg_v] at q
      exact Or.inl q
theorem UL.rg (hL : RLi M n L) {v : Nat → Int} (h : UL L v) (j : Nat) : -6 ≤ v j ∧ v j ≤ 6 := by
  rcases h with h | h
  · have := hL.nn v h j; omega
  · have : 0 ≤ - v j ∧ - v j ≤ 6 := hL.nn _ h j
    omega
theorem UL_act (hz : ∀ i, i < n → M i i = 0) (hL : RLi M n L) {v : Nat → Int} : ∀ {w : List Nat}, (∀ i, i ∈ w → i < n) → UL L v → UL L (act M n w v)
  | [], _, h => h
  | c :: t, hw, h => UL_rfx hz hL (hw c List.mem_cons_self) (UL_act hz hL (w := t) (fun i hi => hw i (List.mem_cons_of_mem _ hi)) h)
theorem bhd_actL (hz : ∀ i, i < n → M i i = 0) (hL : RLi M n L) {s : Nat} {l : List Nat} (hl : ∀ i, i ∈ l → i < n) (hs : s < n) : ∀ x, x ≤ l.length → bhd M n l x (act M n (l.drop x) (ownV s)) ≠ -4 ∧ (bhd M n l x (act M n (l.drop x) (ownV s)) = -1 ↔ ∀ y, y < x → act M n (l.drop (y + 1)) (ownV s) ≠ ownV (l.getD y 0))
  | 0, _ => by rw [bhd]; exact ⟨by decide, fun _ y hy => by omega, fun _ => rfl⟩
  | x + 1, hx => by
    have hd : ∀ i, i ∈ l.drop (x + 1) → i < n := fun i hi => hl i (List.mem_of_mem_drop hi)
    have hd0 : ∀ i, i ∈ l.drop x → i < n := fun i hi => hl i (List.mem_of_mem_drop hi)
    have hc : l.getD x 0 < n := hl _ (getD_mem (by omega))
    have hv := act_zb (M := M) (v := ownV s) hd (zb_own hs)
    have ih := bhd_actL hz hL hl hs x (by omega)
    have e3 : rfx M n (act M n (l.drop (x + 1)) (ownV s)) (l.getD x 0) = act M n (l.drop x) (ownV s) := by rw [drop_c (show x < l.length by omega)]; rfl
    have hng : ¬ grt (act M n (l.drop x) (ownV s) (l.getD x 0)) := fun q => by
      have := (UL_act hz hL hd0 (Or.inl (hL.own s hs))).rg hL (l.getD x 0)
      omega
    rw [bhd, e3]
    by_cases e : isO n (act M n (l.drop (x + 1)) (ownV s)) (l.getD x 0)
    · rw [if_pos e]
      exact ⟨by omega, fun q => by omega, fun q => absurd ((isO_eq hv hc).mp e) (q x (by omega))⟩
    · rw [if_neg e, if_neg hng]
      refine ⟨ih.1, ih.2.trans ⟨fun q y hy => ?_, fun q y hy => q y (by omega)⟩⟩
      by_cases ey : y = x
      · subst ey
        exact fun z => e ((isO_eq hv hc).mpr z)
      · exact q y (by omega)
theorem bhL (hz : ∀ i, i < n → M i i = 0) (hL : RLi M n L) {s : Nat} {l : List Nat} (hl : ∀ i, i ∈ l → i < n) (hs : s < n) : bh M n l s ≠ -4 ∧ (bh M n l s = -1 ↔ NB M n l s) := by
  have h := bhd_actL hz hL hl hs l.length (Nat.le_refl _)
  rw [show act M n (l.drop l.length) (ownV s) = ownV s by rw [List.drop_length]; rfl] at h
  rw [NB_iff]
  exact h
theorem ahd_actL (hz : ∀ i, i < n → M i i = 0) (hL : RLi M n L) : ∀ (w : List Nat) (k : Nat) (x : Nat → Int), (∀ i, i ∈ w → i < n) → zb n x → UL L x → (ahd M n w k x = -1 ↔ ∀ y, y < w.length → wkF M n (w.take y) x ≠ ownV (w.getD y 0))
  | [], k, x, _, _, _ => by rw [ahd]; exact ⟨fun _ y hy => by simp at hy, fun _ => rfl⟩
  | c :: t, k, x, hw, hx, hu => by
    have hc := hw c List.mem_cons_self
    have hu2 := UL_rfx hz hL hc hu
    have ih := ahd_actL hz hL t (k + 1) (rfx M n x c) (fun i hi => hw i (List.mem_cons_of_mem _ hi)) (zb_rfx hx hc) hu2
    have hng : ¬ grt (rfx M n x c c) := fun q => by
      have := hu2.rg hL c
      omega
    rw [ahd]
    by_cases e : isO n x c
    · rw [if_pos e]
      exact ⟨fun q => by omega, fun q => absurd ((isO_eq hx hc).mp e) (q 0 (by simp))⟩
    · rw [if_neg e, if_neg hng, ih]
      constructor
      · intro q y hy
        cases y with
        | zero => exact fun z => e ((isO_eq hx hc).mpr z)
        | succ y => exact q y (by simp only [List.length_cons] at hy; omega)
      · intro q y hy
        exact q (y + 1) (by simp only [List.length_cons]; omega)
theorem EndL.nz (h : EndL M n L) {q : Nat → Int} (hq : q ∈ L) (h0 : ∀ j, q j = 0) : False := by
  rcases (h.2 q hq).2.2 with ⟨i, hi, e⟩ | ⟨i, hi, e⟩
  · have := h0 i
    rw [e] at this
    unfold ownV at this
    rw [if_pos rfl] at this
    omega
  · unfold prg at e
    rw [sm_zero (fun j _ => by rw [h0 j, Int.mul_zero]), h0 i] at e
    omega
theorem gr_ah (hM : mB M) (hE : EndL M n L) {R : List Nat} (hw : ∀ i, i ∈ R → i < n) (hr : RdL M n R) (hg : ∀ i, i < R.length → ∀ t, t < R.getD i 0 → bh M n (R.take i) t ≠ -1) : ∀ i, i < R.length → ∀ t, t < R.getD i 0 → ah M n (R.drop i) t = -1 := by
  intro i hi t ht
  have hz : ∀ i, i < n → M i i = 0 := fun i _ => hM.1 i
  have hL := hE.1
  have htn : t < n := by have := hw _ (getD_mem hi); omega
  have hdr : ∀ j, j ∈ R.drop i → j < n := fun j hj => hw j (List.mem_of_mem_drop hj)
  have htk : ∀ (m : Nat) (j : Nat), j ∈ R.take m → j < n := fun m j hj => hw j (List.mem_of_mem_take hj)
  unfold ah
  rw [ahd_actL hz hL (R.drop i) 0 (ownV t) hdr (zb_own htn) (Or.inl (hL.own t htn))]
  intro y hy e
  rw [wkF_act hM] at e
  rw [List.length_drop] at hy
  have hmem : ∀ m, m < R.length → act M n (R.take m) (ownV (R.getD m 0)) ∈ L := fun m hm => NB.mem hL (hw _ (getD_mem hm)) (htk m) (hr m hm)
  have h1 : act M n (R.take i) (ownV t) ∈ L := by
    have eg : (R.drop i).getD y 0 = R.getD (i + y) 0 := by
      rw [List.getD_eq_getElem?_getD, List.getElem?_drop, List.getD_eq_getElem?_getD]
    have et : R.take (i + y) = R.take i ++ (R.drop i).take y := by rw [List.take_add]
    have := hmem (i + y) (by omega)
    rw [et, act_app, ← eg, ← e] at this
    exact this
  have h2 := hg i hi t ht
  have h3 : ¬ NB M n (R.take i) t := fun q => h2 ((bhL hz hL (htk i) htn).2.mpr q)
  rw [NB_iff] at h3
  have h4 : ∃ z, z < (R.take i).length ∧ act M n ((R.take i).drop (z + 1)) (ownV t) = ownV ((R.take i).getD z 0) := Classical.byContradiction fun q => h3 (fun z z1 z2 => q ⟨z, z1, z2⟩)
  obtain ⟨z, z1, z2⟩ := h4
  rw [List.length_take] at z1
  have ez : (R.take i).getD z 0 = R.getD z 0 := by
    rw [List.getD_eq_getElem?_getD, List.getElem?_take, if_pos (by omega), List.getD_eq_getElem?_getD]
  have hzn : R.getD z 0 < n := hw _ (getD_mem (by omega))
  have h5 : act M n (R.take i) (ownV t) = fun j => - act M n (R.take z) (ownV (R.getD z 0)) j := by
    have es : R.take i = R.take z ++ (R.getD z 0 :: (R.take i).drop (z + 1)) := by
      have e1 : (R.take i).drop z = R.getD z 0 :: (R.take i).drop (z + 1) := by
        rw [drop_c (by rw [List.length_take]; omega), ez]
      rw [← e1]
      have e2 : R.take z = (R.take i).take z := by rw [List.take_take]; congr 1; omega
      rw [e2, List.take_append_drop]
    rw [← act_neg]
    conv => lhs; rw [es]
    rw [act_app]
    show act M n (R.take z) (rfx M n (act M n ((R.take i).drop (z + 1)) (ownV t)) (R.getD z 0)) = _
    rw [z2, ez, rfx_own hzn (hM.1 _)]
  have h6 := hmem z (by omega)
  rw [h5] at h1
  exact hE.nz h6 (fun j => by
    have a := (hL.nn _ h6 j).1
    have b : 0 ≤ - act M n (R.take z) (ownV (R.getD z 0)) j := (hL.nn _ h1 j).1
    omega)
theorem getD_app0 {l m : List Nat} {i : Nat} (h : i < l.length) : (l ++ m).getD i 0 = l.getD i 0 := by
  rw [List.getD_eq_getElem?_getD, List.getD_eq_getElem?_getD, List.getElem?_append_left h]
/-- what the word so far is -/
def GrW (M : Nat → Nat → Int) (n : Nat) (R : List Nat) : Prop := (∀ i, i ∈ R → i < n) ∧ RdL M n R ∧ ∀ i, i < R.length → ∀ t, t < R.getD i 0 → bh M n (R.take i) t ≠ -1
theorem GrW_stp (hM : mB M) (hE : EndL M n L) {R : List Nat} (h : GrW M n R) : GrW M n (stp M n R) := by
  obtain ⟨h1, h2, h3⟩ := h
  unfold stp
  split
  · exact ⟨h1, h2, h3⟩
  · rename_i e
    obtain ⟨l1, l2, l3, l4⟩ := (lup_r M n R n (Nat.le_refl _)).resolve_left e
    have hnb := (bhL (fun i _ => hM.1 i) hE.1 h1 (s := (lup M n R n).toNat) (by omega)).2.mp l3
    refine ⟨fun i hi => ?_, fun k hk => ?_, fun i hi t ht => ?_⟩
    · rcases List.mem_append.mp hi with q | q
      · exact h1 i q
      · rw [List.mem_singleton.mp q]; omega
    · simp only [List.length_append, List.length_cons, List.length_nil] at hk
      by_cases c : k < R.length
      · rw [getD_app0 c, List.take_append_of_le_length (by omega)]
        exact h2 k c
      · have ek : k = R.length := by omega
        subst ek
        rw [getD_app2, List.take_append_of_le_length (Nat.le_refl _), List.take_length]
        exact hnb
    · simp only [List.length_append, List.length_cons, List.length_nil] at hi
      by_cases c : i < R.length
      · rw [getD_app0 c] at ht
        rw [List.take_append_of_le_length (by omega)]
        exact h3 i c t ht
      · have ek : i = R.length := by omega
        subst ek
        rw [getD_app2] at ht
        rw [List.take_append_of_le_length (Nat.le_refl _), List.take_length]
        exact l4 t (by omega) ht
theorem GrW_lgr (hM : mB M) (hE : EndL M n L) : ∀ k, GrW M n (lgr M n k)
  | 0 => ⟨fun i hi => by simp [lgr] at hi, fun k hk => by simp [lgr] at hk, fun i hi => by simp [lgr] at hi⟩
  | k + 1 => GrW_stp hM hE (GrW_lgr hM hE k)
theorem foP_lgr (hM : mB M) (hE : EndL M n L) (k : Nat) : foP M n (lgr M n k) = some (lgr M n k) := by
  have h := GrW_lgr hM hE k
  have h2 := (fmS_self (M := M) (n := n) (lgr M n k) [] h.1).mpr (gr_ah hM hE h.1 h.2.1 h.2.2)
  rw [List.nil_append] at h2
  exact h2
/-- no word without loss has more letters than a list that holds all roots -/
theorem RdL_card (hz : ∀ i, i < n → M i i = 0) (hL : RLi M n L) {K : List (Nat → Int)} (hK : ∀ x, x ∈ L → x ∈ K) {r : List Nat} (hr : ∀ i, i ∈ r → i < n) (h : RdL M n r) : r.length ≤ K.length := by
  haveI : DecidableEq (Nat → Int) := fun a b => Classical.propDecidable (a = b)
  obtain ⟨h1, h2⟩ := Bl_ok hz hL hr h
  have h3 := php_list h1 (fun x hx => hK x (h2 x hx))
  have h4 : ∀ r : List Nat, (Bl M n r).length = r.length := by
    intro r
    induction r with
    | nil => rfl
    | cons a r ih => simp [Bl, ih]
  rw [h4] at h3
  exact h3
theorem lgr_len (hM : mB M) (hE : EndL M n L) (k : Nat) : (lgr M n k).length ≤ 36 := by
  have h := GrW_lgr hM hE k
  exact h.2.1.len (fun i _ => hM.1 i) hE.1 h.1
theorem stp_len (R : List Nat) : stp M n R = R ∨ (stp M n R).length = R.length + 1 := by
  unfold stp
  split
  · exact Or.inl rfl
  · exact Or.inr (by simp)
theorem lgr_grow : ∀ k, (lgr M n k).length = k ∨ stp M n (lgr M n k) = lgr M n k
  | 0 => Or.inl rfl
  | k + 1 => by
    rcases lgr_grow k with h | h
    · rcases stp_len (M := M) (n := n) (lgr M n k) with q | q
      · right
        show stp M n (stp M n (lgr M n k)) = stp M n (lgr M n k)
        rw [q, q]
      · left
        show (stp M n (lgr M n k)).length = k + 1
        rw [q, h]
    · right
      show stp M n (stp M n (lgr M n k)) = stp M n (lgr M n k)
      rw [h, h]
theorem lgr_fix (hM : mB M) (hE : EndL M n L) {K : List (Nat → Int)} (hK : ∀ x, x ∈ L → x ∈ K) {k : Nat} (hk : K.length ≤ k) : stp M n (lgr M n k) = lgr M n k := by
  rcases lgr_grow (M := M) (n := n) (k + 1) with h | h
  · have h2 := GrW_lgr hM hE (k + 1)
    have h3 := RdL_card (fun i _ => hM.1 i) hE.1 hK h2.1 h2.2.1
    omega
  · rcases lgr_grow (M := M) (n := n) k with q | q
    · rcases stp_len (M := M) (n := n) (lgr M n k) with z | z
      · exact z
      · have h2 := GrW_lgr hM hE (k + 1)
        have h3 := RdL_card (fun i _ => hM.1 i) hE.1 hK h2.1 h2.2.1
        have : (lgr M n (k + 1)).length = k + 1 := by
          show (stp M n (lgr M n k)).length = k + 1
          rw [z, q]
        omega
    · exact q
theorem lgr_stay {a : Nat} (h : stp M n (lgr M n a) = lgr M n a) : ∀ b, a ≤ b → lgr M n b = lgr M n a := by
  intro b
  induction b with
  | zero => intro hb; rw [show a = 0 by omega]
  | succ b ih =>
    intro hb
    by_cases e : a = b + 1
    · rw [e]
    · show stp M n (lgr M n b) = _
      rw [ih (by omega), h]
theorem lgr_same {a b : Nat} (h : stp M n (lgr M n a) = lgr M n a) (h2 : stp M n (lgr M n b) = lgr M n b) : lgr M n a = lgr M n b := by
  rcases Nat.le_total a b with q | q
  · exact (lgr_stay h b q).symm
  · exact lgr_stay h2 a q
end EL
/-- what longest answers and keeps -/
noncomputable def fLongest (M : Nat → Nat → Int) (n : Nat) (c : Int) (w : wS) : Int × wS := if (0 ≤ c ∧ c < 8) then (@ite _ (∃ L, EndL M n L) (Classical.propDecidable _) (fStore c w (some (lgr M n 36))) (-2, w)) else (-1, w)
theorem fLg_b {M : Nat → Nat → Int} {n : Nat} {c : Int} {w : wS} (h : ¬ (0 ≤ c ∧ c < 8)) : fLongest M n c w = (-1, w) := by unfold fLongest; rw [if_neg h]
theorem fLg_n {M : Nat → Nat → Int} {n : Nat} {c : Int} {w : wS} (h : 0 ≤ c ∧ c < 8) (h2 : ∀ L, ¬ EndL M n L) : fLongest M n c w = (-2, w) := by
  unfold fLongest
  rw [if_pos h, if_neg (fun ⟨L, q⟩ => h2 L q)]
theorem fLg_s {M : Nat → Nat → Int} {n : Nat} {c : Int} {w : wS} {L : List (Nat → Int)} {a : Nat} (hM : mB M) (h : 0 ≤ c ∧ c < 8) (hE : EndL M n L) (hs : stp M n (lgr M n a) = lgr M n a) : fLongest M n c w = fStore c w (some (lgr M n a)) := by
  unfold fLongest
  rw [if_pos h, if_pos ⟨L, hE⟩]
  rw [lgr_same hs (lgr_fix hM hE (k := 36) (fun x hx => hx) hE.1.len)]
end
section
theorem kM_in {S : wSt} {i j : Nat} (hi : i < kn S) (hj : j < kn S) : kM S i j = mxz (S 5 16) i j := by
  unfold kM mG clM
  rw [if_pos ⟨hi, hj⟩]
theorem key_all {mt F K U : Int → Int} {n h : Int} (hn : 0 ≤ n ∧ n ≤ 6) (H : RTI mt n h F K U) (hz : ∀ i, 0 ≤ i → i < n → mt (6 * i + i) = 0) (h12 : 12 ≤ h) (h40 : h ≤ 40) {L : List (Nat → Int)} (hL : EndL (mxz mt) n.toNat L) : ∀ x, x ∈ L → x ∈ (List.range (F 12).toNat).map (fun (j : Nat) => dgv (K (j : Int))) := fun x hx => by
  have hz2 : ∀ i, i < n.toNat → mxz mt i i = 0 := fun i hi => hz (i : Int) (by omega) (by omega)
  have hr := RTp.ofL hz2 hL _ x (Nat.le_refl _) hx
  obtain ⟨-, a, b⟩ := RTI_all hn H hz h40 hr
  have h11 := (hL.2 x hx).1
  obtain ⟨y, ⟨y0, y1⟩, e⟩ := b (by omega)
  have m1 := H.mono (q := 1) (r := sm n.toNat x) (by omega) (by omega) (by omega)
  have m2 := H.mono (q := sm n.toNat x + 1) (r := 12) (by omega) (by omega) (by omega)
  rw [H.1] at m1
  exact List.mem_map.mpr ⟨y.toNat, List.mem_range.mpr (by omega), by rw [Int.toNat_of_nonneg (by omega)]; exact e⟩
theorem CI.diag {S : wSt} (h : CI S) : ∀ i, 0 ≤ i → i < S 3 16 2 → S 5 16 (6 * i + i) = 0 := fun i i0 i1 => by
  have hn := h.n
  have := h.set.mok.z i.toNat (by omega)
  unfold mxz at this
  rw [Int.toNat_of_nonneg i0] at this
  exact this
theorem CI.mB {S : wSt} (h : CI S) : mB (kM S) := mB_mG h.set (by have := h.n; unfold kn; omega)
theorem lg_fix {W : wSt} (hC : CI W) (h12 : 12 ≤ W 12 0 4) {L : List (Nat → Int)} (hE : EndL (mxz (W 5 16)) (W 3 16 2).toNat L) {r : Int} (hr : r = W 15 0 12) : EndL (kM W) (kn W) L ∧ stp (kM W) (kn W) (lgr (kM W) (kn W) r.toNat) = lgr (kM W) (kn W) r.toNat := by
  have hE2 : EndL (kM W) (kn W) L := hE.cg (fun i j hi hj => kM_in hi hj)
  refine ⟨hE2, lgr_fix hC.mB hE2 (key_all hC.n hC.rl.2.2 hC.diag h12 hC.rl.1.2 hE) ?_⟩
  rw [List.length_map, List.length_range, hr]
  exact Nat.le_refl _
theorem lg_s {M : Nat → Nat → Int} {n : Nat} {k r : Int} {R : List Nat} (h : R = lgr M n k.toNat) (k0 : 0 ≤ k) (hu : r = lup M n R n) : (r = -1 → R = lgr M n (k + 1).toNat) ∧ (r ≠ -1 → R ++ [r.toNat] = lgr M n (k + 1).toNat) := by
  rw [show (k + 1).toNat = k.toNat + 1 by omega]
  show (r = -1 → R = stp M n (lgr M n k.toNat)) ∧ (r ≠ -1 → R ++ [r.toNat] = stp M n (lgr M n k.toNat))
  rw [← h]
  unfold stp
  rw [← hu]
  exact ⟨fun q => by rw [if_pos q], fun q => by rw [if_neg q]⟩
/-- the words and the roots -/
def tLg (k : Nat) (_i _j : Int) : Prop := k = 1 ∨ k = 2 ∨ (11 ≤ k ∧ k ≤ 15) ∨ k = 19 ∨ k = 22 ∨ k = 24
theorem tC_tLg {S S' : wSt} (h : Fr tC S S') : Fr tLg S S' := h.mono (fun k i j q => by unfold tC at q; unfold tLg; omega)
theorem fWd_tLg {a : Int} {S S' : wSt} (h : Fr (fWd a) S S') : Fr tLg S S' := h.mono (fun k i j q => by unfold fWd at q; unfold tLg; omega)
theorem fRt_tLg {S S' : wSt} (h : Fr fRt S S') : Fr tLg S S' := h.mono (fun k i j q => by unfold fRt at q; unfold tLg; omega)
theorem FLF.lg {S W : wSt} (h : FLF S) (f : Fr tLg S W) : FLF W := h.fr (f 3 16 2 (by unfold tLg; omega)) (fun j => f 5 16 j (by unfold tLg; omega)) (fun j => f 16 0 j (by unfold tLg; omega)) (fun j => f 17 0 j (by unfold tLg; omega)) (fun j => f 18 0 j (by unfold tLg; omega))
theorem RLX.tc {S W : wSt} (h : RLX S) (f : Fr tC S W) : RLX W := h.of (fun k i j q => f k i j (by unfold tC; omega))
theorem RLX.wd {S W : wSt} {a : Int} (h : RLX S) (f : Fr (fWd a) S W) : RLX W := h.of (fun k i j q => f k i j (by unfold fWd; omega))
theorem RLX.xw {S W : wSt} (h : RLX S) (f : Fr tXw S W) : RLX W := h.of (fun k i j q => f k i j (by unfold tXw; omega))
theorem RLX.fm {S W : wSt} (h : RLX S) (f : Fr tFm S W) : RLX W := h.of (fun k i j q => f k i j (by unfold tFm; omega))
end
section
theorem kP_add8 {S W : wSt} {p r : Int} (y1 : W 1 p 1 = S 1 p 1 + 1) (y2 : W 2 p (S 1 p 1) = r) (y3 : ∀ j, j ≠ S 1 p 1 → W 2 p j = S 2 p j) (h0 : 0 ≤ S 1 p 1) : kP W p = kP S p ++ [r.toNat] := by
  unfold kP
  rw [y1]
  exact wl_add h0 (fun j _ _ => y3 j (by omega)) y2
end
section
set_option maxHeartbeats 4000000 in
set_option maxRecDepth 100000 in
theorem f_X7_roots {g : wG} (hD : wD g) {S : wSt} {a : Int} (ha : -2147483648 ≤ a ∧ a ≤ 2147483647) (hRS : CI S) (hRX : RLX S) (l : Launch) : Kt l yX7_roots wsX7_roots ({ frames := 5, cells := 0, slots := 0, locals := 122 } : Room) g S [vr g 0 0, vi a] (pI (fun _ S' => CI S' ∧ Fr fRt S S' ∧ RLX S')) := by
  refine Kt.of (cc := cX7_roots) (nL := 2) (ret := (some .int)) (own := RX7) rfl hD (by decide) rfl (Nat.le_of_ble_eq_true rfl) ⟨rfl, rfl⟩ ?_
  intro E hC hR9
  have f47 : Cond.fieldLink RX7 47 "MirrorBench" "rootList" "LMirrorBench$RootList;" ∈ wsX7_roots := by decide +kernel
  have w7 : ∀ w ∈ wsX70, w ∈ wsX7_roots := by decide +kernel
  show Wk E g 2 S 0 [(0, vr g 0 0), (1, vi a)] []
  have hfS : Fr fRt S S := Fr.rfl _ S
  refine kw_iload_n hC dX7_roots_0 rfl 1 rfl ?_
  refine kw_iconst hC dX7_roots_1 rfl ?_
  refine kw_icmp_lt (tgt := 11) hC dX7_roots_2 rfl (by decide) (by omega) (by omega) ⟨fun c2 => ?_, fun c2 => ?_⟩
  · refine kw_iconst hC dX7_roots_11 rfl ?_
    exact hR9.1 rfl _ _ _ _ dX7_roots_12 (by first | exact ⟨_, rfl, hRS, Fr.rfl _ S, hRX⟩ | exact ⟨_, rfl, hRS.rt hfS hF9, hfS, RLX.fr hfS hX9⟩)
  · refine kw_iload_n hC dX7_roots_5 rfl 1 rfl ?_
    refine kw_bipush hC dX7_roots_6 rfl (by decide) ?_
    refine kw_icmp_le (tgt := 13) hC dX7_roots_8 rfl (by decide) (by omega) (by omega) ⟨fun c8 => ?_, fun c8 => ?_⟩
    · refine kw_aload_n hC dX7_roots_13 rfl 0 rfl ?_
      refine kg_0_5 hC w7 f47 dX7_roots_14 rfl (by decide) (by decide) ?_
      refine kw_iload_n hC dX7_roots_17 rfl 1 rfl ?_
      refine kw_callV hC (f_X4_reaches hD hRS (by omega) (by omega) hRX) gX7_roots_X4_reaches ⟨_, rfl⟩ rfl (by decide) (by decide) rfl ⟨rfl, rfl⟩ 1 (by decide +kernel) ⟨by decide, by decide⟩ rfl rfl (Nat.le_of_ble_eq_true rfl) dX7_roots_18 rfl (kd_i (fun r3 S3 hp3 => ?_))
      obtain ⟨hg3, hp3⟩ := hp3
      have hfS3 : Fr fRt S S3 := hfS.trans hg3
      obtain ⟨hF9, hX9, hb3, hr13, hr03⟩ := hp3
      refine kw_if_eq (tgt := 35) hC dX7_roots_21 rfl (by decide) (by omega) ⟨fun c21 => ?_, fun c21 => ?_⟩
      · refine kw_bipush hC dX7_roots_35 rfl (by decide) ?_
        exact hR9.1 rfl _ _ _ _ dX7_roots_37 (by first | exact ⟨_, rfl, hRS, Fr.rfl _ S, hRX⟩ | exact ⟨_, rfl, hRS.rt hfS3 hF9, hfS3, RLX.fr hfS3 hX9⟩)
      · refine kw_aload_n hC dX7_roots_24 rfl 0 rfl ?_
        refine kg_0_5 hC w7 f47 dX7_roots_25 rfl (by decide) (by decide) ?_
        refine kw_iload_n hC dX7_roots_28 rfl 1 rfl ?_
        refine kw_callV hC (d_X4_ofHeight hD (by omega) (by omega)) gX7_roots_X4_ofHeight ⟨_, rfl⟩ rfl (by decide) (by decide) rfl ⟨rfl, rfl⟩ 1 (by decide +kernel) ⟨by decide, by decide⟩ rfl rfl (Nat.le_of_ble_eq_true rfl) dX7_roots_29 rfl (kd_ie ?_)
        refine kw_goto (tgt := 37) hC dX7_roots_32 rfl (by decide) ?_
        exact hR9.1 rfl _ _ _ _ dX7_roots_37 (by first | exact ⟨_, rfl, hRS, Fr.rfl _ S, hRX⟩ | exact ⟨_, rfl, hRS.rt hfS3 hF9, hfS3, RLX.fr hfS3 hX9⟩)
    · refine kw_iconst hC dX7_roots_11 rfl ?_
      exact hR9.1 rfl _ _ _ _ dX7_roots_12 (by first | exact ⟨_, rfl, hRS, Fr.rfl _ S, hRX⟩ | exact ⟨_, rfl, hRS.rt hfS hF9, hfS, RLX.fr hfS hX9⟩)

set_option maxHeartbeats 4000000 in
set_option maxRecDepth 100000 in
theorem f_X7_root {g : wG} (hD : wD g) {S : wSt} {a b : Int} (ha : -2147483648 ≤ a ∧ a ≤ 2147483647) (hb : -2147483648 ≤ b ∧ b ≤ 2147483647) (hRS : CI S) (hRX : RLX S) (l : Launch) : Kt l yX7_root wsX7_root ({ frames := 6, cells := 0, slots := 0, locals := 144 } : Room) g S [vr g 0 0, vi a, vi b] (pI (fun _ S' => CI S' ∧ Fr fRt S S' ∧ RLX S')) := by
  refine Kt.of (cc := cX7_root) (nL := 3) (ret := (some .int)) (own := RX7) rfl hD (by decide) rfl (Nat.le_of_ble_eq_true rfl) ⟨rfl, rfl⟩ ?_
  intro E hC hR9
  have f12 : Cond.fieldLink RX7 12 "MirrorBench" "set" "LMirrorBench$Mirrors;" ∈ wsX7_root := by decide +kernel
  have f47 : Cond.fieldLink RX7 47 "MirrorBench" "rootList" "LMirrorBench$RootList;" ∈ wsX7_root := by decide +kernel
  have w7 : ∀ w ∈ wsX70, w ∈ wsX7_root := by decide +kernel
  show Wk E g 3 S 0 [(0, vr g 0 0), (1, vi a), (2, vi b)] []
  have hfS : Fr fRt S S := Fr.rfl _ S
  have hn := hRS.n
  refine kw_iload_n hC dX7_root_0 rfl 1 rfl ?_
  refine kw_if_lt (tgt := 26) hC dX7_root_1 rfl (by decide) (by omega) ⟨fun c1 => ?_, fun c1 => ?_⟩
  · refine kw_iconst hC dX7_root_26 rfl ?_
    exact hR9.1 rfl _ _ _ _ dX7_root_27 (by first | exact ⟨_, rfl, hRS, Fr.rfl _ S, hRX⟩ | exact ⟨_, rfl, hRS.rt hfS hF9, hfS, RLX.fr hfS hX9⟩)
  · refine kw_aload_n hC dX7_root_4 rfl 0 rfl ?_
    refine kg_0_0 hC w7 f12 dX7_root_5 rfl (by decide) (by decide) ?_
    refine kw_iload_n hC dX7_root_8 rfl 2 rfl ?_
    refine kw_callV hC (d_X3_has hD (by omega) (by omega) (by omega) (by omega) (by omega)) gX7_root_X3_has ⟨_, rfl⟩ rfl (by omega) (show (16 : Int) < 17 by omega) rfl ⟨rfl, rfl⟩ 1 (by decide +kernel) ⟨by decide, by decide⟩ rfl rfl (Nat.le_of_ble_eq_true rfl) dX7_root_9 rfl (kd_ie ?_)
    refine kw_ifeq_b (tgt := 26) hC dX7_root_12 rfl (by decide) ⟨fun c12 => ?_, fun c12 => ?_⟩
    · refine kw_iconst hC dX7_root_26 rfl ?_
      exact hR9.1 rfl _ _ _ _ dX7_root_27 (by first | exact ⟨_, rfl, hRS, Fr.rfl _ S, hRX⟩ | exact ⟨_, rfl, hRS.rt hfS hF9, hfS, RLX.fr hfS hX9⟩)
    · refine kw_aload_n hC dX7_root_15 rfl 0 rfl ?_
      refine kg_0_5 hC w7 f47 dX7_root_16 rfl (by decide) (by decide) ?_
      refine kw_iload_n hC dX7_root_19 rfl 1 rfl ?_
      refine kw_callV hC (f_X4_holds hD hRS (by omega) (by omega) hRX) gX7_root_X4_holds ⟨_, rfl⟩ rfl (by decide) (by decide) rfl ⟨rfl, rfl⟩ 1 (by decide +kernel) ⟨by decide, by decide⟩ rfl rfl (Nat.le_of_ble_eq_true rfl) dX7_root_20 rfl (kd_i (fun r3 S3 hp3 => ?_))
      obtain ⟨hg3, hp3⟩ := hp3
      have hfS3 : Fr fRt S S3 := hfS.trans hg3
      obtain ⟨hF9, hX9, hb3, hr3, hr03⟩ := hp3
      have hrX := hr3
      refine kw_if_ne (tgt := 28) hC dX7_root_23 rfl (by decide) (by omega) ⟨fun c23 => ?_, fun c23 => ?_⟩
      · refine kw_aload_n hC dX7_root_28 rfl 0 rfl ?_
        refine kg_0_5 hC w7 f47 dX7_root_29 rfl (by decide) (by decide) ?_
        refine kw_iload_n hC dX7_root_32 rfl 1 rfl ?_
        refine kw_iload_n hC dX7_root_33 rfl 2 rfl ?_
        refine kw_callV hC (d_X4_numberOf hD (hRS.rt hfS3 hF9) (by omega) (hrX (by omega)) (by omega) (by omega)) gX7_root_X4_numberOf ⟨_, rfl⟩ rfl (by decide) (by decide) rfl ⟨rfl, rfl⟩ 2 (by decide +kernel) ⟨by decide, by decide⟩ rfl rfl (Nat.le_of_ble_eq_true rfl) dX7_root_34 rfl (kd_ie ?_)
        exact hR9.1 rfl _ _ _ _ dX7_root_37 (by first | exact ⟨_, rfl, hRS, Fr.rfl _ S, hRX⟩ | exact ⟨_, rfl, hRS.rt hfS3 hF9, hfS3, RLX.fr hfS3 hX9⟩)
      · refine kw_iconst hC dX7_root_26 rfl ?_
        exact hR9.1 rfl _ _ _ _ dX7_root_27 (by first | exact ⟨_, rfl, hRS, Fr.rfl _ S, hRX⟩ | exact ⟨_, rfl, hRS.rt hfS3 hF9, hfS3, RLX.fr hfS3 hX9⟩)

set_option maxHeartbeats 4000000 in
set_option maxRecDepth 100000 in
theorem f_X7_ends {g : wG} (hD : wD g) {S : wSt} (hRS : CI S) (hRX : RLX S) (l : Launch) : Kt l yX7_ends wsX7_ends ({ frames := 6, cells := 0, slots := 0, locals := 145 } : Room) g S [vr g 0 0] (pI (fun _ S' => CI S' ∧ Fr fRt S S' ∧ RLX S')) := by
  refine Kt.of (cc := cX7_ends) (nL := 1) (ret := (some .int)) (own := RX7) rfl hD (by decide) rfl (Nat.le_of_ble_eq_true rfl) ⟨rfl, rfl⟩ ?_
  intro E hC hR9
  have f47 : Cond.fieldLink RX7 47 "MirrorBench" "rootList" "LMirrorBench$RootList;" ∈ wsX7_ends := by decide +kernel
  have w7 : ∀ w ∈ wsX70, w ∈ wsX7_ends := by decide +kernel
  show Wk E g 1 S 0 [(0, vr g 0 0)] []
  have hfS : Fr fRt S S := Fr.rfl _ S
  refine kw_aload_n hC dX7_ends_0 rfl 0 rfl ?_
  refine kg_0_5 hC w7 f47 dX7_ends_1 rfl (by decide) (by decide) ?_
  refine kw_callV hC (f_X4_countAll hD hRS hRX) gX7_ends_X4_countAll ⟨_, rfl⟩ rfl (by decide) (by decide) rfl ⟨rfl, rfl⟩ 0 (by decide +kernel) ⟨by decide, by decide⟩ rfl rfl (Nat.le_of_ble_eq_true rfl) dX7_ends_4 rfl (kd_i (fun r1 S1 hp1 => ?_))
  obtain ⟨hg1, hp1⟩ := hp1
  have hfS1 : Fr fRt S S1 := hfS.trans hg1
  obtain ⟨hF9, hX9, -⟩ := hp1
  exact hR9.1 rfl _ _ _ _ dX7_ends_7 (by first | exact ⟨_, rfl, hRS, Fr.rfl _ S, hRX⟩ | exact ⟨_, rfl, hRS.rt hfS1 hF9, hfS1, RLX.fr hfS1 hX9⟩)

set_option maxHeartbeats 4000000 in
set_option maxRecDepth 100000 in
theorem f_X7_count {g : wG} (hD : wD g) {S : wSt} (hRS : CI S) (hRX : RLX S) (l : Launch) : Kt l yX7_count wsX7_count ({ frames := 6, cells := 0, slots := 0, locals := 145 } : Room) g S [vr g 0 0] (pL (fun _ S' => CI S' ∧ Fr fRt S S' ∧ RLX S')) := by
  refine Kt.of (cc := cX7_count) (nL := 1) (ret := (some .long)) (own := RX7) rfl hD (by decide) rfl (Nat.le_of_ble_eq_true rfl) ⟨rfl, rfl⟩ ?_
  intro E hC hR9
  have f47 : Cond.fieldLink RX7 47 "MirrorBench" "rootList" "LMirrorBench$RootList;" ∈ wsX7_count := by decide +kernel
  have l228 : Cond.constantLong RX7 228 (Int64.ofInt (-2)) ∈ wsX7_count := by decide +kernel
  have w7 : ∀ w ∈ wsX70, w ∈ wsX7_count := by decide +kernel
  show Wk E g 1 S 0 [(0, vr g 0 0)] []
  have hfS : Fr fRt S S := Fr.rfl _ S
  refine kw_aload_n hC dX7_count_0 rfl 0 rfl ?_
  refine kg_0_5 hC w7 f47 dX7_count_1 rfl (by decide) (by decide) ?_
  refine kw_callV hC (f_X4_countAll hD hRS hRX) gX7_count_X4_countAll ⟨_, rfl⟩ rfl (by decide) (by decide) rfl ⟨rfl, rfl⟩ 0 (by decide +kernel) ⟨by decide, by decide⟩ rfl rfl (Nat.le_of_ble_eq_true rfl) dX7_count_4 rfl (kd_i (fun r1 S1 hp1 => ?_))
  obtain ⟨hg1, hp1⟩ := hp1
  have hfS1 : Fr fRt S S1 := hfS.trans hg1
  obtain ⟨hF9, hX9, hor⟩ := hp1
  refine kw_bipush hC dX7_count_7 rfl (by decide) ?_
  refine kw_icmp_ne (tgt := 18) hC dX7_count_9 rfl (by decide) (by rcases hor with q | q <;> omega) (by omega) ⟨fun c9 => ?_, fun c9 => ?_⟩
  · refine kw_aload_n hC dX7_count_18 rfl 0 rfl ?_
    refine kg_0_5 hC w7 f47 dX7_count_19 rfl (by decide) (by decide) ?_
    refine kw_callV hC (d_X4_countWords hD (hRS.rt hfS1 hF9) (by rcases hor with q | q; omega; exact q.2.1)) gX7_count_X4_countWords ⟨_, rfl⟩ rfl (by decide) (by decide) rfl ⟨rfl, rfl⟩ 0 (by decide +kernel) ⟨by decide, by decide⟩ rfl rfl (Nat.le_of_ble_eq_true rfl) dX7_count_22 rfl (kd_l (fun r9 S9 hp9 => ?_))
    rw [hp9]
    exact hR9.2.2.1 rfl _ _ _ _ dX7_count_25 (by first | exact ⟨_, rfl, hRS, Fr.rfl _ S, hRX⟩ | exact ⟨_, rfl, hRS.rt hfS1 hF9, hfS1, RLX.fr hfS1 hX9⟩)
  · refine kw_ldc2 (z := -2) hC dX7_count_12 rfl l228 ?_
    refine kw_goto (tgt := 25) hC dX7_count_15 rfl (by decide) ?_
    exact hR9.2.2.1 rfl _ _ _ _ dX7_count_25 (by first | exact ⟨_, rfl, hRS, Fr.rfl _ S, hRX⟩ | exact ⟨_, rfl, hRS.rt hfS1 hF9, hfS1, RLX.fr hfS1 hX9⟩)

set_option maxHeartbeats 4000000 in
set_option maxRecDepth 100000 in
theorem f_X7_longest {g : wG} (hD : wD g) {S : wSt} {a : Int} (ha : -2147483648 ≤ a ∧ a ≤ 2147483647) (hRS : CI S) (hRX : RLX S) (l : Launch) : Kt l yX7_longest wsX7_longest ({ frames := 6, cells := 0, slots := 0, locals := 145 } : Room) g S [vr g 0 0, vi a] (pI (fun r S' => CI S' ∧ Fr tLg S S' ∧ RLX S' ∧ fLongest (kM S) (kn S) a (cSl S) = (r, cSl S'))) := by
  refine Kt.of (cc := cX7_longest) (nL := 5) (ret := (some .int)) (own := RX7) rfl hD (by decide) rfl (Nat.le_of_ble_eq_true rfl) ⟨rfl, rfl⟩ ?_
  intro E hC hR9
  have f40 : Cond.fieldLink RX7 40 "MirrorBench" "shortener" "LMirrorBench$Shortener;" ∈ wsX7_longest := by decide +kernel
  have f47 : Cond.fieldLink RX7 47 "MirrorBench" "rootList" "LMirrorBench$RootList;" ∈ wsX7_longest := by decide +kernel
  have f59 : Cond.fieldLink RX7 59 "MirrorBench" "made" "LMirrorBench$Word;" ∈ wsX7_longest := by decide +kernel
  have f131 : Cond.fieldLink RX7 131 "MirrorBench$Word" "length" "I" ∈ wsX7_longest := by decide +kernel
  have w6 : ∀ w ∈ wsX60, w ∈ wsX7_longest := by decide +kernel
  have w7 : ∀ w ∈ wsX70, w ∈ wsX7_longest := by decide +kernel
  show Wk E g 5 S 0 [(0, vr g 0 0), (1, vi a)] []
  have hfS : Fr tC S S := Fr.rfl _ S
  have hRS := hRS.fr hfS
  have hnS := hRS.n
  have enS : S 3 16 2 = S 3 16 2 := hfS 3 16 2 (by unfold tC; omega)
  refine kw_iload_n hC dX7_longest_0 rfl 1 rfl ?_
  refine kw_callS hC (d_X7_isSlot hD (by omega)) gX7_longest_X7_isSlot rfl ⟨rfl, rfl⟩ 1 (by decide +kernel) ⟨by decide, by decide⟩ rfl rfl (Nat.le_of_ble_eq_true rfl) dX7_longest_1 rfl (kd_ie ?_)
  refine kw_ifne_b (tgt := 9) hC dX7_longest_4 rfl (by decide) ⟨fun c4 => ?_, fun c4 => ?_⟩
  · refine kw_aload_n hC dX7_longest_9 rfl 0 rfl ?_
    refine kg_0_5 hC w7 f47 dX7_longest_10 rfl (by decide) (by decide) ?_
    refine kw_callV hC (f_X4_countAll hD hRS (hRX.tc hfS)) gX7_longest_X4_countAll ⟨_, rfl⟩ rfl (by decide) (by decide) rfl ⟨rfl, rfl⟩ 0 (by decide +kernel) ⟨by decide, by decide⟩ rfl rfl (Nat.le_of_ble_eq_true rfl) dX7_longest_13 rfl (kd_i (fun r2 S2 hp2 => ?_))
    obtain ⟨hgF, hF9, hX9, hor⟩ := hp2
    have hRS2 : CI S2 := hRS.rt hgF hF9
    have hbW : Fr tLg S S2 := (tC_tLg hfS).trans (fRt_tLg hgF)
    have hbS : cSl S2 = cSl S := (cSl_fRt hgF).trans (cSl_tC hfS)
    have hbX : RLX S2 := RLX.fr hgF hX9
    have hfS2 : Fr tC S2 S2 := Fr.rfl _ _
    have hnS2 := hRS2.n
    have eb0 : S2 3 16 2 = S 3 16 2 := hbW 3 16 2 (by unfold tLg; omega)
    have eb5 : ∀ j, S2 5 16 j = S 5 16 j := fun j => hbW 5 16 j (by unfold tLg; omega)
    have ekn : kn S2 = kn S := kn_eq eb0
    have ekM : kM S2 = kM S := kM_eq eb0 eb5
    refine kw_istore_n (lv' := [(2, _), (0, _), (1, _)]) hC dX7_longest_16 rfl (by decide) rfl ?_
    refine kw_iload_n hC dX7_longest_17 rfl 0 rfl ?_
    refine kw_bipush hC dX7_longest_18 rfl (by decide) ?_
    refine kw_icmp_ne (tgt := 26) hC dX7_longest_20 rfl (by decide) (by rcases hor with q | q <;> omega) (by omega) ⟨fun c20 => ?_, fun c20 => ?_⟩
    · obtain ⟨hl9, h129, hNB, hcnt⟩ := hor.resolve_left (fun z => by omega)
      obtain ⟨L, hL⟩ := roots_of2 hRS.set.mok (by omega) hNB
      obtain ⟨hEk, hfix⟩ := lg_fix hRS2 h129 (L := L) (by rw [show S2 5 16 = S 5 16 from funext eb5, eb0]; exact hL) hcnt
      rw [ekn, ekM] at hEk hfix
      have hkm := hRS.mB
      refine kw_aload_n hC dX7_longest_26 rfl 1 rfl ?_
      refine kg_0_7 hC w7 f59 dX7_longest_27 rfl (by decide) (by decide) ?_
      refine kw_iconst hC dX7_longest_30 rfl ?_
      refine kp_1_1 hC w6 f131 dX7_longest_31 rfl (by omega) (by omega) ?_
      refine kw_hv hfS2 (by unfold tC; omega) (fun S4 hfS4 hv4 ho4 => ?_)
      have hRS4 := hRS2.fr hfS4
      have hnS4 := hRS4.n
      have enS4 : S4 3 16 2 = S2 3 16 2 := hfS4 3 16 2 (by unfold tC; omega)
      have l8 := hv4
      refine kw_iconst hC dX7_longest_34 rfl ?_
      refine kw_istore_n (lv' := [(3, _), (2, _), (0, _), (1, _)]) hC dX7_longest_35 rfl (by decide) rfl ?_
      have hL36 : ∀ (n36 : Nat) (k : Int) (W36 : wSt), Fr tC S2 W36 → (0 ≤ k) → (k ≤ r2) → (0 ≤ W36 1 8 1) → (W36 1 8 1 ≤ 36) → (WV (W36 2 8) (W36 1 8 1) (W36 3 16 2)) → (kP W36 8 = lgr (kM S) (kn S) k.toNat) → 400 - k < (n36 : Int) → Wk E g 5 W36 36 [(0, vr g 0 0), (1, vi a), (2, vi r2), (3, vi k)] [] := by
        intro n36
        induction n36 with
        | zero => intro k W36 hfW36 k0 k1 l0 l1 hv8 hk8 hm36; exact absurd hm36 (by omega)
        | succ n36 ih36 =>
          intro k W36 hfW36 k0 k1 l0 l1 hv8 hk8 hm36
          have hRW36 := hRS2.fr hfW36
          have hnW36 := hRW36.n
          have enW36 : W36 3 16 2 = S2 3 16 2 := hfW36 3 16 2 (by unfold tC; omega)
          refine kw_iload_n hC dX7_longest_36 rfl 3 rfl ?_
          refine kw_iload_n hC dX7_longest_37 rfl 2 rfl ?_
          refine kw_icmp_ge (tgt := 75) hC dX7_longest_38 rfl (by decide) (by omega) (by omega) ⟨fun c38 => ?_, fun c38 => ?_⟩
          · refine kw_aload_n hC dX7_longest_75 rfl 0 rfl ?_
            refine kw_aload_n hC dX7_longest_76 rfl 0 rfl ?_
            refine kg_0_7 hC w7 f59 dX7_longest_77 rfl (by decide) (by decide) ?_
            refine kw_iload_n hC dX7_longest_80 rfl 1 rfl ?_
            refine kw_callV hC (d_X7_store hD (by omega) (by omega) (by omega) (by omega) hRW36 hv8 (by omega) (by omega)) gX7_longest_X7_store ⟨_, rfl⟩ rfl (by decide) (by decide) rfl ⟨rfl, rfl⟩ 2 (by decide +kernel) ⟨by decide, by decide⟩ rfl rfl (Nat.le_of_ble_eq_true rfl) dX7_longest_81 rfl (kd_i (fun r9 Sz hp9 => ?_))
            exact hR9.1 rfl _ _ _ _ dX7_longest_84 (by first | (exfalso; omega) | exact ⟨_, rfl, hRW36, tC_tLg hfW36, hRX.tc hfW36, by rw [fLg_b (by omega), cSl_tC hfW36]⟩ | exact ⟨_, rfl, hRW36, hbW.trans (tC_tLg hfW36), hbX.tc hfW36, by rw [fLg_n (by omega) (fun L hL => (hor.resolve_right (fun z => by omega)).2 L (hL.cg (fun i j hi hj => (kM_in hi hj).symm))), cSl_tC hfW36, hbS]⟩ | exact ⟨_, rfl, hp9.2.1, hbW.trans ((tC_tLg hfW36).trans (fWd_tLg hp9.2.2.1)), (hbX.tc hfW36).wd hp9.2.2.1, by have hkr : k = r2 := (by omega); rw [hkr] at hk8; rw [fLg_s hRS.mB (by omega) hEk hfix]; exact st_k (by omega) (by omega) (by omega) hp9 ((cSl_tC hfW36).trans hbS) hk8⟩)
          · refine kw_aload_n hC dX7_longest_41 rfl 0 rfl ?_
            refine kg_0_4 hC w7 f40 dX7_longest_42 rfl (by decide) (by decide) ?_
            refine kw_aload_n hC dX7_longest_45 rfl 0 rfl ?_
            refine kg_0_7 hC w7 f59 dX7_longest_46 rfl (by decide) (by decide) ?_
            refine kw_callV hC (f_X5_leastUp hD (by omega) (by omega) hRW36 hv8 (by omega) (by omega)) gX7_longest_X5_leastUp ⟨_, rfl⟩ rfl (by decide) (by decide) rfl ⟨rfl, rfl⟩ 1 (by decide +kernel) ⟨by decide, by decide⟩ rfl rfl (Nat.le_of_ble_eq_true rfl) dX7_longest_49 rfl (kd_i (fun r6 S6 hp6 => ?_))
            obtain ⟨hg6, hp6⟩ := hp6
            have hfS6 : Fr tC S2 S6 := hfW36.trans (hg6.mono (fun k i j h => by unfold fA at h; unfold tC; omega))
            have hRS6 := hRS2.fr hfS6
            have hnS6 := hRS6.n
            have enS6 : S6 3 16 2 = S2 3 16 2 := hfS6 3 16 2 (by unfold tC; omega)
            obtain ⟨hk9, hU9⟩ := hp6
            have e86 : S6 1 8 1 = W36 1 8 1 := hg6 1 8 1 (by unfold fA; omega)
            have e28 : ∀ j, S6 2 8 j = W36 2 8 j := fun j => hg6 2 8 j (by unfold fA; omega)
            have eP8 : kP S6 8 = kP W36 8 := kP_eq e86 e28
            replace hv8 : WV (S6 2 8) (S6 1 8 1) (S6 3 16 2) := hv8.fr hg6 (by unfold fA; omega) (fun j => by unfold fA; omega) (by omega)
            rw [kM_eq (S := S) ((hfW36 3 16 2 (by unfold tC; omega)).trans eb0) (fun j => (hfW36 5 16 j (by unfold tC; omega)).trans (eb5 j)), kn_eq (S := S) ((hfW36 3 16 2 (by unfold tC; omega)).trans eb0)] at hU9
            obtain ⟨hkA, hkB⟩ := lg_s hk8 k0 hU9
            refine kw_istore (lv' := [(4, _), (0, _), (1, _), (2, _), (3, _)]) hC dX7_longest_52 rfl (by decide) rfl ?_
            refine kw_iload hC dX7_longest_54 rfl 0 rfl ?_
            refine kw_iconst hC dX7_longest_56 rfl ?_
            refine kw_icmp_eq (tgt := 69) hC dX7_longest_57 rfl (by decide) (by omega) (by omega) ⟨fun c57 => ?_, fun c57 => ?_⟩
            · have hk89 : kP S6 8 = lgr (kM S) (kn S) (k + 1).toNat := by first | exact eP8.trans (hkA (by omega)) | exact (kP_add8 y1 y2 y3 (by omega)).trans ((congrArg (· ++ [r6.toNat]) eP8).trans (hkB (by omega)))
              have hl9 := lgr_len hkm hEk (k + 1).toNat
              rw [← hk89] at hl9
              have hl8 := kP_len (S := S6) (p := 8) (by omega)
              refine kw_iinc (lv' := [(3, _), (4, _), (0, _), (1, _), (2, _)]) hC dX7_longest_69 rfl 4 rfl (by decide) rfl ?_
              refine kw_goto (tgt := 36) hC dX7_longest_72 rfl (by decide) ?_
              refine kw_lv [2, 3, 4, 0] rfl ?_
              exact ih36 (k + 1) S6 hfS6 (by omega) (by omega) (by omega) (by omega) hv8 hk89 (by omega)
            · refine kw_aload_n hC dX7_longest_60 rfl 1 rfl ?_
              refine kg_0_7 hC w7 f59 dX7_longest_61 rfl (by decide) (by decide) ?_
              refine kw_iload hC dX7_longest_64 rfl 0 rfl ?_
              refine kw_callV hC (d_X6_add hD (by omega) (by omega) (by omega) (by omega)) gX7_longest_X6_add ⟨_, rfl⟩ rfl (by omega) (show (_ : Int) < 12 by omega) rfl ⟨rfl, rfl⟩ 1 (by decide +kernel) ⟨by decide, by decide⟩ rfl rfl (Nat.le_of_ble_eq_true rfl) dX7_longest_66 rfl (kd_v (fun S8 hp8 => ?_))
              obtain ⟨hg8, hp8⟩ := hp8
              have hfS8 : Fr tC S2 S8 := hfS6.trans (hg8.mono (fun k i j h => by unfold fWd at h; unfold tC; omega))
              have hRS8 := hRS2.fr hfS8
              have hnS8 := hRS8.n
              have enS8 : S8 3 16 2 = S2 3 16 2 := hfS8 3 16 2 (by unfold tC; omega)
              obtain ⟨y1, y2, y3⟩ := hp8
              replace hv8 : WV (S8 2 8) (S8 1 8 1) (S8 3 16 2) := (y1 ▸ hv8.add (fun j hj => y3 j hj) (by rw [y2]; omega)).eq (fun _ _ _ => rfl) rfl (by omega)
              have hk89 : kP S8 8 = lgr (kM S) (kn S) (k + 1).toNat := by first | exact eP8.trans (hkA (by omega)) | exact (kP_add8 y1 y2 y3 (by omega)).trans ((congrArg (· ++ [r6.toNat]) eP8).trans (hkB (by omega)))
              have hl9 := lgr_len hkm hEk (k + 1).toNat
              rw [← hk89] at hl9
              have hl8 := kP_len (S := S8) (p := 8) (by omega)
              refine kw_iinc (lv' := [(3, _), (4, _), (0, _), (1, _), (2, _)]) hC dX7_longest_69 rfl 4 rfl (by decide) rfl ?_
              refine kw_goto (tgt := 36) hC dX7_longest_72 rfl (by decide) ?_
              refine kw_lv [2, 3, 4, 0] rfl ?_
              exact ih36 (k + 1) S8 hfS8 (by omega) (by omega) (by omega) (by omega) hv8 hk89 (by omega)
      refine kw_lv [2, 3, 1, 0] rfl ?_
      exact hL36 401 0 S4 hfS4 (by omega) (by omega) (by omega) (by omega) (fun j _ _ => by omega) (by unfold kP; rw [l8]; rfl) (by omega)
    · refine kw_bipush hC dX7_longest_23 rfl (by decide) ?_
      exact hR9.1 rfl _ _ _ _ dX7_longest_25 (by first | (exfalso; omega) | exact ⟨_, rfl, hRS2, tC_tLg hfS2, hRX.tc hfS2, by rw [fLg_b (by omega), cSl_tC hfS2]⟩ | exact ⟨_, rfl, hRS2, hbW.trans (tC_tLg hfS2), hbX.tc hfS2, by rw [fLg_n (by omega) (fun L hL => (hor.resolve_right (fun z => by omega)).2 L (hL.cg (fun i j hi hj => (kM_in hi hj).symm))), cSl_tC hfS2, hbS]⟩ | exact ⟨_, rfl, hp9.2.1, hbW.trans ((tC_tLg hfS2).trans (fWd_tLg hp9.2.2.1)), (hbX.tc hfS2).wd hp9.2.2.1, by have hkr : k = r2 := (by omega); rw [hkr] at hk8; rw [fLg_s hRS.mB (by omega) hEk hfix]; exact st_k (by omega) (by omega) (by omega) hp9 ((cSl_tC hfS2).trans hbS) hk8⟩)
  · refine kw_iconst hC dX7_longest_7 rfl ?_
    exact hR9.1 rfl _ _ _ _ dX7_longest_8 (by first | (exfalso; omega) | exact ⟨_, rfl, hRS, tC_tLg hfS, hRX.tc hfS, by rw [fLg_b (by omega), cSl_tC hfS]⟩ | exact ⟨_, rfl, hRS, hbW.trans (tC_tLg hfS), hbX.tc hfS, by rw [fLg_n (by omega) (fun L hL => (hor.resolve_right (fun z => by omega)).2 L (hL.cg (fun i j hi hj => (kM_in hi hj).symm))), cSl_tC hfS, hbS]⟩ | exact ⟨_, rfl, hp9.2.1, hbW.trans ((tC_tLg hfS).trans (fWd_tLg hp9.2.2.1)), (hbX.tc hfS).wd hp9.2.2.1, by have hkr : k = r2 := (by omega); rw [hkr] at hk8; rw [fLg_s hRS.mB (by omega) hEk hfix]; exact st_k (by omega) (by omega) (by omega) hp9 ((cSl_tC hfS).trans hbS) hk8⟩)
end
