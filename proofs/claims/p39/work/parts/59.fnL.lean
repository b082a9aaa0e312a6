section
/-! the longest word: each time the least mirror that makes it longer -/
def stp (M : Nat → Nat → Int) (n : Nat) (R : List Nat) : List Nat := if lup M n R n = -1 then R else R ++ [(lup M n R n).toNat]
def lgr (M : Nat → Nat → Int) (n : Nat) : Nat → List Nat
  | 0 => []
  | k + 1 => stp M n (lgr M n k)
theorem lup_r (M : Nat → Nat → Int) (n : Nat) (R : List Nat) : ∀ f, f ≤ n → lup M n R f = -1 ∨ (0 ≤ lup M n R f ∧ lup M n R f < n ∧ bh M n R (lup M n R f).toNat = -1 ∧ ∀ s, n - f ≤ s → s < (lup M n R f).toNat → bh M n R s ≠ -1)
  | 0, _ => Or.inl rfl
  | f + 1, hf => by
    rw [lup]
    split
    · rename_i e
      exact Or.inr ⟨by omega, by omega, by rw [Int.toNat_natCast]; exact e, fun s h1 h2 => by omega⟩
    · rename_i e
      rcases lup_r M n R f (by omega) with h | ⟨h1, h2, h3, h4⟩
      · exact Or.inl h
      · refine Or.inr ⟨h1, h2, h3, fun s q1 q2 => ?_⟩
        by_cases c : s = n - (f + 1)
        · rw [c]; exact e
        · exact h4 s (by omega) q2
theorem NB_iff {M : Nat → Nat → Int} {n : Nat} {s : Nat} : ∀ (r : List Nat), NB M n r s ↔ ∀ y, y < r.length → act M n (r.drop (y + 1)) (ownV s) ≠ ownV (r.getD y 0)
  | [] => ⟨fun _ y hy => by simp at hy, fun _ => trivial⟩
  | i :: r => by
    have ih := NB_iff (M := M) (n := n) (s := s) r
    show (act M n r (ownV s) ≠ ownV i ∧ NB M n r s) ↔ _
    rw [ih]
    constructor
    · rintro ⟨h1, h2⟩ y hy
      cases y with
      | zero => exact h1
      | succ y => exact h2 y (by simp only [List.length_cons] at hy; omega)
    · intro h
      exact ⟨h 0 (by simp), fun y hy => h (y + 1) (by simp only [List.length_cons]; omega)⟩
theorem rfx_neg {M : Nat → Nat → Int} {n : Nat} {v : Nat → Int} {c : Nat} : rfx M n (fun j => - v j) c = fun j => - rfx M n v c j := by
  have e : sm n (fun j => M c j * - v j) = - sm n (fun j => M c j * v j) := by
    have := sm_mul n (-1) (fun j => M c j * v j)
    rw [show -1 * sm n (fun j => M c j * v j) = - sm n (fun j => M c j * v j) by omega] at this
    rw [← this]
    exact sm_congr (fun j _ => by rw [Int.mul_neg]; omega)
  funext j
  unfold rfx prg
  rw [e]
  dsimp only
  split <;> omega
theorem act_neg {M : Nat → Nat → Int} {n : Nat} {v : Nat → Int} : ∀ (w : List Nat), act M n w (fun j => - v j) = fun j => - act M n w v j
  | [] => rfl
  | c :: t => by
    show rfx M n (act M n t (fun j => - v j)) c = _
    rw [act_neg t, rfx_neg]
    rfl
theorem act_app {M : Nat → Nat → Int} {n : Nat} {v : Nat → Int} : ∀ (u w : List Nat), act M n (u ++ w) v = act M n u (act M n w v)
  | [], _ => rfl
  | c :: t, w => by
    show rfx M n (act M n (t ++ w) v) c = _
    rw [act_app t w]
    rfl
theorem rfx_own {M : Nat → Nat → Int} {n c : Nat} (hc : c < n) (hz : M c c = 0) : rfx M n (ownV c) c = fun j => - ownV c j := by
  funext j
  unfold rfx
  rw [prg_own hc hz]
  unfold ownV
  split
  · rename_i e; rw [if_pos rfl]; rfl
  · rfl
def UL (L : List (Nat → Int)) (v : Nat → Int) : Prop := v ∈ L ∨ (fun j => - v j) ∈ L
section EL
variable {M : Nat → Nat → Int} {n : Nat} {L : List (Nat → Int)}
theorem neg_neg_v (v : Nat → Int) : (fun j => - (fun j => - v j) j) = v := by funext j; show - - v j = v j; omega
theorem UL_rfx (hz : ∀ i, i < n → M i i = 0) (hL : RLi M n L) {v : Nat → Int} {c : Nat} (hc : c < n) (h : UL L v) : UL L (rfx M n v c) := by
  have key : ∀ v, v ∈ L → UL L (rfx M n v c) := fun v hv => by
    rcases hL.cl v hv c hc with e | e
    · right
      rw [e, rfx_own hc (hz c hc), neg_neg_v]
      exact hL.own c hc
    · exact Or.inl e
  rcases h with h | h
  · exact key v h
  · have := key _ h
    rw [rfx_neg] at this
    rcases this with q | q
    · exact Or.inr q
    · rw [neg_neg_v] at q
      exact Or.inl q
theorem UL.rg (hL : RLi M n L) {v : Nat → Int} (h : UL L v) (j : Nat) : -6 ≤ v j ∧ v j ≤ 6 := by
  rcases h with h | h
  · have := hL.nn v h j; omega
  · have : 0 ≤ - v j ∧ - v j ≤ 6 := hL.nn _ h j
    omega
theorem UL_act (hz : ∀ i, i < n → M i i = 0) (hL : RLi M n L) {v : Nat → Int} : ∀ {w : List Nat}, (∀ i, i ∈ w → i < n) → UL L v → UL L (act M n w v)
  | [], _, h => h
  | c :: t, hw, h => UL_rfx hz hL (hw c List.mem_cons_self) (UL_act hz hL (w := t) (fun i hi => hw i (List.mem_cons_of_mem _ hi)) h)
theorem bhd_actL (hz : ∀ i, i < n → M i i = 0) (hL : RLi M n L) {s : Nat} {l : List Nat} (hl : ∀ i, i ∈ l → i < n) (hs : s < n) : ∀ x, x ≤ l.length → bhd M n l x (act M n (l.drop x) (ownV s)) ≠ -4 ∧ (bhd M n l x (act M n (l.drop x) (ownV s)) = -1 ↔ ∀ y, y < x → act M n (l.drop (y + 1)) (ownV s) ≠ ownV (l.getD y 0))
  | 0, _ => by rw [bhd]; exact ⟨by decide, fun _ y hy => by omega, fun _ => rfl⟩
  | x + 1, hx => by
    have hd : ∀ i, i ∈ l.drop (x + 1) → i < n := fun i hi => hl i (List.mem_of_mem_drop hi)
    have hd0 : ∀ i, i ∈ l.drop x → i < n := fun i hi => hl i (List.mem_of_mem_drop hi)
    have hc : l.getD x 0 < n := hl _ (getD_mem (by omega))
    have hv := act_zb (M := M) (v := ownV s) hd (zb_own hs)
    have ih := bhd_actL hz hL hl hs x (by omega)
    have e3 : rfx M n (act M n (l.drop (x + 1)) (ownV s)) (l.getD x 0) = act M n (l.drop x) (ownV s) := by rw [drop_c (show x < l.length by omega)]; rfl
    have hng : ¬ grt (act M n (l.drop x) (ownV s) (l.getD x 0)) := fun q => by
      have := (UL_act hz hL hd0 (Or.inl (hL.own s hs))).rg hL (l.getD x 0)
      omega
    rw [bhd, e3]
    by_cases e : isO n (act M n (l.drop (x + 1)) (ownV s)) (l.getD x 0)
    · rw [if_pos e]
      exact ⟨by omega, fun q => by omega, fun q => absurd ((isO_eq hv hc).mp e) (q x (by omega))⟩
    · rw [if_neg e, if_neg hng]
      refine ⟨ih.1, ih.2.trans ⟨fun q y hy => ?_, fun q y hy => q y (by omega)⟩⟩
      by_cases ey : y = x
      · subst ey
        exact fun z => e ((isO_eq hv hc).mpr z)
      · exact q y (by omega)
theorem bhL (hz : ∀ i, i < n → M i i = 0) (hL : RLi M n L) {s : Nat} {l : List Nat} (hl : ∀ i, i ∈ l → i < n) (hs : s < n) : bh M n l s ≠ -4 ∧ (bh M n l s = -1 ↔ NB M n l s) := by
  have h := bhd_actL hz hL hl hs l.length (Nat.le_refl _)
  rw [show act M n (l.drop l.length) (ownV s) = ownV s by rw [List.drop_length]; rfl] at h
  rw [NB_iff]
  exact h
theorem ahd_actL (hz : ∀ i, i < n → M i i = 0) (hL : RLi M n L) : ∀ (w : List Nat) (k : Nat) (x : Nat → Int), (∀ i, i ∈ w → i < n) → zb n x → UL L x → (ahd M n w k x = -1 ↔ ∀ y, y < w.length → wkF M n (w.take y) x ≠ ownV (w.getD y 0))
  | [], k, x, _, _, _ => by rw [ahd]; exact ⟨fun _ y hy => by simp at hy, fun _ => rfl⟩
  | c :: t, k, x, hw, hx, hu => by
    have hc := hw c List.mem_cons_self
    have hu2 := UL_rfx hz hL hc hu
    have ih := ahd_actL hz hL t (k + 1) (rfx M n x c) (fun i hi => hw i (List.mem_cons_of_mem _ hi)) (zb_rfx hx hc) hu2
    have hng : ¬ grt (rfx M n x c c) := fun q => by
      have := hu2.rg hL c
      omega
    rw [ahd]
    by_cases e : isO n x c
    · rw [if_pos e]
      exact ⟨fun q => by omega, fun q => absurd ((isO_eq hx hc).mp e) (q 0 (by simp))⟩
    · rw [if_neg e, if_neg hng, ih]
      constructor
      · intro q y hy
        cases y with
        | zero => exact fun z => e ((isO_eq hx hc).mpr z)
        | succ y => exact q y (by simp only [List.length_cons] at hy; omega)
      · intro q y hy
        exact q (y + 1) (by simp only [List.length_cons]; omega)
theorem EndL.nz (h : EndL M n L) {q : Nat → Int} (hq : q ∈ L) (h0 : ∀ j, q j = 0) : False := by
  rcases (h.2 q hq).2.2 with ⟨i, hi, e⟩ | ⟨i, hi, e⟩
  · have := h0 i
    rw [e] at this
    unfold ownV at this
    rw [if_pos rfl] at this
    omega
  · unfold prg at e
    rw [sm_zero (fun j _ => by rw [h0 j, Int.mul_zero]), h0 i] at e
    omega
theorem gr_ah (hM : mB M) (hE : EndL M n L) {R : List Nat} (hw : ∀ i, i ∈ R → i < n) (hr : RdL M n R) (hg : ∀ i, i < R.length → ∀ t, t < R.getD i 0 → bh M n (R.take i) t ≠ -1) : ∀ i, i < R.length → ∀ t, t < R.getD i 0 → ah M n (R.drop i) t = -1 := by
  intro i hi t ht
  have hz : ∀ i, i < n → M i i = 0 := fun i _ => hM.1 i
  have hL := hE.1
  have htn : t < n := by have := hw _ (getD_mem hi); omega
  have hdr : ∀ j, j ∈ R.drop i → j < n := fun j hj => hw j (List.mem_of_mem_drop hj)
  have htk : ∀ (m : Nat) (j : Nat), j ∈ R.take m → j < n := fun m j hj => hw j (List.mem_of_mem_take hj)
  unfold ah
  rw [ahd_actL hz hL (R.drop i) 0 (ownV t) hdr (zb_own htn) (Or.inl (hL.own t htn))]
  intro y hy e
  rw [wkF_act hM] at e
  rw [List.length_drop] at hy
  have hmem : ∀ m, m < R.length → act M n (R.take m) (ownV (R.getD m 0)) ∈ L := fun m hm => NB.mem hL (hw _ (getD_mem hm)) (htk m) (hr m hm)
  have h1 : act M n (R.take i) (ownV t) ∈ L := by
    have eg : (R.drop i).getD y 0 = R.getD (i + y) 0 := by
      rw [List.getD_eq_getElem?_getD, List.getElem?_drop, List.getD_eq_getElem?_getD]
    have et : R.take (i + y) = R.take i ++ (R.drop i).take y := by rw [List.take_add]
    have := hmem (i + y) (by omega)
    rw [et, act_app, ← eg, ← e] at this
    exact this
  have h2 := hg i hi t ht
  have h3 : ¬ NB M n (R.take i) t := fun q => h2 ((bhL hz hL (htk i) htn).2.mpr q)
  rw [NB_iff] at h3
  have h4 : ∃ z, z < (R.take i).length ∧ act M n ((R.take i).drop (z + 1)) (ownV t) = ownV ((R.take i).getD z 0) := Classical.byContradiction fun q => h3 (fun z z1 z2 => q ⟨z, z1, z2⟩)
  obtain ⟨z, z1, z2⟩ := h4
  rw [List.length_take] at z1
  have ez : (R.take i).getD z 0 = R.getD z 0 := by
    rw [List.getD_eq_getElem?_getD, List.getElem?_take, if_pos (by omega), List.getD_eq_getElem?_getD]
  have hzn : R.getD z 0 < n := hw _ (getD_mem (by omega))
  have h5 : act M n (R.take i) (ownV t) = fun j => - act M n (R.take z) (ownV (R.getD z 0)) j := by
    have es : R.take i = R.take z ++ (R.getD z 0 :: (R.take i).drop (z + 1)) := by
      have e1 : (R.take i).drop z = R.getD z 0 :: (R.take i).drop (z + 1) := by
        rw [drop_c (by rw [List.length_take]; omega), ez]
      rw [← e1]
      have e2 : R.take z = (R.take i).take z := by rw [List.take_take]; congr 1; omega
      rw [e2, List.take_append_drop]
    rw [← act_neg]
    conv => lhs; rw [es]
    rw [act_app]
    show act M n (R.take z) (rfx M n (act M n ((R.take i).drop (z + 1)) (ownV t)) (R.getD z 0)) = _
    rw [z2, ez, rfx_own hzn (hM.1 _)]
  have h6 := hmem z (by omega)
  rw [h5] at h1
  exact hE.nz h6 (fun j => by
    have a := (hL.nn _ h6 j).1
    have b : 0 ≤ - act M n (R.take z) (ownV (R.getD z 0)) j := (hL.nn _ h1 j).1
    omega)
theorem getD_app0 {l m : List Nat} {i : Nat} (h : i < l.length) : (l ++ m).getD i 0 = l.getD i 0 := by
  rw [List.getD_eq_getElem?_getD, List.getD_eq_getElem?_getD, List.getElem?_append_left h]
/-- what the word so far is -/
def GrW (M : Nat → Nat → Int) (n : Nat) (R : List Nat) : Prop := (∀ i, i ∈ R → i < n) ∧ RdL M n R ∧ ∀ i, i < R.length → ∀ t, t < R.getD i 0 → bh M n (R.take i) t ≠ -1
theorem GrW_stp (hM : mB M) (hE : EndL M n L) {R : List Nat} (h : GrW M n R) : GrW M n (stp M n R) := by
  obtain ⟨h1, h2, h3⟩ := h
  unfold stp
  split
  · exact ⟨h1, h2, h3⟩
  · rename_i e
    obtain ⟨l1, l2, l3, l4⟩ := (lup_r M n R n (Nat.le_refl _)).resolve_left e
    have hnb := (bhL (fun i _ => hM.1 i) hE.1 h1 (s := (lup M n R n).toNat) (by omega)).2.mp l3
    refine ⟨fun i hi => ?_, fun k hk => ?_, fun i hi t ht => ?_⟩
    · rcases List.mem_append.mp hi with q | q
      · exact h1 i q
      · rw [List.mem_singleton.mp q]; omega
    · simp only [List.length_append, List.length_cons, List.length_nil] at hk
      by_cases c : k < R.length
      · rw [getD_app0 c, List.take_append_of_le_length (by omega)]
        exact h2 k c
      · have ek : k = R.length := by omega
        subst ek
        rw [getD_app2, List.take_append_of_le_length (Nat.le_refl _), List.take_length]
        exact hnb
    · simp only [List.length_append, List.length_cons, List.length_nil] at hi
      by_cases c : i < R.length
      · rw [getD_app0 c] at ht
        rw [List.take_append_of_le_length (by omega)]
        exact h3 i c t ht
      · have ek : i = R.length := by omega
        subst ek
        rw [getD_app2] at ht
        rw [List.take_append_of_le_length (Nat.le_refl _), List.take_length]
        exact l4 t (by omega) ht
theorem GrW_lgr (hM : mB M) (hE : EndL M n L) : ∀ k, GrW M n (lgr M n k)
  | 0 => ⟨fun i hi => by simp [lgr] at hi, fun k hk => by simp [lgr] at hk, fun i hi => by simp [lgr] at hi⟩
  | k + 1 => GrW_stp hM hE (GrW_lgr hM hE k)
theorem foP_lgr (hM : mB M) (hE : EndL M n L) (k : Nat) : foP M n (lgr M n k) = some (lgr M n k) := by
  have h := GrW_lgr hM hE k
  have h2 := (fmS_self (M := M) (n := n) (lgr M n k) [] h.1).mpr (gr_ah hM hE h.1 h.2.1 h.2.2)
  rw [List.nil_append] at h2
  exact h2
/-- no word without loss has more letters than a list that holds all roots -/
theorem RdL_card (hz : ∀ i, i < n → M i i = 0) (hL : RLi M n L) {K : List (Nat → Int)} (hK : ∀ x, x ∈ L → x ∈ K) {r : List Nat} (hr : ∀ i, i ∈ r → i < n) (h : RdL M n r) : r.length ≤ K.length := by
  haveI : DecidableEq (Nat → Int) := fun a b => Classical.propDecidable (a = b)
  obtain ⟨h1, h2⟩ := Bl_ok hz hL hr h
  have h3 := php_list h1 (fun x hx => hK x (h2 x hx))
  have h4 : ∀ r : List Nat, (Bl M n r).length = r.length := by
    intro r
    induction r with
    | nil => rfl
    | cons a r ih => simp [Bl, ih]
  rw [h4] at h3
  exact h3
theorem lgr_len (hM : mB M) (hE : EndL M n L) (k : Nat) : (lgr M n k).length ≤ 36 := by
  have h := GrW_lgr hM hE k
  exact h.2.1.len (fun i _ => hM.1 i) hE.1 h.1
theorem stp_len (R : List Nat) : stp M n R = R ∨ (stp M n R).length = R.length + 1 := by
  unfold stp
  split
  · exact Or.inl rfl
  · exact Or.inr (by simp)
theorem lgr_grow : ∀ k, (lgr M n k).length = k ∨ stp M n (lgr M n k) = lgr M n k
  | 0 => Or.inl rfl
  | k + 1 => by
    rcases lgr_grow k with h | h
    · rcases stp_len (M := M) (n := n) (lgr M n k) with q | q
      · right
        show stp M n (stp M n (lgr M n k)) = stp M n (lgr M n k)
        rw [q, q]
      · left
        show (stp M n (lgr M n k)).length = k + 1
        rw [q, h]
    · right
      show stp M n (stp M n (lgr M n k)) = stp M n (lgr M n k)
      rw [h, h]
theorem lgr_fix (hM : mB M) (hE : EndL M n L) {K : List (Nat → Int)} (hK : ∀ x, x ∈ L → x ∈ K) {k : Nat} (hk : K.length ≤ k) : stp M n (lgr M n k) = lgr M n k := by
  rcases lgr_grow (M := M) (n := n) (k + 1) with h | h
  · have h2 := GrW_lgr hM hE (k + 1)
    have h3 := RdL_card (fun i _ => hM.1 i) hE.1 hK h2.1 h2.2.1
    omega
  · rcases lgr_grow (M := M) (n := n) k with q | q
    · rcases stp_len (M := M) (n := n) (lgr M n k) with z | z
      · exact z
      · have h2 := GrW_lgr hM hE (k + 1)
        have h3 := RdL_card (fun i _ => hM.1 i) hE.1 hK h2.1 h2.2.1
        have : (lgr M n (k + 1)).length = k + 1 := by
          show (stp M n (lgr M n k)).length = k + 1
          rw [z, q]
        omega
    · exact q
theorem lgr_stay {a : Nat} (h : stp M n (lgr M n a) = lgr M n a) : ∀ b, a ≤ b → lgr M n b = lgr M n a := by
  intro b
  induction b with
  | zero => intro hb; rw [show a = 0 by omega]
  | succ b ih =>
    intro hb
    by_cases e : a = b + 1
    · rw [e]
    · show stp M n (lgr M n b) = _
      rw [ih (by omega), h]
theorem lgr_same {a b : Nat} (h : stp M n (lgr M n a) = lgr M n a) (h2 : stp M n (lgr M n b) = lgr M n b) : lgr M n a = lgr M n b := by
  rcases Nat.le_total a b with q | q
  · exact (lgr_stay h b q).symm
  · exact lgr_stay h2 a q
end EL
/-- what longest answers and keeps -/
noncomputable def fLongest (M : Nat → Nat → Int) (n : Nat) (c : Int) (w : wS) : Int × wS := if (0 ≤ c ∧ c < 8) then (@ite _ (∃ L, EndL M n L) (Classical.propDecidable _) (fStore c w (some (lgr M n 36))) (-2, w)) else (-1, w)
theorem fLg_b {M : Nat → Nat → Int} {n : Nat} {c : Int} {w : wS} (h : ¬ (0 ≤ c ∧ c < 8)) : fLongest M n c w = (-1, w) := by unfold fLongest; rw [if_neg h]
theorem fLg_n {M : Nat → Nat → Int} {n : Nat} {c : Int} {w : wS} (h : 0 ≤ c ∧ c < 8) (h2 : ∀ L, ¬ EndL M n L) : fLongest M n c w = (-2, w) := by
  unfold fLongest
  rw [if_pos h, if_neg (fun ⟨L, q⟩ => h2 L q)]
theorem fLg_s {M : Nat → Nat → Int} {n : Nat} {c : Int} {w : wS} {L : List (Nat → Int)} {a : Nat} (hM : mB M) (h : 0 ≤ c ∧ c < 8) (hE : EndL M n L) (hs : stp M n (lgr M n a) = lgr M n a) : fLongest M n c w = fStore c w (some (lgr M n a)) := by
  unfold fLongest
  rw [if_pos h, if_pos ⟨L, hE⟩]
  rw [lgr_same hs (lgr_fix hM hE (k := 36) (fun x hx => hx) hE.1.len)]
end
section
theorem kM_in {S : wSt} {i j : Nat} (hi : i < kn S) (hj : j < kn S) : kM S i j = mxz (S 5 16) i j := by
  unfold kM mG clM
  rw [if_pos ⟨hi, hj⟩]
theorem key_all {mt F K U : Int → Int} {n h : Int} (hn : 0 ≤ n ∧ n ≤ 6) (H : RTI mt n h F K U) (hz : ∀ i, 0 ≤ i → i < n → mt (6 * i + i) = 0) (h12 : 12 ≤ h) (h40 : h ≤ 40) {L : List (Nat → Int)} (hL : EndL (mxz mt) n.toNat L) : ∀ x, x ∈ L → x ∈ (List.range (F 12).toNat).map (fun (j : Nat) => dgv (K (j : Int))) := fun x hx => by
  have hz2 : ∀ i, i < n.toNat → mxz mt i i = 0 := fun i hi => hz (i : Int) (by omega) (by omega)
  have hr := RTp.ofL hz2 hL _ x (Nat.le_refl _) hx
  obtain ⟨-, a, b⟩ := RTI_all hn H hz h40 hr
  have h11 := (hL.2 x hx).1
  obtain ⟨y, ⟨y0, y1⟩, e⟩ := b (by omega)
  have m1 := H.mono (q := 1) (r := sm n.toNat x) (by omega) (by omega) (by omega)
  have m2 := H.mono (q := sm n.toNat x + 1) (r := 12) (by omega) (by omega) (by omega)
  rw [H.1] at m1
  exact List.mem_map.mpr ⟨y.toNat, List.mem_range.mpr (by omega), by rw [Int.toNat_of_nonneg (by omega)]; exact e⟩
theorem CI.diag {S : wSt} (h : CI S) : ∀ i, 0 ≤ i → i < S 3 16 2 → S 5 16 (6 * i + i) = 0 := fun i i0 i1 => by
  have hn := h.n
  have := h.set.mok.z i.toNat (by omega)
  unfold mxz at this
  rw [Int.toNat_of_nonneg i0] at this
  exact this
theorem CI.mB {S : wSt} (h : CI S) : mB (kM S) := mB_mG h.set (by have := h.n; unfold kn; omega)
theorem lg_fix {W : wSt} (hC : CI W) (h12 : 12 ≤ W 12 0 4) {L : List (Nat → Int)} (hE : EndL (mxz (W 5 16)) (W 3 16 2).toNat L) {r : Int} (hr : r = W 15 0 12) : EndL (kM W) (kn W) L ∧ stp (kM W) (kn W) (lgr (kM W) (kn W) r.toNat) = lgr (kM W) (kn W) r.toNat := by
  have hE2 : EndL (kM W) (kn W) L := hE.cg (fun i j hi hj => kM_in hi hj)
  refine ⟨hE2, lgr_fix hC.mB hE2 (key_all hC.n hC.rl.2.2 hC.diag h12 hC.rl.1.2 hE) ?_⟩
  rw [List.length_map, List.length_range, hr]
  exact Nat.le_refl _
theorem lg_s {M : Nat → Nat → Int} {n : Nat} {k r : Int} {R : List Nat} (h : R = lgr M n k.toNat) (k0 : 0 ≤ k) (hu : r = lup M n R n) : (r = -1 → R = lgr M n (k + 1).toNat) ∧ (r ≠ -1 → R ++ [r.toNat] = lgr M n (k + 1).toNat) := by
  rw [show (k + 1).toNat = k.toNat + 1 by omega]
  show (r = -1 → R = stp M n (lgr M n k.toNat)) ∧ (r ≠ -1 → R ++ [r.toNat] = stp M n (lgr M n k.toNat))
  rw [← h]
  unfold stp
  rw [← hu]
  exact ⟨fun q => by rw [if_pos q], fun q => by rw [if_neg q]⟩
/-- the words and the roots -/
def tLg (k : Nat) (_i _j : Int) : Prop := k = 1 ∨ k = 2 ∨ (11 ≤ k ∧ k ≤ 15) ∨ k = 19 ∨ k = 22 ∨ k = 24
theorem tC_tLg {S S' : wSt} (h : Fr tC S S') : Fr tLg S S' := h.mono (fun k i j q => by unfold tC at q; unfold tLg; omega)
theorem fWd_tLg {a : Int} {S S' : wSt} (h : Fr (fWd a) S S') : Fr tLg S S' := h.mono (fun k i j q => by unfold fWd at q; unfold tLg; omega)
theorem fRt_tLg {S S' : wSt} (h : Fr fRt S S') : Fr tLg S S' := h.mono (fun k i j q => by unfold fRt at q; unfold tLg; omega)
theorem FLF.lg {S W : wSt} (h : FLF S) (f : Fr tLg S W) : FLF W := h.fr (f 3 16 2 (by unfold tLg; omega)) (fun j => f 5 16 j (by unfold tLg; omega)) (fun j => f 16 0 j (by unfold tLg; omega)) (fun j => f 17 0 j (by unfold tLg; omega)) (fun j => f 18 0 j (by unfold tLg; omega))
theorem RLX.tc {S W : wSt} (h : RLX S) (f : Fr tC S W) : RLX W := h.of (fun k i j q => f k i j (by unfold tC; omega))
theorem RLX.wd {S W : wSt} {a : Int} (h : RLX S) (f : Fr (fWd a) S W) : RLX W := h.of (fun k i j q => f k i j (by unfold fWd; omega))
theorem RLX.xw {S W : wSt} (h : RLX S) (f : Fr tXw S W) : RLX W := h.of (fun k i j q => f k i j (by unfold tXw; omega))
theorem RLX.fm {S W : wSt} (h : RLX S) (f : Fr tFm S W) : RLX W := h.of (fun k i j q => f k i j (by unfold tFm; omega))
end
section
theorem kP_add8 {S W : wSt} {p r : Int} (y1 : W 1 p 1 = S 1 p 1 + 1) (y2 : W 2 p (S 1 p 1) = r) (y3 : ∀ j, j ≠ S 1 p 1 → W 2 p j = S 2 p j) (h0 : 0 ≤ S 1 p 1) : kP W p = kP S p ++ [r.toNat] := by
  unfold kP
  rw [y1]
  exact wl_add h0 (fun j _ _ => y3 j (by omega)) y2
end
section
end
