section
/-! how many words: tables -/
def pw : Nat → (Nat → Nat) → Nat
  | 0, _ => 1
  | k + 1, N => pw k N * (k + 2) ^ N (k + 1)
def hgN (t : Nat) (p : List Nat) : Nat := smN (tyK t) (fun j => p.getD j 0)
def cX (t h : Nat) : Nat := ((rooT.getD t []).filter (fun p => Nat.beq (hgN t p) h)).length
def cY (t m h : Nat) : Nat := ((rooT.getD t []).filter (fun p => Nat.beq (hgN t p) h && Nat.beq (p.getD m 0) 0)).length
def gT : List (List Nat) := [[1], [1, 1], [4, 3], [5, 3], [3, 4, 3], [3, 5, 3], [5, 8, 9], [2, 3, 3, 2], [4, 7, 9, 5], [7, 12, 15, 16], [3, 5, 3, 3], [8, 15, 21, 11], [5, 8, 9, 8, 5], [10, 18, 24, 28, 15], [9, 16, 21, 24, 25], [4, 7, 9, 5, 5], [3, 5, 6, 6, 5, 3], [12, 22, 30, 36, 40, 21], [11, 20, 27, 32, 35, 36], [10, 18, 24, 28, 15, 15], [8, 15, 21, 15, 8, 11]]
def gAt (t b : Nat) : Nat := (gT.getD t []).getD b 0
def ndB : List Nat → Bool
  | [] => true
  | c :: r => !(r.any (Nat.beq c)) && ndB r
def ascB : Nat → List Nat → Bool
  | _, [] => true
  | a, b :: r => Nat.blt a b && ascB b r
def rcd (t : Nat) (p : List Nat) : Nat := smN (tyK t) (fun j => p.getD j 0 * 16 ^ j)
def cntB (t : Nat) : Bool :=
  let K := tyK t
  let R := rooT.getD t []
  allN 12 (fun h => Nat.ble (cX t (h + 2)) (cX t (h + 1))) && (R.all (fun p => Nat.ble 1 (hgN t p)) && (ndB (R.map (rcd t)) && allN K (fun i => Nat.blt (smN K (fun b => tyN t b i * gAt t b)) (2 * gAt t i))))
theorem cnt_ok : allN 21 cntB = true := by decide +kernel
def orbB (t m : Nat) : Bool :=
  let K := tyK t
  let W := (weT.getD t []).getD m []
  Nat.beq (pw 11 (cX t) * pw 11 (fun h => cY t m (h + 1))) (Tr.size W * (pw 11 (cY t m) * pw 11 (fun h => cX t (h + 1)))) && (ascB 0 (Tr.toL W) && Tr.all (fun c => Nat.blt c (16 ^ K) && (anyN K (fun b => Nat.blt (dgN c b) 8) || Nat.beq c (smN K (fun b => (bif Nat.beq b m then 9 else 8) * 16 ^ b)))) W)
theorem orb_ok : allN 21 (fun t => allN (tyK t) (orbB t)) = true := by decide +kernel
end
section
theorem ndB_nd : ∀ {l : List Nat}, ndB l = true → l.Nodup
  | [], _ => List.nodup_nil
  | c :: r, h => by
    simp only [ndB, Bool.and_eq_true, Bool.not_eq_true'] at h
    refine List.nodup_cons.mpr ⟨fun q => ?_, ndB_nd h.2⟩
    have : r.any (Nat.beq c) = true := List.any_eq_true.mpr ⟨c, q, Nat.beq_refl c⟩
    rw [h.1] at this
    cases this
theorem ascB_nd : ∀ {a : Nat} {l : List Nat}, ascB a l = true → (∀ b, b ∈ l → a < b) ∧ l.Nodup
  | _, [], _ => ⟨fun b hb => (by cases hb), List.nodup_nil⟩
  | a, b :: r, h => by
    simp only [ascB, Bool.and_eq_true] at h
    have h1 := Nat.blt_eq.mp h.1
    obtain ⟨h2, h3⟩ := ascB_nd h.2
    refine ⟨fun x hx => ?_, List.nodup_cons.mpr ⟨fun q => Nat.lt_irrefl _ (h2 b q), h3⟩⟩
    rcases List.mem_cons.mp hx with e | e
    · rw [e]; exact h1
    · exact Nat.lt_trans h1 (h2 x e)
theorem dgN_s (c b : Nat) : dgN c (b + 1) = dgN (c / 16) b := by
  unfold dgN
  rw [Nat.div_div_eq_div_mul, Nat.pow_succ, Nat.mul_comm]
theorem dg16_inj : ∀ (K c c' : Nat), c < 16 ^ K → c' < 16 ^ K → (∀ b, b < K → dgN c b = dgN c' b) → c = c'
  | 0, c, c', h, h', _ => by
    rw [Nat.pow_zero] at h h'
    omega
  | K + 1, c, c', h, h', e => by
    have e0 := e 0 (by omega)
    unfold dgN at e0
    rw [Nat.pow_zero, Nat.div_one, Nat.div_one] at e0
    have := dg16_inj K (c / 16) (c' / 16) (by rw [Nat.pow_succ] at h; omega) (by rw [Nat.pow_succ] at h'; omega) (fun b hb => by rw [← dgN_s, ← dgN_s]; exact e (b + 1) (by omega))
    omega
def veL (p : List Nat) : Nat → Int := fun a => (p.getD a 0 : Int)
theorem cntF {t : Nat} (ht : t < 21) : (∀ h, 1 ≤ h → h ≤ 12 → cX t (h + 1) ≤ cX t h) ∧ (∀ p, p ∈ rooT.getD t [] → 1 ≤ hgN t p) ∧ ((rooT.getD t []).Pairwise (fun p q => rcd t p ≠ rcd t q)) ∧ ∀ i, i < tyK t → smN (tyK t) (fun b => tyN t b i * gAt t b) < 2 * gAt t i := by
  have h := allN_e cnt_ok t ht
  simp only [cntB, Bool.and_eq_true] at h
  obtain ⟨h1, h2, h3, h4⟩ := h
  refine ⟨fun h a b => ?_, fun p hp => Nat.ble_eq.mp (List.all_eq_true.mp h2 p hp), ?_, fun i hi => Nat.blt_eq.mp (allN_e h4 i hi)⟩
  · have := Nat.ble_eq.mp (allN_e h1 (h - 1) (by omega))
    rw [show h - 1 + 2 = h + 1 by omega, show h - 1 + 1 = h by omega] at this
    exact this
  · exact List.pairwise_map.mp (List.nodup_iff_pairwise_ne.mp (ndB_nd h3))
theorem orbF {t m : Nat} (ht : t < 21) (hm : m < tyK t) : pw 11 (cX t) * pw 11 (fun h => cY t m (h + 1)) = Tr.size ((weT.getD t []).getD m []) * (pw 11 (cY t m) * pw 11 (fun h => cX t (h + 1))) ∧ (Tr.toL ((weT.getD t []).getD m [])).Nodup ∧ ∀ c, c ∈ Tr.toL ((weT.getD t []).getD m []) → c < 16 ^ tyK t ∧ ((∃ b, b < tyK t ∧ dgN c b < 8) ∨ c = wst t m) := by
  have h := allN_e (allN_e orb_ok t ht) m hm
  simp only [orbB, Bool.and_eq_true] at h
  obtain ⟨h1, h2, h3⟩ := h
  refine ⟨Nat.beq_eq.mp h1, (ascB_nd h2).2, fun c hc => ?_⟩
  have h4 := Tr.all_toL h3 c hc
  simp only [Bool.and_eq_true, Bool.or_eq_true] at h4
  refine ⟨Nat.blt_eq.mp h4.1, h4.2.imp (fun q => ?_) (fun q => Nat.beq_eq.mp q)⟩
  obtain ⟨b, hb, q⟩ := anyN_e q
  exact ⟨b, hb, Nat.blt_eq.mp q⟩
theorem weF2 {t m : Nat} (ht : t < 21) (hm : m < tyK t) : (wst t m ∈ Tr.toL ((weT.getD t []).getD m []) ∧ ∀ b, b < tyK t → dgZ (wst t m) b = if b = m then 1 else 0) ∧ (∀ c, c ∈ Tr.toL ((weT.getD t []).getD m []) → ∀ i, i < tyK t → ∃ c', c' ∈ Tr.toL ((weT.getD t []).getD m []) ∧ ∀ b, b < tyK t → dgZ c' b = if b = i then - dgZ c b else dgZ c b + dgZ c i * tyM t b i) := by
  obtain ⟨h, h9⟩ := we_ok t m ht hm
  have h9 := allN_e h9
  generalize (weT.getD t []).getD m [] = W at h ⊢
  simp only [weB, Bool.and_eq_true, Nat.ble_eq] at h
  obtain ⟨h1, h2, h3⟩ := h
  refine ⟨⟨Tr.mem_toL h2, fun b hb => ?_⟩, fun c hc i hi => ?_⟩
  · unfold dgZ
    rw [Nat.beq_eq.mp (h9 b hb)]
    by_cases e : b = m
    · subst e; rw [Nat.beq_refl, if_pos rfl]; rfl
    · rw [b_ne e, if_neg e]; rfl
  · have h4 := allN_e (Tr.all_toL h3 c hc) i hi
    simp only [Bool.and_eq_true] at h4
    refine ⟨imN t i c, Tr.mem_toL h4.1, fun b hb => ?_⟩
    have h5 := allN_e h4.2 b hb
    unfold dgZ tyM
    by_cases e : b = i
    · subst e
      rw [Nat.beq_refl, cond_true] at h5
      have := Nat.beq_eq.mp h5
      rw [if_pos rfl]
      omega
    · rw [b_ne e, cond_false] at h5
      rw [if_neg e]
      cases e8 : Nat.ble 8 (dgN c i)
      · rw [e8, cond_false] at h5
        have := Nat.beq_eq.mp h5
        have h8 : ¬ 8 ≤ dgN c i := fun h => by rw [Nat.ble_eq.mpr h] at e8; cases e8
        have e7 : (dgN c i : Int) - 8 = - ((8 - dgN c i : Nat) : Int) := by omega
        rw [e7, Int.neg_mul, ← Int.natCast_mul]
        omega
      · rw [e8, cond_true] at h5
        have := Nat.beq_eq.mp h5
        have h8 := Nat.ble_eq.mp e8
        have e7 : (dgN c i : Int) - 8 = ((dgN c i - 8 : Nat) : Int) := by omega
        rw [e7, ← Int.natCast_mul]
        omega
/-! what a weight reaches -/
def WRc (M : Nat → Nat → Int) (last : Nat) (w : Nat → Int) : Prop := ∀ P : (Nat → Int) → Prop, P (ownV last) → (∀ w i, P w → i ≤ last → P (wim M last w i)) → P w
theorem WRc.own {M : Nat → Nat → Int} {last : Nat} : WRc M last (ownV last) := fun _ h _ => h
theorem WRc.st {M : Nat → Nat → Int} {last : Nat} {w : Nat → Int} (h : WRc M last w) {i : Nat} (hi : i ≤ last) : WRc M last (wim M last w i) := fun P a b => b w i (h P a b) hi
theorem WRc.ind {M : Nat → Nat → Int} {last : Nat} {w : Nat → Int} (h : WRc M last w) {P : (Nat → Int) → Prop} (a : P (ownV last)) (b : ∀ w i, WRc M last w → P w → i ≤ last → P (wim M last w i)) : P w := (h (fun w => WRc M last w ∧ P w) ⟨WRc.own, a⟩ (fun w i q hi => ⟨q.1.st hi, b w i q.1 q.2 hi⟩)).2
def OrbP (M : Nat → Nat → Int) (last : Nat) (r : Int) : Prop := ∃ l : List (Nat → Int), l.Nodup ∧ (∀ w, w ∈ l ↔ WRc M last w) ∧ r = l.length
theorem OrbP.uniq {M : Nat → Nat → Int} {last : Nat} {r r' : Int} (h : OrbP M last r) (h' : OrbP M last r') : r = r' := by
  haveI : DecidableEq (Nat → Int) := fun a b => Classical.propDecidable (a = b)
  obtain ⟨l, h1, h2, h3⟩ := h
  obtain ⟨l', g1, g2, g3⟩ := h'
  have a := php_list h1 (m := l') (fun x hx => (g2 x).mpr ((h2 x).mp hx))
  have b := php_list g1 (m := l) (fun x hx => (h2 x).mpr ((g2 x).mp hx))
  omega
theorem wim_wim {M : Nat → Nat → Int} {last : Nat} {w : Nat → Int} {i : Nat} (hi : i ≤ last) (h : ∀ b, last < b → w b = 0) : wim M last (wim M last w i) i = w := by
  funext b
  unfold wim
  by_cases hb : b ≤ last
  · rw [if_pos hb]
    by_cases e : b = i
    · rw [if_pos e, if_pos hi, if_pos rfl, e]
      omega
    · rw [if_neg e, if_pos hb, if_neg e, if_pos hi, if_pos rfl, Int.neg_mul]
      omega
  · rw [if_neg hb, h b (by omega)]
theorem wim_emb {M : Nat → Nat → Int} {last t : Nat} {pos : Nat → Nat} (hI : Iso M (last + 1) t pos) (hmax : ∀ x, x < last + 1 → (∀ a, a < tyK t → pos a ≠ x) → ∀ a, a < tyK t → M x (pos a) = 0) {d d' : Nat → Int} {i : Nat} (hi : i < tyK t) (hd : ∀ b, b < tyK t → d' b = if b = i then - d b else d b + d i * tyM t b i) : emb (tyK t) pos d' = wim M last (emb (tyK t) pos d) (pos i) := by
  funext x
  unfold wim
  by_cases hx : ∃ b, b < tyK t ∧ pos b = x
  · obtain ⟨b, hb, rfl⟩ := hx
    have hl := hI.lt b hb
    rw [if_pos (by omega), emb_at hI.inj hb, emb_at hI.inj hi, hd b hb]
    by_cases e : b = i
    · subst e; rw [if_pos rfl, if_pos rfl]
    · rw [if_neg e, if_neg (fun e2 => e (hI.inj b i hb hi e2)), emb_at hI.inj hb, hI.eq b i hb hi]
  · have ho : ∀ b, b < tyK t → pos b ≠ x := fun b hb e => hx ⟨b, hb, e⟩
    rw [emb_out ho]
    split
    · rename_i hxl
      rw [if_neg (fun e => ho i hi e.symm), hmax x (by omega) ho i hi, emb_out ho]
      omega
    · rfl
theorem wim_no {M : Nat → Nat → Int} {last k : Nat} {pos : Nat → Nat} (hp : ∀ a, a < k → pos a < last + 1) {d : Nat → Int} {i : Nat} (ho : ∀ b, b < k → pos b ≠ i) : wim M last (emb k pos d) i = emb k pos d := by
  funext x
  unfold wim
  rw [emb_out ho]
  split
  · split
    · rename_i e; rw [e, emb_out ho]; rfl
    · omega
  · rename_i hq
    rw [emb_out (fun a ha e => by have := hp a ha; omega)]
theorem g_step {K i : Nat} (hi : i < K) {g d d' T : Nat → Int} (hT : T i = 0) (hd : ∀ b, b < K → d' b = if b = i then - d b else d b + d i * T b) : sm K (fun b => g b * d' b) = sm K (fun b => g b * d b) + d i * (sm K (fun b => T b * g b) - 2 * g i) := by
  have e : ∀ b, b < K → g b * d' b = (g b * d b + d i * (T b * g b)) + (if b = i then g b * (-2 * d i) else 0) := fun b hb => by
    rw [hd b hb]
    by_cases q : b = i
    · subst q
      rw [if_pos rfl, if_pos rfl, hT, Int.zero_mul, Int.mul_zero, Int.add_zero, ← Int.mul_add]
      congr 1
      omega
    · rw [if_neg q, if_neg q, Int.add_zero, Int.mul_add, Int.mul_comm (T b), ← Int.mul_assoc, ← Int.mul_assoc, Int.mul_comm (g b) (d i)]
  rw [sm_congr e, sm_add, sm_add, sm_mul, sm_one hi (fun j _ hj => if_neg hj), if_pos rfl, Int.mul_sub, Int.mul_comm (g i), Int.add_assoc, Int.sub_eq_add_neg]
  congr 1
  congr 1
  rw [← Int.mul_assoc, Int.mul_comm (d i) 2, ← Int.neg_mul, ← Int.neg_mul]
theorem orb_tab {M : Nat → Nat → Int} {last t m : Nat} {pos : Nat → Nat} (hI : Iso M (last + 1) t pos) (hm : m < tyK t) (hml : pos m = last) (hmax : ∀ x, x < last + 1 → (∀ a, a < tyK t → pos a ≠ x) → ∀ a, a < tyK t → M x (pos a) = 0) (hz : ∀ i, i < last + 1 → M i i = 0) : OrbP M last (Tr.size ((weT.getD t []).getD m [])) := by
  obtain ⟨⟨s1, s2⟩, s3⟩ := weF2 hI.t0 hm
  obtain ⟨-, o1, o2⟩ := orbF hI.t0 hm
  have hg := (cntF hI.t0).2.2.2
  generalize hW : (weT.getD t []).getD m [] = W at *
  have own0 : emb (tyK t) pos (dgZ (wst t m)) = ownV last := by
    rw [← hml, ← emb_own hI.inj hm]
    exact emb_ext s2
  have hzl : ∀ d b, last < b → emb (tyK t) pos d b = 0 := fun d b hb => emb_out (fun a ha e => by have := hI.lt a ha; omega)
  refine ⟨(Tr.toL W).map (fun c => emb (tyK t) pos (dgZ c)), ?_, fun w => ⟨fun hw => ?_, fun hw => ?_⟩, by rw [List.length_map, Tr.len_toL]⟩
  · rw [List.nodup_iff_pairwise_ne, List.pairwise_map]
    refine List.Pairwise.imp_of_mem ?_ (List.nodup_iff_pairwise_ne.mp o1)
    intro a b ha hb hne h
    refine hne (dg16_inj (tyK t) a b (o2 a ha).1 (o2 b hb).1 (fun j hj => ?_))
    have := congrFun h (pos j)
    rw [emb_at hI.inj hj, emb_at hI.inj hj] at this
    unfold dgZ at this
    omega
  · have key : ∀ (N : Nat) (c : Nat), c ∈ Tr.toL W → (sm (tyK t) (fun b => (gAt t b : Int) * 7) - sm (tyK t) (fun b => (gAt t b : Int) * dgZ c b)).toNat ≤ N → WRc M last (emb (tyK t) pos (dgZ c)) := by
      intro N
      induction N with
      | zero =>
        intro c hc hN
        rcases (o2 c hc).2 with ⟨i, hi, hneg⟩ | e
        · exfalso
          obtain ⟨c', hc', hd⟩ := s3 c hc i hi
          have h1 := g_step (g := fun b => (gAt t b : Int)) (T := fun b => tyM t b i) hi (by have := hI.eq i i hi hi; rw [hz _ (hI.lt i hi)] at this; exact this.symm) hd
          have h2 := hg i hi
          have h3 : sm (tyK t) (fun b => tyM t b i * (gAt t b : Int)) = ((smN (tyK t) (fun b => tyN t b i * gAt t b) : Nat) : Int) := by
            rw [smN_c]
            exact sm_congr (fun b _ => by rw [Int.natCast_mul]; rfl)
          have h4 : dgZ c i < 0 := by unfold dgZ; omega
          have h5 : sm (tyK t) (fun b => (gAt t b : Int) * dgZ c' b) ≤ sm (tyK t) (fun b => (gAt t b : Int) * 7) := sm_le (fun b hb => Int.mul_le_mul_of_nonneg_left (by unfold dgZ dgN; omega) (by omega))
          have h6 : 0 < dgZ c i * (sm (tyK t) (fun b => tyM t b i * (gAt t b : Int)) - 2 * (gAt t i : Int)) := Int.mul_pos_of_neg_of_neg h4 (by rw [h3]; omega)
          omega
        · rw [e, own0]; exact WRc.own
      | succ N ih =>
        intro c hc hN
        rcases (o2 c hc).2 with ⟨i, hi, hneg⟩ | e
        · obtain ⟨c', hc', hd⟩ := s3 c hc i hi
          have h1 := g_step (g := fun b => (gAt t b : Int)) (T := fun b => tyM t b i) hi (by have := hI.eq i i hi hi; rw [hz _ (hI.lt i hi)] at this; exact this.symm) hd
          have h2 := hg i hi
          have h3 : sm (tyK t) (fun b => tyM t b i * (gAt t b : Int)) = ((smN (tyK t) (fun b => tyN t b i * gAt t b) : Nat) : Int) := by
            rw [smN_c]
            exact sm_congr (fun b _ => by rw [Int.natCast_mul]; rfl)
          have h4 : dgZ c i < 0 := by unfold dgZ; omega
          have h6 : 0 < dgZ c i * (sm (tyK t) (fun b => tyM t b i * (gAt t b : Int)) - 2 * (gAt t i : Int)) := Int.mul_pos_of_neg_of_neg h4 (by rw [h3]; omega)
          have h7 := (ih c' hc' (by omega)).st (i := pos i) (by have := hI.lt i hi; omega)
          rw [wim_emb hI hmax hi hd, wim_wim (by have := hI.lt i hi; omega) (hzl _)] at h7
          exact h7
        · rw [e, own0]; exact WRc.own
    obtain ⟨c, hc, rfl⟩ := List.mem_map.mp hw
    exact key _ c hc (Nat.le_refl _)
  · refine hw.ind (List.mem_map.mpr ⟨wst t m, s1, own0⟩) (fun w i _ hw hi => ?_)
    obtain ⟨c, hc, rfl⟩ := List.mem_map.mp hw
    by_cases hin : ∃ a, a < tyK t ∧ pos a = i
    · obtain ⟨a, ha, rfl⟩ := hin
      obtain ⟨c', hc', hd⟩ := s3 c hc a ha
      exact List.mem_map.mpr ⟨c', hc', wim_emb hI hmax ha hd⟩
    · exact List.mem_map.mpr ⟨c, hc, (wim_no hI.lt (fun b hb e => hin ⟨b, hb, e⟩)).symm⟩
end
section
/-! roots of one component, and of all ahead of a mirror -/
theorem veL_sm (t : Nat) (p : List Nat) : sm (tyK t) (veL p) = (hgN t p : Int) := by
  unfold hgN
  rw [smN_c]
  rfl
theorem prg_emb {M : Nat → Nat → Int} {n t : Nat} {pos : Nat → Nat} (hI : Iso M n t pos) (p : List Nat) {a : Nat} (ha : a < tyK t) : prg M n (emb (tyK t) pos (veL p)) (pos a) = 2 * (p.getD a 0 : Int) - ((smN (tyK t) (fun j => tyN t a j * p.getD j 0) : Nat) : Int) := by
  unfold prg
  rw [sm_emb hI.lt, emb_at hI.inj ha]
  congr 1
  rw [smN_c]
  exact sm_congr (fun b hb => by rw [hI.eq a b ha hb, Int.natCast_mul]; rfl)
theorem rfx_emb {M : Nat → Nat → Int} {n t : Nat} {pos : Nat → Nat} (hI : Iso M n t pos) {p q : List Nat} {a : Nat} (ha : a < tyK t) (hq : ∀ b, b < tyK t → if b = a then q.getD b 0 + p.getD b 0 = smN (tyK t) (fun j => tyN t a j * p.getD j 0) else q.getD b 0 = p.getD b 0) : rfx M n (emb (tyK t) pos (veL p)) (pos a) = emb (tyK t) pos (veL q) := by
  funext x
  unfold rfx
  by_cases hx : ∃ b, b < tyK t ∧ pos b = x
  · obtain ⟨b, hb, rfl⟩ := hx
    have h6 := hq b hb
    by_cases e : b = a
    · subst e
      rw [if_pos rfl] at h6
      rw [if_pos rfl, prg_emb hI p hb, emb_at hI.inj hb, emb_at hI.inj hb]
      unfold veL
      omega
    · rw [if_neg e] at h6
      rw [if_neg (fun e2 => e (hI.inj b a hb ha e2)), emb_at hI.inj hb, emb_at hI.inj hb]
      unfold veL
      rw [h6]
  · have ho : ∀ b, b < tyK t → pos b ≠ x := fun b hb e => hx ⟨b, hb, e⟩
    rw [if_neg (fun e => ho a ha e.symm), emb_out ho, emb_out ho]
theorem emb_unit {M : Nat → Nat → Int} {n t : Nat} {pos : Nat → Nat} (hI : Iso M n t pos) {p : List Nat} {a : Nat} (ha : a < tyK t) (h : ∀ b, b < tyK t → p.getD b 0 = if b = a then 1 else 0) : emb (tyK t) pos (veL p) = ownV (pos a) := by
  rw [← emb_own hI.inj ha]
  exact emb_ext (fun b hb => by unfold veL; rw [h b hb]; split <;> rfl)
theorem emb_sm {M : Nat → Nat → Int} {n t : Nat} {pos : Nat → Nat} (hI : Iso M n t pos) (p : List Nat) : sm n (emb (tyK t) pos (veL p)) = (hgN t p : Int) := by
  have e := sm_emb hI.lt (n := n) (c := veL p) (fun _ => 1)
  simp only [Int.one_mul] at e
  rw [← veL_sm]
  exact e
/-- the roots of a component are roots -/
theorem emb_rt {M : Nat → Nat → Int} {n t : Nat} {pos : Nat → Nat} (hI : Iso M n t pos) (hz : ∀ i, i < n → M i i = 0) : ∀ (k : Nat) (p : List Nat), hgN t p ≤ k → p ∈ rooT.getD t [] → RTp M n (emb (tyK t) pos (veL p)) := by
  intro k
  induction k with
  | zero =>
    intro p hk hp
    have := (cntF hI.t0).2.1 p hp
    omega
  | succ k ih =>
    intro p hk hp
    rcases (rooG hI.t0 hp).2 with ⟨i, hi, h⟩ | ⟨i, hi, h⟩
    · rw [emb_unit hI hi h]
      exact RTp.own _ (hI.lt i hi)
    · rcases ((rooF hI.t0).2.2 p hp).2 i hi with h5 | ⟨q, hq, hq2⟩
      · rw [emb_unit hI hi h5]
        exact RTp.own _ (hI.lt i hi)
      · have e := rfx_emb hI hi hq2
        have es := sm_rfx (M := M) (x := emb (tyK t) pos (veL p)) (hI.lt i hi)
        have ep := prg_emb hI p hi
        rw [e, emb_sm hI, emb_sm hI] at es
        have h3 := RTp.up _ _ (ih q (by omega) hq) (hI.lt i hi) (by rw [← e, prg_rfx (hz _ (hI.lt i hi))]; omega)
        rw [← e, rfx_rfx (hz _ (hI.lt i hi))] at h3
        exact h3
theorem rt_split {M : Nat → Nat → Int} {n t : Nat} {pos : Nat → Nat} (hM : MOk M n) (hI : Iso M n t pos) (hmax : ∀ x, x < n → (∀ a, a < tyK t → pos a ≠ x) → ∀ a, a < tyK t → M x (pos a) = 0) {x : Nat → Int} (hx : RTp M n x) : (∃ p, p ∈ rooT.getD t [] ∧ x = emb (tyK t) pos (veL p)) ∨ ∀ a, a < tyK t → x (pos a) = 0 := by
  refine hx.ind (P := fun x => (∃ p, p ∈ rooT.getD t [] ∧ x = emb (tyK t) pos (veL p)) ∨ ∀ a, a < tyK t → x (pos a) = 0) (fun k hk => ?_) (fun x k hx hk hp ih => ?_)
  · by_cases hin : ∃ a, a < tyK t ∧ pos a = k
    · obtain ⟨a, ha, rfl⟩ := hin
      obtain ⟨q, hq, hq2⟩ := (rooF hI.t0).2.1 a ha
      exact Or.inl ⟨q, hq, (emb_unit hI ha hq2).symm⟩
    · exact Or.inr (fun a ha => by unfold ownV; rw [if_neg (fun e => hin ⟨a, ha, e⟩)])
  · rcases ih with ⟨p, hp2, rfl⟩ | h0
    · by_cases hin : ∃ a, a < tyK t ∧ pos a = k
      · obtain ⟨a, ha, rfl⟩ := hin
        rcases ((rooF hI.t0).2.2 p hp2).2 a ha with h5 | ⟨q, hq, hq2⟩
        · rw [emb_unit hI ha h5, prg_own hk (hM.z _ hk)] at hp
          omega
        · exact Or.inl ⟨q, hq, rfx_emb hI ha hq2⟩
      · exfalso
        have ho : ∀ b, b < tyK t → pos b ≠ k := fun b hb e => hin ⟨b, hb, e⟩
        unfold prg at hp
        rw [sm_emb hI.lt, emb_out ho, sm_zero (fun b hb => by rw [hmax k hk ho b hb]; omega)] at hp
        omega
    · by_cases hin : ∃ a, a < tyK t ∧ pos a = k
      · exfalso
        obtain ⟨a, ha, rfl⟩ := hin
        unfold prg at hp
        rw [h0 a ha, sm_zero (fun j hj => by
          by_cases hj2 : ∃ b, b < tyK t ∧ pos b = j
          · obtain ⟨b, hb, rfl⟩ := hj2
            rw [h0 b hb, Int.mul_zero]
          · rw [hM.zz j (pos a) hj hk (hmax j hj (fun b hb e => hj2 ⟨b, hb, e⟩) a ha), Int.zero_mul])] at hp
        omega
      · refine Or.inr (fun a ha => ?_)
        unfold rfx
        rw [if_neg (fun e => hin ⟨a, ha, e⟩)]
        exact h0 a ha
theorem rt_low {M : Nat → Nat → Int} {n : Nat} {x : Nat → Int} : RTp M n x ↔ RTp M (n + 1) x ∧ x n = 0 := by
  have hs : ∀ (y : Nat → Int) (i : Nat), y n = 0 → prg M (n + 1) y i = prg M n y i := fun y i h => by
    unfold prg
    rw [sm, h, Int.mul_zero, Int.add_zero]
  have hr : ∀ (y : Nat → Int) (i : Nat), y n = 0 → rfx M (n + 1) y i = rfx M n y i := fun y i h => by
    unfold rfx
    rw [hs y i h]
  constructor
  · intro hx
    refine ⟨hx.ind (fun i hi => RTp.own i (by omega)) (fun y i hy hi hp ih => ?_), hx.b.2.1 n (Nat.le_refl _)⟩
    have h0 := hy.b.2.1 n (Nat.le_refl _)
    rw [← hr y i h0]
    exact RTp.up y i ih (by omega) (by rw [hs y i h0]; exact hp)
  · rintro ⟨hx, h0⟩
    revert h0
    refine hx.ind (P := fun x => x n = 0 → RTp M n x) (fun i hi h => ?_) (fun y i hy hi hp ih h => ?_)
    · unfold ownV at h
      by_cases e : n = i
      · rw [if_pos e] at h; omega
      · exact RTp.own i (by omega)
    · have hy0 := hy.b.1
      have hin : i ≠ n := fun e => by
        subst e
        unfold rfx at h
        rw [if_pos rfl] at h
        have := hy0 i
        omega
      have h' : y n = 0 := by
        unfold rfx at h
        rw [if_neg (fun e => hin e.symm)] at h
        exact h
      rw [hs y i h'] at hp
      rw [hr y i h']
      exact RTp.up y i (ih h') (by omega) hp
/-- how many of a height -/
def HC (M : Nat → Nat → Int) (n h k : Nat) : Prop := ∃ l : List (Nat → Int), l.Nodup ∧ (∀ x, x ∈ l ↔ RTp M n x ∧ sm n x = (h : Int)) ∧ k = l.length
theorem HC.uniq {M : Nat → Nat → Int} {n h k k' : Nat} (H : HC M n h k) (H' : HC M n h k') : k = k' := by
  haveI : DecidableEq (Nat → Int) := fun a b => Classical.propDecidable (a = b)
  obtain ⟨l, h1, h2, h3⟩ := H
  obtain ⟨l', g1, g2, g3⟩ := H'
  have a := php_list h1 (m := l') (fun x hx => (g2 x).mpr ((h2 x).mp hx))
  have b := php_list g1 (m := l) (fun x hx => (h2 x).mpr ((g2 x).mp hx))
  omega
theorem roo_nd {M : Nat → Nat → Int} {n t : Nat} {pos : Nat → Nat} (hI : Iso M n t pos) (f : List Nat → Bool) : (((rooT.getD t []).filter f).map (fun p => emb (tyK t) pos (veL p))).Nodup := by
  rw [List.nodup_iff_pairwise_ne, List.pairwise_map]
  refine List.Pairwise.imp ?_ (List.Pairwise.filter f (cntF hI.t0).2.2.1)
  intro p q hne h
  refine hne ?_
  have hpq : ∀ j, j < tyK t → p.getD j 0 = q.getD j 0 := fun j hj => by
    have := congrFun h (pos j)
    rw [emb_at hI.inj hj, emb_at hI.inj hj] at this
    unfold veL at this
    omega
  unfold rcd
  have : ∀ K, K ≤ tyK t → smN K (fun j => p.getD j 0 * 16 ^ j) = smN K (fun j => q.getD j 0 * 16 ^ j) := fun K => by
    induction K with
    | zero => intro _; rfl
    | succ K ih => intro hK; rw [smN, smN, ih (by omega), hpq K (by omega)]
  exact this _ (Nat.le_refl _)
theorem cnt_split {M : Nat → Nat → Int} {last t m : Nat} {pos : Nat → Nat} (hM : MOk M (last + 1)) (hI : Iso M (last + 1) t pos) (hm : m < tyK t) (hml : pos m = last) (hmax : ∀ x, x < last + 1 → (∀ a, a < tyK t → pos a ≠ x) → ∀ a, a < tyK t → M x (pos a) = 0) {h N : Nat} (H : HC M (last + 1) h N) : ∃ z, N = cX t h + z ∧ HC M last h (cY t m h + z) := by
  haveI hdec : DecidableEq (Nat → Int) := fun a b => Classical.propDecidable (a = b)
  haveI hd2 : DecidablePred (fun x : Nat → Int => ∀ a, a < tyK t → x (pos a) = 0) := fun x => Classical.propDecidable _
  obtain ⟨l, h1, h2, h3⟩ := H
  obtain ⟨lz, hlz⟩ : ∃ lz, lz = l.filter (fun x => decide (∀ a, a < tyK t → x (pos a) = 0)) := ⟨_, rfl⟩
  have hzm : ∀ x, x ∈ lz ↔ (RTp M (last + 1) x ∧ sm (last + 1) x = (h : Int)) ∧ ∀ a, a < tyK t → x (pos a) = 0 := fun x => by
    rw [hlz, List.mem_filter, h2, decide_eq_true_eq]
  have hznd : lz.Nodup := by rw [hlz]; exact List.Pairwise.filter _ h1
  have hrp : ∀ p, p ∈ rooT.getD t [] → ∃ a, a < tyK t ∧ emb (tyK t) pos (veL p) (pos a) ≠ 0 := fun p hp => by
    refine Classical.byContradiction fun q => ?_
    have h0 : ∀ a, a < tyK t → veL p a = 0 := fun a ha => Classical.byContradiction fun z => q ⟨a, ha, by rw [emb_at hI.inj ha]; exact z⟩
    have a := (cntF hI.t0).2.1 p hp
    have b := veL_sm t p
    rw [sm_zero h0] at b
    omega
  have app : ∀ f : List Nat → Bool, (((rooT.getD t []).filter f).map (fun p => emb (tyK t) pos (veL p)) ++ lz).Nodup := fun f => by
    rw [List.nodup_append]
    refine ⟨roo_nd hI f, hznd, fun a ha b hb e => ?_⟩
    obtain ⟨p, hp, rfl⟩ := List.mem_map.mp ha
    obtain ⟨c, hc, hne⟩ := hrp p (List.mem_filter.mp hp).1
    rw [← e] at hb
    exact hne (((hzm _).mp hb).2 c hc)
  refine ⟨lz.length, ?_, ((rooT.getD t []).filter (fun p => Nat.beq (hgN t p) h && Nat.beq (p.getD m 0) 0)).map (fun p => emb (tyK t) pos (veL p)) ++ lz, app _, fun x => ?_, ?_⟩
  · have e : ∀ x, x ∈ l ↔ x ∈ ((rooT.getD t []).filter (fun p => Nat.beq (hgN t p) h)).map (fun p => emb (tyK t) pos (veL p)) ++ lz := fun x => by
      rw [h2, List.mem_append, hzm]
      constructor
      · rintro ⟨a, b⟩
        rcases rt_split hM hI hmax a with ⟨p, hp, rfl⟩ | h0
        · left
          rw [emb_sm hI] at b
          exact List.mem_map.mpr ⟨p, List.mem_filter.mpr ⟨hp, Nat.beq_eq.mpr (by omega)⟩, rfl⟩
        · exact Or.inr ⟨⟨a, b⟩, h0⟩
      · rintro (q | q)
        · obtain ⟨p, hp, rfl⟩ := List.mem_map.mp q
          obtain ⟨hp1, hp2⟩ := List.mem_filter.mp hp
          refine ⟨emb_rt hI hM.z _ p (Nat.le_refl _) hp1, ?_⟩
          rw [emb_sm hI, Nat.beq_eq.mp hp2]
        · exact q.1
    have a := php_list h1 (fun x hx => (e x).mp hx)
    have b := php_list (app (fun p => Nat.beq (hgN t p) h)) (fun x hx => (e x).mpr hx)
    rw [List.length_append, List.length_map] at a b
    unfold cX
    omega
  · rw [List.mem_append, hzm, rt_low (M := M) (n := last) (x := x)]
    have hse : x last = 0 → sm last x = sm (last + 1) x := fun q => by rw [sm, q, Int.add_zero]
    constructor
    · rintro (q | ⟨⟨q1, q2⟩, q3⟩)
      · obtain ⟨p, hp, rfl⟩ := List.mem_map.mp q
        obtain ⟨hp1, hp2⟩ := List.mem_filter.mp hp
        simp only [Bool.and_eq_true] at hp2
        have h0 : emb (tyK t) pos (veL p) last = 0 := by
          rw [← hml, emb_at hI.inj hm]
          unfold veL
          rw [Nat.beq_eq.mp hp2.2]
          rfl
        exact ⟨⟨emb_rt hI hM.z _ p (Nat.le_refl _) hp1, h0⟩, by rw [hse h0, emb_sm hI, Nat.beq_eq.mp hp2.1]⟩
      · have h0 : x last = 0 := by rw [← hml]; exact q3 m hm
        exact ⟨⟨q1, h0⟩, by rw [hse h0]; exact q2⟩
    · rintro ⟨⟨q1, q2⟩, q3⟩
      rw [hse q2] at q3
      rcases rt_split hM hI hmax q1 with ⟨p, hp, rfl⟩ | h0
      · left
        rw [← hml, emb_at hI.inj hm] at q2
        unfold veL at q2
        rw [emb_sm hI] at q3
        refine List.mem_map.mpr ⟨p, List.mem_filter.mpr ⟨hp, ?_⟩, rfl⟩
        simp only [Bool.and_eq_true]
        exact ⟨Nat.beq_eq.mpr (by omega), Nat.beq_eq.mpr (by omega)⟩
      · exact Or.inr ⟨⟨q1, q3⟩, h0⟩
  · rw [List.length_append, List.length_map]
    rfl
/-- an ending set as what its components make -/
theorem comps_of {M : Nat → Nat → Int} {n : Nat} (hM : MOk M n) (hn : n ≤ 6) (hU : NoB M n) : ∃ cs : List (Nat × (Nat → Nat)), (∀ c, c ∈ cs → Maxi M n c) ∧ cs.Pairwise (fun c d => ∀ a b, a < tyK c.1 → b < tyK d.1 → c.2 a ≠ d.2 b) ∧ ∀ i, i < n → ∃ c, c ∈ cs ∧ ∃ a, a < tyK c.1 ∧ c.2 a = i := by
  obtain ⟨cs, h1, h2, h3⟩ := decomp hM hn hU n (Nat.le_refl n)
  refine ⟨cs, h1, ?_, fun i hi => mem_cov.mp (h3 i hi)⟩
  rw [List.nodup_iff_pairwise_ne, List.pairwise_flatMap] at h2
  refine List.Pairwise.imp ?_ h2.2
  intro c d q a b ha hb
  exact q (c.2 a) (List.mem_map.mpr ⟨a, List.mem_range.mpr ha, rfl⟩) (d.2 b) (List.mem_map.mpr ⟨b, List.mem_range.mpr hb, rfl⟩)
def cRt (c : Nat × (Nat → Nat)) : List (Nat → Int) := (rooT.getD c.1 []).map (fun p => emb (tyK c.1) c.2 (veL p))
theorem comps_mem {M : Nat → Nat → Int} {n : Nat} (hM : MOk M n) {cs : List (Nat × (Nat → Nat))} (h1 : ∀ c, c ∈ cs → Maxi M n c) (h3 : ∀ i, i < n → ∃ c, c ∈ cs ∧ ∃ a, a < tyK c.1 ∧ c.2 a = i) {x : Nat → Int} : x ∈ cs.flatMap cRt ↔ RTp M n x := by
  constructor
  · intro h
    obtain ⟨c, hc, h⟩ := List.mem_flatMap.mp h
    obtain ⟨p, hp, rfl⟩ := List.mem_map.mp h
    exact emb_rt (h1 c hc).iso hM.z _ p (Nat.le_refl _) hp
  · intro hx
    refine hx.ind (P := fun x => x ∈ cs.flatMap cRt) (fun i hi => ?_) (fun x i hx hi hp ih => ?_)
    · obtain ⟨c, hc, a, ha, rfl⟩ := h3 i hi
      obtain ⟨q, hq, hq2⟩ := (rooF (h1 c hc).iso.t0).2.1 a ha
      exact List.mem_flatMap.mpr ⟨c, hc, List.mem_map.mpr ⟨q, hq, emb_unit (h1 c hc).iso ha hq2⟩⟩
    · obtain ⟨c, hc, h⟩ := List.mem_flatMap.mp ih
      obtain ⟨p, hp2, rfl⟩ := List.mem_map.mp h
      have hI := (h1 c hc).iso
      by_cases hin : ∃ a, a < tyK c.1 ∧ c.2 a = i
      · obtain ⟨a, ha, rfl⟩ := hin
        rcases ((rooF hI.t0).2.2 p hp2).2 a ha with h5 | ⟨q, hq, hq2⟩
        · rw [emb_unit hI ha h5, prg_own hi (hM.z _ hi)] at hp
          omega
        · exact List.mem_flatMap.mpr ⟨c, hc, List.mem_map.mpr ⟨q, hq, (rfx_emb hI ha hq2).symm⟩⟩
      · exfalso
        have ho : ∀ b, b < tyK c.1 → c.2 b ≠ i := fun b hb e => hin ⟨b, hb, e⟩
        unfold prg at hp
        rw [sm_emb hI.lt, emb_out ho, sm_zero (fun b hb => by rw [(h1 c hc).mx i hi ho b hb]; omega)] at hp
        omega
theorem comps_nd {M : Nat → Nat → Int} {n : Nat} {cs : List (Nat × (Nat → Nat))} (h1 : ∀ c, c ∈ cs → Maxi M n c) (h2 : cs.Pairwise (fun c d => ∀ a b, a < tyK c.1 → b < tyK d.1 → c.2 a ≠ d.2 b)) : (cs.flatMap cRt).Nodup := by
  rw [List.nodup_iff_pairwise_ne, List.pairwise_flatMap]
  refine ⟨fun c hc => ?_, List.Pairwise.imp_of_mem ?_ h2⟩
  · have h := roo_nd (h1 c hc).iso (fun _ => true)
    rw [List.filter_eq_self.mpr (fun _ _ => rfl)] at h
    exact List.nodup_iff_pairwise_ne.mp h
  · intro c d hc hd q x hx y hy e
    obtain ⟨p, hp, rfl⟩ := List.mem_map.mp hx
    obtain ⟨p', hp', e'⟩ := List.mem_map.mp hy
    have hI := (h1 c hc).iso
    have a := (cntF hI.t0).2.1 p hp
    have b := veL_sm c.1 p
    rw [sm_zero (fun a ha => by
      have h := congrFun (e.trans e'.symm) (c.2 a)
      rw [emb_at hI.inj ha, emb_out (fun b hb z => q a b ha hb z.symm)] at h
      exact h)] at b
    omega
theorem comps_cnt {M : Nat → Nat → Int} {n h : Nat} : ∀ {cs : List (Nat × (Nat → Nat))}, (∀ c, c ∈ cs → Maxi M n c) → ((cs.flatMap cRt).filter (fun x => decide (sm n x = (h : Int)))).length = (cs.map (fun c => cX c.1 h)).sum
  | [], _ => rfl
  | c :: r, h1 => by
    rw [List.flatMap_cons, List.filter_append, List.length_append, comps_cnt (fun d hd => h1 d (List.mem_cons_of_mem _ hd)), List.map_cons, List.sum_cons]
    congr 1
    unfold cRt cX
    rw [List.filter_map, List.length_map]
    congr 1
    refine List.filter_congr (fun p hp => ?_)
    have e := emb_sm (h1 c List.mem_cons_self).iso p
    show decide (sm n (emb (tyK c.1) c.2 (veL p)) = (h : Int)) = Nat.beq (hgN c.1 p) h
    rw [e]
    by_cases z : hgN c.1 p = h
    · rw [z, Nat.beq_refl]; exact decide_eq_true rfl
    · rw [b_ne z]; exact decide_eq_false (by omega)
theorem hc_ex {M : Nat → Nat → Int} {n : Nat} (hM : MOk M n) (hn : n ≤ 6) (hU : NoB M n) : ∃ cs : List (Nat × (Nat → Nat)), (∀ c, c ∈ cs → Maxi M n c) ∧ ∀ h, HC M n h ((cs.map (fun c => cX c.1 h)).sum) := by
  obtain ⟨cs, h1, h2, h3⟩ := comps_of hM hn hU
  refine ⟨cs, h1, fun h => ⟨(cs.flatMap cRt).filter (fun x => decide (sm n x = (h : Int))), List.Pairwise.filter _ (comps_nd h1 h2), fun x => ?_, (comps_cnt h1).symm⟩⟩
  rw [List.mem_filter, comps_mem hM h1 h3, decide_eq_true_eq]
theorem hc_mono {M : Nat → Nat → Int} {n h : Nat} (h0 : 1 ≤ h) (h12 : h ≤ 12) : ∀ {cs : List (Nat × (Nat → Nat))}, (∀ c, c ∈ cs → Maxi M n c) → (cs.map (fun c => cX c.1 (h + 1))).sum ≤ (cs.map (fun c => cX c.1 h)).sum
  | [], _ => Nat.le_refl _
  | c :: r, h1 => by
    rw [List.map_cons, List.sum_cons, List.map_cons, List.sum_cons]
    have a := hc_mono h0 h12 (fun d hd => h1 d (List.mem_cons_of_mem _ hd))
    have b := (cntF (h1 c List.mem_cons_self).iso.t0).1 h h0 h12
    omega
/-! products of powers -/
theorem pw_pos (N : Nat → Nat) : ∀ k, 0 < pw k N
  | 0 => Nat.one_pos
  | k + 1 => Nat.mul_pos (pw_pos N k) (Nat.pow_pos (by omega))
theorem pw_cg {N N' : Nat → Nat} : ∀ {k : Nat}, (∀ h, 1 ≤ h → h ≤ k → N h = N' h) → pw k N = pw k N'
  | 0, _ => rfl
  | k + 1, e => by rw [pw, pw, pw_cg (fun h a b => e h a (by omega)), e (k + 1) (by omega) (Nat.le_refl _)]
theorem pw_add (f g : Nat → Nat) : ∀ k, pw k (fun h => f h + g h) = pw k f * pw k g
  | 0 => rfl
  | k + 1 => by
    rw [pw, pw, pw, pw_add f g k, Nat.pow_add]
    simp only [Nat.mul_assoc, Nat.mul_left_comm, Nat.mul_comm]
theorem pw_sub {N : Nat → Nat} {k : Nat} (e : ∀ h, 1 ≤ h → h ≤ k → N (h + 1) ≤ N h) : pw k (fun h => N h - N (h + 1)) * pw k (fun h => N (h + 1)) = pw k N := by
  rw [← pw_add]
  exact pw_cg (fun h a b => by have := e h a b; omega)
theorem pw_key {U V O A B A' B' Z Z1 : Nat} (h1 : U * (B * Z1) = A * Z) (h2 : V * (B' * Z1) = A' * Z) (h3 : A * B' = O * (A' * B)) (p : 0 < B * Z1 * B') : U = V * O := by
  refine Nat.eq_of_mul_eq_mul_right p ?_
  calc U * (B * Z1 * B') = (U * (B * Z1)) * B' := (Nat.mul_assoc U (B * Z1) B').symm
    _ = (A * B') * Z := by rw [h1]; simp only [Nat.mul_assoc, Nat.mul_left_comm, Nat.mul_comm]
    _ = (O * B) * (A' * Z) := by rw [h3]; simp only [Nat.mul_assoc, Nat.mul_left_comm, Nat.mul_comm]
    _ = (O * B) * (V * (B' * Z1)) := by rw [h2]
    _ = V * O * (B * Z1 * B') := by simp only [Nat.mul_assoc, Nat.mul_left_comm, Nat.mul_comm]
def prI : Nat → (Nat → Int) → Int
  | 0, _ => 1
  | n + 1, o => prI n o * o n
theorem NoB.low {M : Nat → Nat → Int} {n k : Nat} (h : NoB M n) (hk : k ≤ n) : NoB M k := fun d pos hd lt => h d pos hd (fun a ha => Nat.lt_of_lt_of_le (lt a ha) hk)
theorem MOk.low {M : Nat → Nat → Int} {n k : Nat} (h : MOk M n) (hk : k ≤ n) : MOk M k := ⟨fun i hi => h.1 i (by omega), fun i j hi hj => h.2.1 i j (by omega) (by omega), fun i j hi hj => h.2.2.1 i j (by omega) (by omega), fun i j hi hj => h.2.2.2.1 i j (by omega) (by omega), fun i j hi hj => h.2.2.2.2 i j (by omega) (by omega)⟩
theorem cnt_all {M : Nat → Nat → Int} {n : Nat} (hM : MOk M n) (hn : n ≤ 6) (hU : NoB M n) {o : Nat → Int} (ho : ∀ i, i < n → OrbP M i (o i)) : ∀ q, q ≤ n → ∃ N : Nat → Nat, (∀ h, HC M q h (N h)) ∧ ((pw 11 (fun h => N h - N (h + 1)) : Nat) : Int) = prI q o := by
  intro q
  induction q with
  | zero =>
    intro _
    refine ⟨fun _ => 0, fun h => ⟨[], List.nodup_nil, fun x => ⟨fun q => (by cases q), fun q => ?_⟩, rfl⟩, by show ((pw 11 (fun h => 0 - 0) : Nat) : Int) = 1; decide⟩
    have := q.1.b.2.2
    rw [sm] at this
    omega
  | succ q ih =>
    intro hq
    obtain ⟨N, g1, g2⟩ := ih (by omega)
    have hM1 := hM.low hq
    have hU1 := hU.low hq
    obtain ⟨cs, c1, c2⟩ := hc_ex hM1 (by omega) hU1
    obtain ⟨ds, d1, d2⟩ := hc_ex (hM.low (show q ≤ n by omega)) (by omega) (hU.low (show q ≤ n by omega))
    obtain ⟨N1, hN1⟩ : ∃ f : Nat → Nat, f = fun h => (cs.map (fun c => cX c.1 h)).sum := ⟨_, rfl⟩
    have e1 : ∀ h, HC M (q + 1) h (N1 h) := fun h => by rw [hN1]; exact c2 h
    have m1 : ∀ h, 1 ≤ h → h ≤ 11 → N1 (h + 1) ≤ N1 h := fun h a b => by rw [hN1]; exact hc_mono a (by omega) c1
    have m2 : ∀ h, 1 ≤ h → h ≤ 11 → N (h + 1) ≤ N h := fun h a b => by
      rw [(g1 h).uniq (d2 h), (g1 (h + 1)).uniq (d2 (h + 1))]
      exact hc_mono a (by omega) d1
    obtain ⟨t, pos, hI, -, ⟨m, hm, hml⟩, hmax⟩ := comp_of hM1 (by omega) hU1 (fun _ => True) (i := q) (by omega) trivial
    have hmax : ∀ x, x < q + 1 → (∀ a, a < tyK t → pos a ≠ x) → ∀ a, a < tyK t → M x (pos a) = 0 := fun x hx => hmax x hx trivial
    have hsp : ∀ h, ∃ z, N1 h = cX t h + z ∧ N h = cY t m h + z := fun h => by
      obtain ⟨z, z1, z2⟩ := cnt_split hM1 hI hm hml hmax (e1 h)
      exact ⟨z, z1, (g1 h).uniq z2⟩
    have hs1 : ∀ h, N1 h = cX t h + (N1 h - cX t h) := fun h => by obtain ⟨z, a, b⟩ := hsp h; omega
    have hs2 : ∀ h, N h = cY t m h + (N1 h - cX t h) := fun h => by obtain ⟨z, a, b⟩ := hsp h; omega
    have hO := (orb_tab hI hm hml hmax hM1.z).uniq (ho q (by omega))
    refine ⟨N1, e1, ?_⟩
    rw [prI, ← g2, ← hO, ← Int.natCast_mul]
    congr 1
    have a1 := pw_sub m1
    have a2 := pw_sub m2
    rw [show pw 11 N1 = pw 11 (cX t) * pw 11 (fun h => N1 h - cX t h) by rw [← pw_add]; exact pw_cg (fun h _ _ => hs1 h), show pw 11 (fun h => N1 (h + 1)) = pw 11 (fun h => cX t (h + 1)) * pw 11 (fun h => N1 (h + 1) - cX t (h + 1)) by rw [← pw_add]; exact pw_cg (fun h _ _ => hs1 (h + 1))] at a1
    rw [show pw 11 N = pw 11 (cY t m) * pw 11 (fun h => N1 h - cX t h) by rw [← pw_add]; exact pw_cg (fun h _ _ => hs2 h), show pw 11 (fun h => N (h + 1)) = pw 11 (fun h => cY t m (h + 1)) * pw 11 (fun h => N1 (h + 1) - cX t (h + 1)) by rw [← pw_add]; exact pw_cg (fun h _ _ => hs2 (h + 1))] at a2
    exact pw_key a1 a2 (orbF hI.t0 hm).1 (Nat.mul_pos (Nat.mul_pos (pw_pos _ _) (pw_pos _ _)) (pw_pos _ _))
end
section
/-! what count answers -/
def CountP (M : Nat → Nat → Int) (n : Nat) (r : Int) : Prop := (r = -2 ∧ ∀ L, ¬ EndL M n L) ∨ ((∃ L, EndL M n L) ∧ ∃ N : Nat → Nat, (∀ h, 1 ≤ h → h ≤ 12 → HC M n h (N h)) ∧ r = ((pw 11 (fun h => N h - N (h + 1)) : Nat) : Int))
theorem CountP.uniq {M : Nat → Nat → Int} {n : Nat} {r r' : Int} (h : CountP M n r) (h' : CountP M n r') : r = r' := by
  rcases h with ⟨h1, h2⟩ | ⟨⟨L, h1⟩, N, h2, h3⟩
  · rcases h' with ⟨g1, -⟩ | ⟨⟨L, g1⟩, -⟩
    · omega
    · exact absurd g1 (h2 L)
  · rcases h' with ⟨-, g2⟩ | ⟨-, N', g2, g3⟩
    · exact absurd h1 (g2 L)
    · rw [h3, g3]
      congr 1
      exact pw_cg (fun k a b => by rw [(h2 k a (by omega)).uniq (g2 k a (by omega)), (h2 (k + 1) (by omega) (by omega)).uniq (g2 (k + 1) (by omega) (by omega))])
theorem HC.cg {M M' : Nat → Nat → Int} {n : Nat} (e : ∀ i j, i < n → j < n → M' i j = M i j) {h k : Nat} (H : HC M n h k) : HC M' n h k := by
  have e2 : ∀ i j, i < n → j < n → M i j = M' i j := fun i j hi hj => (e i j hi hj).symm
  obtain ⟨l, h2, h3, h4⟩ := H
  exact ⟨l, h2, fun x => (h3 x).trans ⟨fun q => ⟨q.1.cg e, q.2⟩, fun q => ⟨q.1.cg e2, q.2⟩⟩, h4⟩
theorem CountP.cg {M M' : Nat → Nat → Int} {n : Nat} (e : ∀ i j, i < n → j < n → M' i j = M i j) {r : Int} (h : CountP M n r) : CountP M' n r := by
  have e2 : ∀ i j, i < n → j < n → M i j = M' i j := fun i j hi hj => (e i j hi hj).symm
  rcases h with ⟨h1, h2⟩ | ⟨⟨L, h1⟩, N, h2, h3⟩
  · exact Or.inl ⟨h1, fun L hL => h2 L (hL.cg e2)⟩
  · exact Or.inr ⟨⟨L, h1.cg e⟩, N, fun h a b => (h2 h a b).cg e, h3⟩
def FAL (F : Int → Int) (k : Nat) : Nat := ((F ((k : Int) + 1) - F (k : Int)) - (F ((k : Int) + 1 + 1) - F ((k : Int) + 1))).toNat
theorem cw_in {F : Int → Int} {h w f : Int} (h1 : 1 ≤ h) (hw : w = ((pw (h - 1).toNat (FAL F) : Nat) : Int)) (hf : f = (F (h + 1) - F h) - (F (h + 1 + 1) - F (h + 1))) : w * (((h.toNat + 1) ^ f.toNat : Nat) : Int) = ((pw h.toNat (FAL F) : Nat) : Int) := by
  rw [hw, ← Int.natCast_mul, show h.toNat = (h - 1).toNat + 1 by omega, pw, show FAL F ((h - 1).toNat + 1) = f.toNat by unfold FAL; rw [show (((h - 1).toNat + 1 : Nat) : Int) = h by omega, hf]]
theorem cw_st {F : Int → Int} {h w f : Int} (h1 : 1 ≤ h) (hf : 0 < f) (hw : w * (((h.toNat + 1) ^ f.toNat : Nat) : Int) = ((pw h.toNat (FAL F) : Nat) : Int)) : w * (h + 1) * (((h.toNat + 1) ^ (f - 1).toNat : Nat) : Int) = ((pw h.toNat (FAL F) : Nat) : Int) := by
  rw [← hw, Int.mul_assoc, show (h + 1 : Int) = ((h.toNat + 1 : Nat) : Int) by omega, ← Int.natCast_mul, show f.toNat = (f - 1).toNat + 1 by omega, Nat.pow_succ, Nat.mul_comm (h.toNat + 1) ((h.toNat + 1) ^ (f - 1).toNat)]
theorem cw_out {F : Int → Int} {h w f : Int} (hf : f ≤ 0) (hw : w * (((h.toNat + 1) ^ f.toNat : Nat) : Int) = ((pw h.toNat (FAL F) : Nat) : Int)) : w = ((pw h.toNat (FAL F) : Nat) : Int) := by
  rw [show f.toNat = 0 by omega, Nat.pow_zero] at hw
  rw [← hw]
  exact (Int.mul_one w).symm
theorem cls_count {S W : wSt} (hC : CI S) (f : Fr fRt S W) (hF : RLI W) (hX : RLXp (mxz (S 5 16)) (S 3 16 2).toNat W) {r : Int} (hor : (0 ≤ r ∧ r ≤ 400) ∧ 12 ≤ W 12 0 4 ∧ NoB (mxz (S 5 16)) (S 3 16 2).toNat ∧ r = W 15 0 12) : CountP (kM S) (kn S) ((pw 11 (FAL (W 15 0)) : Nat) : Int) := by
  obtain ⟨h1, h2, h3, h4⟩ := hor
  have hT := (cls_enm hC f hF hX).2
  have hn := hC.n
  have h0 := hF.1
  obtain ⟨L, hL⟩ := roots_of2 hC.set.mok (by omega) h3
  have hL : EndL (mxz (S 5 16)) (S 3 16 2).toNat L := hL
  have hmo : ∀ h : Nat, 1 ≤ h → h ≤ 12 → 0 ≤ W 15 0 ((h : Int) + 1) - W 15 0 (h : Int) := fun h a b => by
    have := hT.mono (q := (h : Int)) (r := (h : Int) + 1) (by omega) (by omega) (by omega)
    omega
  refine Or.inr ⟨⟨L, hL.cg kM_cg⟩, fun h => (W 15 0 ((h : Int) + 1) - W 15 0 (h : Int)).toNat, fun h a b => ?_, ?_⟩
  · have hr := (cls_roots hC f hF hX (a := (h : Int)) (by omega) (by omega)).2 (by omega) (by omega)
    have := hmo h a b
    rcases hr with ⟨q, -⟩ | ⟨-, l, l1, l2, l3⟩
    · omega
    · exact ⟨l, l1, l2, by dsimp only; omega⟩
  · congr 1
    refine pw_cg (fun h a b => ?_)
    unfold FAL
    dsimp only
    have a1 := hmo h a (by omega)
    have a2 := hmo (h + 1) (by omega) (by omega)
    have e9 : (((h + 1 : Nat)) : Int) = (h : Int) + 1 := by omega
    rw [e9] at a2 ⊢
    omega
theorem cls_countN {S : wSt} (h : ∀ L, ¬ EndL (mxz (S 5 16)) (S 3 16 2).toNat L) : CountP (kM S) (kn S) (-2) := CountP.cg kM_cg (Or.inl ⟨rfl, h⟩)
/-! the reference: all that a weight becomes -/
theorem weights_rc {M : Nat → Nat → Int} {n : Nat} (hM : MOk M n) (hn : n ≤ 6) (hU : NoB M n) {last : Nat} (hl : last < n) : ∃ W, WLi M last W ∧ ∀ w, w ∈ W → WRc M last w := by
  haveI : DecidablePred (fun w : Nat → Int => WRc M last w) := fun w => Classical.propDecidable _
  obtain ⟨W, h1, h2, h3, h4, h5⟩ := weights_of hM hn hU hl
  have hm : ∀ w, w ∈ W.filter (fun w => decide (WRc M last w)) ↔ w ∈ W ∧ WRc M last w := fun w => by rw [List.mem_filter, decide_eq_true_eq]
  refine ⟨W.filter (fun w => decide (WRc M last w)), ⟨Nat.le_trans (List.length_filter_le _ _) h1, (hm _).mpr ⟨h2, WRc.own⟩, fun w hw i hi => ?_, fun w hw => h4 w ((hm w).mp hw).1, fun w hw => h5 w ((hm w).mp hw).1⟩, fun w hw => ((hm w).mp hw).2⟩
  exact (hm _).mpr ⟨h3 w ((hm w).mp hw).1 i hi, ((hm w).mp hw).2.st hi⟩
theorem orb_eq {mt f f' : Int → Int} {n i a many b : Int} (hz : ∀ b, a.toNat < b → v6 f n b = 0) (a0 : 0 ≤ a) (a1 : a < 6) (i0 : 0 ≤ i) (i1 : i ≤ a) (hb : b = f (6 * n + i)) (h : ∀ k, 0 ≤ k → k < 6 → f' (6 * many + k) = f (6 * n + k) + (if a < k then 0 else if k = i then -2 * b else b * mt (6 * k + i))) : v6 f' many = wim (mxz mt) a.toNat (v6 f n) i.toNat := by
  funext k
  unfold wim
  by_cases e : k < 6
  · rw [v6_at _ _ e, v6_at _ _ e, v6_at _ _ (by omega), h _ (by omega) (by omega), Int.toNat_of_nonneg i0, ← hb]
    by_cases q : k ≤ a.toNat
    · rw [if_pos q, if_neg (by omega)]
      by_cases q2 : k = i.toNat
      · rw [if_pos q2, if_pos (by omega)]
        have : (k : Int) = i := by omega
        rw [this, ← hb]
        omega
      · rw [if_neg q2, if_neg (by omega)]
        unfold mxz
        rw [Int.toNat_of_nonneg i0]
    · rw [if_neg q, if_pos (by omega)]
      have := hz k (by omega)
      rw [v6_at _ _ e] at this
      omega
  · rw [if_neg (by omega)]
    exact if_neg e
def ORC (M : Nat → Nat → Int) (last : Nat) (f : Int → Int) (many n i : Int) : Prop := (∃ q, (0 ≤ q ∧ q < many) ∧ v6 f q = ownV last) ∧ ∀ (p : Int) (j : Nat), 0 ≤ p → p < many → j ≤ last → (p < n ∨ (p = n ∧ (j : Int) < i)) → ∃ q, (0 ≤ q ∧ q < many) ∧ v6 f q = wim M last (v6 f p) j
theorem ORC.keep {M : Nat → Nat → Int} {last : Nat} {f f' : Int → Int} {many n i : Int} (h : ORC M last f many n i) (hf : ∀ j, 0 ≤ j → j < 6 * many → f' j = f j) : ORC M last f' many n i := by
  have e : ∀ p, 0 ≤ p → p < many → v6 f' p = v6 f p := fun p p0 p1 => v6_eq (fun k k0 k1 => hf _ (by omega) (by omega))
  refine ⟨?_, fun p j p0 p1 hj hc => ?_⟩
  · obtain ⟨q, q0, q1⟩ := h.1
    exact ⟨q, q0, by rw [e q q0.1 q0.2]; exact q1⟩
  · obtain ⟨q, q0, q1⟩ := h.2 p j p0 p1 hj hc
    exact ⟨q, q0, by rw [e q q0.1 q0.2, e p p0 p1]; exact q1⟩
theorem ORC.row {M : Nat → Nat → Int} {last : Nat} {f : Int → Int} {many n i : Int} (h : ORC M last f many n i) (hi : (last : Int) < i) : ORC M last f many (n + 1) 0 := ⟨h.1, fun p j p0 p1 hj hc => h.2 p j p0 p1 hj (by omega)⟩
theorem ORC.known {M : Nat → Nat → Int} {last : Nat} {f : Int → Int} {many n i : Int} (h : ORC M last f many n i) (i0 : 0 ≤ i) (hq : ∃ q, (0 ≤ q ∧ q < many) ∧ v6 f q = wim M last (v6 f n) i.toNat) : ORC M last f many n (i + 1) := ⟨h.1, fun p j p0 p1 hj hc => by
  by_cases c : p = n ∧ (j : Int) = i
  · obtain ⟨rfl, rfl⟩ := c
    exact hq
  · exact h.2 p j p0 p1 hj (by omega)⟩
theorem ORC.add {M : Nat → Nat → Int} {last : Nat} {f f' : Int → Int} {many n i : Int} (h : ORC M last f many n i) (i0 : 0 ≤ i) (n0 : 0 ≤ n) (n1 : n < many) (hf : ∀ j, 0 ≤ j → j < 6 * many → f' j = f j) (hq : v6 f' many = wim M last (v6 f n) i.toNat) : ORC M last f' (many + 1) n (i + 1) := by
  have e : ∀ p, 0 ≤ p → p < many → v6 f' p = v6 f p := fun p p0 p1 => v6_eq (fun k k0 k1 => hf _ (by omega) (by omega))
  have h' := h.keep hf
  refine ⟨?_, fun p j p0 p1 hj hc => ?_⟩
  · obtain ⟨q, q0, q1⟩ := h'.1
    exact ⟨q, by omega, q1⟩
  · by_cases c : p = n ∧ (j : Int) = i
    · obtain ⟨rfl, rfl⟩ := c
      exact ⟨many, by omega, by rw [e p p0 n1]; exact hq⟩
    · obtain ⟨q, q0, q1⟩ := h'.2 p j p0 (by omega) hj (by omega)
      exact ⟨q, by omega, q1⟩
theorem ORC.fin {M : Nat → Nat → Int} {last : Nat} {f : Int → Int} {many n : Int} {L : List (Nat → Int)} (h : ORC M last f many n 0) (hn : many ≤ n) (hW : WK L f many) (hL : ∀ w, w ∈ L → WRc M last w) (m0 : 0 ≤ many) : OrbP M last many := by
  refine ⟨enl (v6 f) many, enl_nd hW.2, fun w => ⟨fun hw => ?_, fun hw => ?_⟩, (enl_len _ m0).symm⟩
  · obtain ⟨a, a0, rfl⟩ := enl_mem.mp hw
    exact hL _ (hW.1 a a0.1 a0.2)
  · refine hw.ind (enl_mem.mpr h.1) (fun w i _ hw hi => ?_)
    obtain ⟨a, a0, rfl⟩ := enl_mem.mp hw
    exact enl_mem.mpr (h.2 a i a0.1 a0.2 hi (Or.inl (by omega)))
def PRO (M : Nat → Nat → Int) (i : Nat) (z : Int) : Prop := ∃ o : Nat → Int, (∀ j, j < i → OrbP M j (o j)) ∧ z = prI i o
theorem PRO.z {M : Nat → Nat → Int} : PRO M 0 1 := ⟨fun _ => 0, fun j hj => by omega, rfl⟩
theorem prI_cg {o o' : Nat → Int} : ∀ {n : Nat}, (∀ i, i < n → o i = o' i) → prI n o = prI n o'
  | 0, _ => rfl
  | n + 1, h => by rw [prI, prI, prI_cg (fun i hi => h i (by omega)), h n (by omega)]
theorem PRO.s {M : Nat → Nat → Int} {i z r : Int} (h : PRO M i.toNat z) (i0 : 0 ≤ i) (hr : OrbP M i.toNat r) : PRO M (i + 1).toNat (z * r) := by
  obtain ⟨o, h1, h2⟩ := h
  refine ⟨fun j => if j < i.toNat then o j else r, fun j hj => ?_, ?_⟩
  · dsimp only
    by_cases c : j < i.toNat
    · rw [if_pos c]; exact h1 j c
    · rw [if_neg c, show j = i.toNat by omega]; exact hr
  · rw [show (i + 1).toNat = i.toNat + 1 by omega, prI, if_neg (by omega), h2]
    congr 1
    exact prI_cg (fun j hj => by rw [if_pos hj])
theorem ref_count {S : wSt} (hS : sOK (S 30 0 0) (S 41 0) (S 42 0)) {z : Int} (hU : NoB (mxz (S 42 0)) (S 30 0 0).toNat) (h : PRO (mxz (S 42 0)) (S 30 0 0).toNat z) : CountP (rM S) (rn S) z := by
  have hn := hS.1
  obtain ⟨o, h1, h2⟩ := h
  obtain ⟨N, g1, g2⟩ := cnt_all hS.mok (by omega) hU h1 _ (Nat.le_refl _)
  obtain ⟨L, hL⟩ := roots_of2 hS.mok (by omega) hU
  exact CountP.cg rM_cg (Or.inr ⟨⟨L, hL⟩, N, fun h _ _ => g1 h, by rw [h2, ← g2]⟩)
theorem ref_countN {S : wSt} (h : ∀ L, ¬ RLi (mxz (S 42 0)) (S 30 0 0).toNat L) : CountP (rM S) (rn S) (-2) := CountP.cg rM_cg (Or.inl ⟨rfl, fun L hL => h L hL.1⟩)
end
