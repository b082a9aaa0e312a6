theorem blt_self (k : Nat) : Nat.blt k k = false := by
  cases h : Nat.blt k k
  · rfl
  · have := Nat.blt_eq.mp h; omega
theorem smN_c (n : Nat) (f : Nat → Nat) : ((smN n f : Nat) : Int) = sm n (fun i => (f i : Int)) := by
  induction n with
  | zero => rfl
  | succ n ih => simp only [smN, sm]; rw [Int.natCast_add, ih]
def emb (k : Nat) (pos : Nat → Nat) (c : Nat → Int) : Nat → Int := fun x => sm k (fun a => if pos a = x then c a else 0)
theorem emb_at {k : Nat} {pos : Nat → Nat} {c : Nat → Int} (inj : ∀ a b, a < k → b < k → pos a = pos b → a = b) {a : Nat} (ha : a < k) : emb k pos c (pos a) = c a := by
  unfold emb
  rw [sm_one ha (fun j hj hne => if_neg (fun e => hne (inj j a hj ha e)))]
  exact if_pos rfl
theorem emb_out {k : Nat} {pos : Nat → Nat} {c : Nat → Int} {x : Nat} (h : ∀ a, a < k → pos a ≠ x) : emb k pos c x = 0 := sm_zero (fun a ha => if_neg (h a ha))
theorem sm_emb {n k : Nat} {pos : Nat → Nat} {c : Nat → Int} (lt : ∀ a, a < k → pos a < n) (f : Nat → Int) : sm n (fun j => f j * emb k pos c j) = sm k (fun a => f (pos a) * c a) := by
  have e : sm n (fun j => f j * emb k pos c j) = sm n (fun j => sm k (fun a => f j * (if pos a = j then c a else 0))) := sm_congr (fun j _ => by unfold emb; rw [sm_mul])
  rw [e, sm_comm]
  refine sm_congr (fun a ha => ?_)
  rw [sm_one (lt a ha) (fun j _ hne => by rw [if_neg (fun e => hne e.symm)]; omega), if_pos rfl]
def MOk (M : Nat → Nat → Int) (n : Nat) : Prop := (∀ i, i < n → M i i = 0) ∧ (∀ i j, i < n → j < n → 0 ≤ M i j) ∧ (∀ i j, i < n → j < n → M i j ≤ 4) ∧ (∀ i j, i < n → j < n → M i j = 0 → M j i = 0) ∧ (∀ i j, i < n → j < n → M i j * M j i ≤ 4)
section PR
variable {M : Nat → Nat → Int} {n : Nat}
theorem MOk.z (h : MOk M n) : ∀ i, i < n → M i i = 0 := h.1
theorem MOk.nn (h : MOk M n) : ∀ i j, i < n → j < n → 0 ≤ M i j := h.2.1
theorem MOk.le (h : MOk M n) : ∀ i j, i < n → j < n → M i j ≤ 4 := h.2.2.1
theorem MOk.zz (h : MOk M n) : ∀ i j, i < n → j < n → M i j = 0 → M j i = 0 := h.2.2.2.1
theorem MOk.pr (h : MOk M n) : ∀ i j, i < n → j < n → M i j * M j i ≤ 4 := h.2.2.2.2
end PR
def Iso (M : Nat → Nat → Int) (n t : Nat) (pos : Nat → Nat) : Prop := t < 21 ∧ (∀ a, a < tyK t → pos a < n) ∧ (∀ a b, a < tyK t → b < tyK t → pos a = pos b → a = b) ∧ (∀ a b, a < tyK t → b < tyK t → M (pos a) (pos b) = tyM t a b)
section PR
variable {M : Nat → Nat → Int} {n t : Nat} {pos : Nat → Nat}
theorem Iso.t0 (h : Iso M n t pos) : t < 21 := h.1
theorem Iso.lt (h : Iso M n t pos) : ∀ a, a < tyK t → pos a < n := h.2.1
theorem Iso.inj (h : Iso M n t pos) : ∀ a b, a < tyK t → b < tyK t → pos a = pos b → a = b := h.2.2.1
theorem Iso.eq (h : Iso M n t pos) : ∀ a b, a < tyK t → b < tyK t → M (pos a) (pos b) = tyM t a b := h.2.2.2
end PR
/-- no bad set stands within a set -/
def NoB (M : Nat → Nat → Int) (n : Nat) : Prop := ∀ (d : Nat) (pos : Nat → Nat), d < 65 → (∀ a, a < bdK d → pos a < n) → (∀ a b, a < bdK d → b < bdK d → pos a = pos b → a = b) → (∀ a b, a < bdK d → b < bdK d → M (pos a) (pos b) = (bdN d a b : Int)) → False
theorem sub_no {M : Nat → Nat → Int} {n K d : Nat} {D : Nat → Nat → Nat} {ok : Nat → Bool} {s : List Nat} {pos : Nat → Nat} (hU : NoB M n) (lt : ∀ a, a < K → pos a < n) (inj : ∀ a b, a < K → b < K → pos a = pos b → a = b) (h : subB d K D ok s = true) (hD : ∀ a b, a < K → b < K → ok a = true → ok b = true → M (pos a) (pos b) = (D a b : Int)) : False := by
  simp only [subB, Bool.and_eq_true] at h
  obtain ⟨h0, h1, h2, h3⟩ := h
  have h1 := fun a ha => Bool.and_eq_true_iff.mp (allN_e h1 a ha)
  refine hU d (fun a => pos (s.getD a 0)) (Nat.blt_eq.mp h0) (fun a ha => lt _ (Nat.blt_eq.mp (h1 a ha).1)) (fun a b ha hb e => ?_) (fun a b ha hb => ?_)
  · have e2 := inj _ _ (Nat.blt_eq.mp (h1 a ha).1) (Nat.blt_eq.mp (h1 b hb).1) e
    have h5 := allN_e (allN_e h2 a ha) b hb
    simp only [Bool.or_eq_true, Nat.beq_eq, Bool.not_eq_true'] at h5
    rcases h5 with h5 | h5
    · exact h5
    · rw [e2, Nat.beq_refl] at h5; cases h5
  · show M (pos (s.getD a 0)) (pos (s.getD b 0)) = _
    rw [hD _ _ (Nat.blt_eq.mp (h1 a ha).1) (Nat.blt_eq.mp (h1 b hb).1) (h1 a ha).2 (h1 b hb).2, Nat.beq_eq.mp (allN_e (allN_e h3 a ha) b hb)]
/-- an edge of product 4 is bad -/
theorem edge4 {M : Nat → Nat → Int} {n : Nat} (hM : MOk M n) (hU : NoB M n) {v w : Nat} (hv : v < n) (hw : w < n) (hne : M v w ≠ 0) : ∃ o, o < 5 ∧ M v w = ((optT.getD o (0, 0)).1 : Int) ∧ M w v = ((optT.getD o (0, 0)).2 : Int) := by
  have vw : v ≠ w := fun e => hne (by rw [e]; exact hM.z w hw)
  have x0 := hM.nn v w hv hw
  have y0 := hM.nn w v hw hv
  have x4 := hM.le v w hv hw
  have y4 := hM.le w v hw hv
  have yn : M w v ≠ 0 := fun e => hne (hM.zz _ _ hw hv e)
  have pr := hM.pr v w hv hw
  have bad : ∀ (d p q : Nat), d < 65 → bdK d = 2 → p < n → q < n → p ≠ q → M p p = (bdN d 0 0 : Int) → M q q = (bdN d 1 1 : Int) → M p q = (bdN d 0 1 : Int) → M q p = (bdN d 1 0 : Int) → False := fun d p q hd hk hp hq hpq h1 h2 h3 h4 => by
    refine hU d (fun a => if a = 0 then p else q) hd (fun a ha => by show (if a = 0 then p else q) < n; split <;> assumption) (fun a b ha hb e => ?_) (fun a b ha hb => ?_)
    · rw [hk] at ha hb
      have e : (if a = 0 then p else q) = (if b = 0 then p else q) := e
      split at e <;> split at e <;> omega
    · rw [hk] at ha hb
      show M (if a = 0 then p else q) (if b = 0 then p else q) = _
      have ha2 : a = 0 ∨ a = 1 := by omega
      have hb2 : b = 0 ∨ b = 1 := by omega
      rcases ha2 with rfl | rfl <;> rcases hb2 with rfl | rfl <;> simp <;> assumption
  have zv := hM.z v hv
  have zw := hM.z w hw
  have hx : M v w = 1 ∨ M v w = 2 ∨ M v w = 3 ∨ M v w = 4 := by omega
  have hy : M w v = 1 ∨ M w v = 2 ∨ M w v = 3 ∨ M w v = 4 := by omega
  rcases hx with hx | hx | hx | hx <;> rcases hy with hy | hy | hy | hy
  · exact ⟨0, by decide, hx, hy⟩
  · exact ⟨1, by decide, hx, hy⟩
  · exact ⟨3, by decide, hx, hy⟩
  · exact (bad 1 v w (by decide) rfl hv hw vw zv zw hx hy).elim
  · exact ⟨2, by decide, hx, hy⟩
  · exact (bad 0 v w (by decide) rfl hv hw vw zv zw hx hy).elim
  · rw [hx, hy] at pr; omega
  · rw [hx, hy] at pr; omega
  · exact ⟨4, by decide, hx, hy⟩
  · rw [hx, hy] at pr; omega
  · rw [hx, hy] at pr; omega
  · rw [hx, hy] at pr; omega
  · exact (bad 1 w v (by decide) rfl hw hv (fun e => vw e.symm) zw zv hy hx).elim
  · rw [hx, hy] at pr; omega
  · rw [hx, hy] at pr; omega
  · rw [hx, hy] at pr; omega
theorem Iso.le {M : Nat → Nat → Int} {n t : Nat} {pos : Nat → Nat} (h : Iso M n t pos) : tyK t ≤ n := php h.lt h.inj
theorem two_no {M : Nat → Nat → Int} {n t : Nat} {pos : Nat → Nat} (hM : MOk M n) (hU : NoB M n) (hI : Iso M n t pos) {v : Nat} (hv : v < n) (p1 : Nat → Nat) (p1i : ∀ b, b < tyK t → p1 b = pos b) (p1v : p1 (tyK t) = v) (lt1 : ∀ b, b < tyK t + 1 → p1 b < n) (inj1 : ∀ b c, b < tyK t + 1 → c < tyK t + 1 → p1 b = p1 c → b = c) {b c : Nat} (hb : b < tyK t) (hc : c < b) (hnb : M v (pos b) ≠ 0) (hnc : M v (pos c) ≠ 0) (hcy : allN 5 (fun o => allN 5 (fun p => cycB t c b o p)) = true) (hmin : ∀ z, z < tyK t → z ≠ c → z ≠ b → inL z (pth t c b) = true → M v (pos z) = 0) : False := by
  have hcK : c < tyK t := by omega
  obtain ⟨o, ho, hx, hy⟩ := edge4 hM hU hv (hI.lt c hcK) hnc
  obtain ⟨p, hp, hz, hw⟩ := edge4 hM hU hv (hI.lt b hb) hnb
  have h := allN_e (allN_e hcy o ho) p hp
  simp only [cycB] at h
  have bne : ∀ {x y : Nat}, x ≠ y → Nat.beq x y = false := fun {x y} h => by cases h9 : Nat.beq x y; rfl; exact absurd (Nat.beq_eq.mp h9) h
  refine sub_no hU lt1 inj1 h (fun i j hi hj oi oj => ?_)
  unfold ex2N
  have nodeC : ∀ z, z < tyK t → (Nat.beq z (tyK t) || inL z (pth t c b)) = true → inL z (pth t c b) = true := fun z hz h => by
    rw [bne (by omega)] at h
    simpa using h
  by_cases e1 : i < tyK t <;> by_cases e2 : j < tyK t
  · rw [show (Nat.blt i (tyK t) && Nat.blt j (tyK t)) = true by rw [Nat.blt_eq.mpr e1, Nat.blt_eq.mpr e2]; rfl]
    rw [p1i i e1, p1i j e2, hI.eq i j e1 e2]
    rfl
  · have ej : j = tyK t := by omega
    subst ej
    rw [blt_self, Bool.and_false, bne (show i ≠ tyK t by omega), Nat.beq_refl]
    simp only [cond_false, cond_true]
    rw [p1i i e1, p1v]
    have oi := nodeC i e1 oi
    by_cases q1 : i = c
    · rw [q1, Nat.beq_refl, cond_true, hy]
    · by_cases q2 : i = b
      · rw [q2, bne (show b ≠ c by omega), cond_false, Nat.beq_refl, cond_true, hw]
      · rw [bne q1, cond_false, bne q2, cond_false, hM.zz _ _ hv (hI.lt i e1) (hmin i e1 q1 q2 oi)]
        rfl
  · have ei : i = tyK t := by omega
    subst ei
    rw [blt_self, Bool.false_and, Nat.beq_refl]
    simp only [cond_false, cond_true]
    rw [p1i j e2, p1v]
    have oj := nodeC j e2 oj
    by_cases q1 : j = c
    · rw [q1, Nat.beq_refl, cond_true, hx]
    · by_cases q2 : j = b
      · rw [q2, bne (show b ≠ c by omega), cond_false, Nat.beq_refl, cond_true, hz]
      · rw [bne q1, cond_false, bne q2, cond_false, hmin j e2 q1 q2 oj]
        rfl
  · have ei : i = tyK t := by omega
    have ej : j = tyK t := by omega
    subst ei
    rw [ej, blt_self, Bool.false_and, Nat.beq_refl, bne (show tyK t ≠ c by omega), bne (show tyK t ≠ b by omega)]
    simp only [cond_false, cond_true]
    rw [p1v, hM.z v hv]
    rfl
theorem grow {M : Nat → Nat → Int} {n t : Nat} {pos : Nat → Nat} (hM : MOk M n) (hn : n ≤ 6) (hU : NoB M n) (hI : Iso M n t pos) {v : Nat} (hv : v < n) (hout : ∀ a, a < tyK t → pos a ≠ v) {a : Nat} (ha : a < tyK t) (hne : M v (pos a) ≠ 0) : ∃ (t' : Nat) (pos' : Nat → Nat), Iso M n t' pos' ∧ tyK t' = tyK t + 1 ∧ ∀ x, (∃ b, b < tyK t' ∧ pos' b = x) ↔ (x = v ∨ ∃ b, b < tyK t ∧ pos b = x) := by
  obtain ⟨p1, hp1⟩ : ∃ f : Nat → Nat, f = fun b => if b < tyK t then pos b else v := ⟨_, rfl⟩
  have p1i : ∀ b, b < tyK t → p1 b = pos b := fun b hb => by rw [hp1]; exact if_pos hb
  have p1v : p1 (tyK t) = v := by rw [hp1]; exact if_neg (by omega)
  have lt1 : ∀ b, b < tyK t + 1 → p1 b < n := fun b hb => by
    by_cases e : b < tyK t
    · rw [p1i b e]; exact hI.lt b e
    · rw [show b = tyK t by omega, p1v]; exact hv
  have inj1 : ∀ b c, b < tyK t + 1 → c < tyK t + 1 → p1 b = p1 c → b = c := fun b c hb hc e => by
    by_cases e1 : b < tyK t <;> by_cases e2 : c < tyK t
    · rw [p1i b e1, p1i c e2] at e; exact hI.inj b c e1 e2 e
    · rw [p1i b e1, show c = tyK t by omega, p1v] at e; exact absurd e (hout b e1)
    · rw [p1i c e2, show b = tyK t by omega, p1v] at e; exact absurd e.symm (hout c e2)
    · omega
  have hK : tyK t < 6 := by have := php lt1 inj1; omega
  have hK6 : Nat.ble 6 (tyK t) = false := by
    cases e : Nat.ble 6 (tyK t)
    · rfl
    · have := Nat.ble_eq.mp e; omega
  have hsym : ∀ c, c < tyK t → M v (pos c) = 0 → M (pos c) v = 0 := fun c hc e => hM.zz _ _ hv (hI.lt c hc) e
  have hp1K : ∀ c d, c < tyK t → d < tyK t → M (p1 c) (p1 d) = (tyN t c d : Int) := fun c d hc hd => by rw [p1i c hc, p1i d hd, hI.eq c d hc hd]; rfl
  have bne : ∀ {x y : Nat}, x ≠ y → Nat.beq x y = false := fun {x y} h => by cases h9 : Nat.beq x y; rfl; exact absurd (Nat.beq_eq.mp h9) h
  have blt1 : ∀ {x y : Nat}, x < y → Nat.blt x y = true := fun {x y} h => Nat.blt_eq.mpr h
  have two : ∀ (len b c : Nat), (pth t c b).length ≤ len → b < tyK t → c < b → M v (pos b) ≠ 0 → M v (pos c) ≠ 0 → False := by
    intro len
    induction len with
    | zero =>
      intro b c hl hb hc hnb hnc
      have hcy := allN_e cyc_ok t hI.t0
      simp only [hK6, Bool.false_or] at hcy
      have hcy := allN_e (allN_e hcy b hb) c hc
      simp only [Bool.and_eq_true] at hcy
      exact two_no hM hU hI hv p1 p1i p1v lt1 inj1 hb hc hnb hnc hcy.2 (fun z hz hz2 hz3 hz4 => by
        have := List.eq_nil_of_length_eq_zero (Nat.le_zero.mp hl)
        rw [this] at hz4
        simp [inL] at hz4)
    | succ len ih =>
      intro b c hl hb hc hnb hnc
      have hcy := allN_e cyc_ok t hI.t0
      simp only [hK6, Bool.false_or] at hcy
      have hcy0 := fun b hb c hc => allN_e (allN_e hcy b hb) c hc
      have hcy := hcy0 b hb c hc
      simp only [Bool.and_eq_true] at hcy
      refine two_no hM hU hI hv p1 p1i p1v lt1 inj1 hb hc hnb hnc hcy.2 (fun z hz hz2 hz3 hz4 => Classical.byContradiction fun hnz => ?_)
      have hp := allN_e hcy.1 z hz
      rw [bne hz2, bne hz3, hz4] at hp
      simp only [Bool.false_or, Bool.not_true, Bool.and_eq_true, Nat.blt_eq] at hp
      have hz5 : z < b ∨ b < z := by omega
      by_cases q : z < b
      · exact ih b z (by omega) hb q hnb hnz
      · have hq : c < z := by omega
        exact ih z c (by omega) hz hq hnz hnc
  by_cases h2 : ∃ b, b < tyK t ∧ b ≠ a ∧ M v (pos b) ≠ 0
  · obtain ⟨b, hb, hba, hnb⟩ := h2
    rcases Nat.lt_or_gt_of_ne hba with q | q
    · exact (two _ a b (Nat.le_refl _) ha q hne hnb).elim
    · exact (two _ b a (Nat.le_refl _) hb q hnb hne).elim
  · have h0 : ∀ b, b < tyK t → b ≠ a → M v (pos b) = 0 := fun b hb hba => Classical.byContradiction fun h => h2 ⟨b, hb, hba, h⟩
    have h0' : ∀ b, b < tyK t → b ≠ a → M (pos b) v = 0 := fun b hb hba => hM.zz _ _ hv (hI.lt b hb) (h0 b hb hba)
    have ho := edge4 hM hU hv (hI.lt a ha) hne
    obtain ⟨o, ho8, hx, hy⟩ := ho
    have hg := allN_e gro_ok t hI.t0
    simp only [hK6, Bool.false_or] at hg
    have hg := allN_e (allN_e hg a ha) o ho8
    simp only [groB] at hg
    generalize (optT.getD o (0, 0)).1 = x at *
    generalize (optT.getD o (0, 0)).2 = y at *
    generalize ((groT.getD t []).getD a []).getD o (99, []) = q at *
    have hD : ∀ c d, c < tyK t + 1 → d < tyK t + 1 → (exN t a x y c d : Int) = M (p1 c) (p1 d) := by
      intro c d hc9 hd9
      unfold exN
      by_cases e1 : c < tyK t <;> by_cases e2 : d < tyK t
      · rw [show (Nat.blt c (tyK t) && Nat.blt d (tyK t)) = true by simp [Nat.blt_eq, e1, e2]]
        rw [p1i c e1, p1i d e2, hI.eq c d e1 e2]
        rfl
      · have ed : d = tyK t := by omega
        subst ed
        rw [blt_self, Bool.and_false]
        have : Nat.beq c (tyK t) = false := by cases h : Nat.beq c (tyK t); rfl; have := Nat.beq_eq.mp h; omega
        simp only [cond_false, this, Bool.false_and]
        rw [show Nat.beq (tyK t) (tyK t) = true by simp]
        simp only [Bool.true_and]
        rw [p1i c e1, p1v]
        cases h : Nat.beq c a
        · have hca : c ≠ a := fun e => by rw [e, Nat.beq_refl] at h; cases h
          rw [h0' c e1 hca]; rfl
        · rw [Nat.beq_eq.mp h, hy]; rfl
      · have ec : c = tyK t := by omega
        subst ec
        rw [blt_self, Bool.false_and]
        rw [show Nat.beq (tyK t) (tyK t) = true by simp]
        have : Nat.beq d (tyK t) = false := by cases h : Nat.beq d (tyK t); rfl; have := Nat.beq_eq.mp h; omega
        simp only [cond_false, this, Bool.false_and, Bool.true_and]
        rw [p1i d e2, p1v]
        cases h : Nat.beq d a
        · have hca : d ≠ a := fun e => by rw [e, Nat.beq_refl] at h; cases h
          rw [h0 d e2 hca]; rfl
        · rw [Nat.beq_eq.mp h, hx]; rfl
      · have ec : c = tyK t := by omega
        have ed : d = tyK t := by omega
        subst ec ed
        rw [blt_self, Bool.false_and]
        have x1 : Nat.beq (tyK t) a = false := by cases h : Nat.beq (tyK t) a; rfl; have := Nat.beq_eq.mp h; omega
        simp only [cond_false, x1, Bool.and_false]
        rw [p1v, hM.z v hv]; rfl
    cases hq : Nat.blt q.1 21
    · rw [hq, cond_false] at hg
      exact (sub_no hU lt1 inj1 hg (fun c d hc9 hd9 _ _ => (hD c d hc9 hd9).symm)).elim
    · rw [hq, cond_true] at hg
      have ht21 := Nat.blt_eq.mp hq
      simp only [isoB, Bool.and_eq_true, Nat.beq_eq, Nat.blt_eq] at hg
      obtain ⟨hk', hlt, hsur, hinj, heq⟩ := hg
      have hlt := allN_e hlt
      have hsur := allN_e hsur
      have hinj := fun b hb => allN_e (allN_e hinj b hb)
      have heq := fun b hb => allN_e (allN_e heq b hb)
      have hl9 : ∀ b, b < tyK t + 1 → q.2.getD b 0 < tyK t + 1 := fun b hb => Nat.blt_eq.mp (hlt b hb)
      refine ⟨q.1, fun b => p1 (q.2.getD b 0), ⟨ht21, ?_, ?_, ?_⟩, hk', ?_⟩
      · intro b hb
        rw [hk'] at hb
        exact lt1 _ (hl9 b hb)
      · intro b c hb hc e
        rw [hk'] at hb hc
        have e2 := inj1 _ _ (hl9 b hb) (hl9 c hc) e
        have h5 := hinj b hb c hc
        simp only [Bool.or_eq_true, Nat.beq_eq, Bool.not_eq_true'] at h5
        rcases h5 with h5 | h5
        · exact h5
        · rw [e2, Nat.beq_refl] at h5; cases h5
      · intro b c hb hc
        rw [hk'] at hb hc
        have h5 := Nat.beq_eq.mp (heq b hb c hc)
        show M (p1 (q.2.getD b 0)) (p1 (q.2.getD c 0)) = tyM q.1 b c
        rw [← hD _ _ (hl9 b hb) (hl9 c hc), ← h5]
        rfl
      · intro z
        rw [hk']
        constructor
        · rintro ⟨b, hb, rfl⟩
          by_cases e : q.2.getD b 0 < tyK t
          · exact Or.inr ⟨_, e, (p1i _ e).symm⟩
          · exact Or.inl (by show p1 (q.2.getD b 0) = v; rw [show q.2.getD b 0 = tyK t by have := hl9 b hb; omega]; exact p1v)
        · intro h
          have : ∃ c, c < tyK t + 1 ∧ p1 c = z := by
            rcases h with rfl | ⟨b, hb, rfl⟩
            · exact ⟨tyK t, by omega, p1v⟩
            · exact ⟨b, by omega, p1i b hb⟩
          obtain ⟨c, hc, rfl⟩ := this
          obtain ⟨d, hd, h5⟩ := anyN_e (hsur c hc)
          exact ⟨d, hd, by show p1 (q.2.getD d 0) = p1 c; rw [Nat.beq_eq.mp h5]⟩
theorem comp_max {M : Nat → Nat → Int} {n : Nat} (hM : MOk M n) (hn : n ≤ 6) (hU : NoB M n) (P : Nat → Prop) : ∀ (d t : Nat) (pos : Nat → Nat), n ≤ tyK t + d → Iso M n t pos → (∀ a, a < tyK t → P (pos a)) → ∃ (t' : Nat) (pos' : Nat → Nat), Iso M n t' pos' ∧ (∀ a, a < tyK t' → P (pos' a)) ∧ (∀ b, b < tyK t → ∃ b', b' < tyK t' ∧ pos' b' = pos b) ∧ (∀ v, v < n → P v → (∀ a, a < tyK t' → pos' a ≠ v) → ∀ a, a < tyK t' → M v (pos' a) = 0) := by
  intro d
  induction d with
  | zero =>
    intro t pos hd hI hP
    refine ⟨t, pos, hI, hP, fun b hb => ⟨b, hb, rfl⟩, fun v hv hPv hout a ha => ?_⟩
    refine Classical.byContradiction fun hne => ?_
    obtain ⟨t', pos', hI', hk, -⟩ := grow hM hn hU hI hv hout ha hne
    have := hI'.le
    omega
  | succ d ih =>
    intro t pos hd hI hP
    by_cases h : ∃ v, v < n ∧ P v ∧ (∀ a, a < tyK t → pos a ≠ v) ∧ ∃ a, a < tyK t ∧ M v (pos a) ≠ 0
    · obtain ⟨v, hv, hPv, hout, a, ha, hne⟩ := h
      obtain ⟨t', pos', hI', hk, hmem⟩ := grow hM hn hU hI hv hout ha hne
      obtain ⟨t2, pos2, hI2, hP2, hs2, hmax⟩ := ih t' pos' (by omega) hI' (fun b hb => by
        rcases (hmem (pos' b)).mp ⟨b, hb, rfl⟩ with e | ⟨c, hc, e⟩
        · rw [e]; exact hPv
        · rw [← e]; exact hP c hc)
      refine ⟨t2, pos2, hI2, hP2, fun b hb => ?_, hmax⟩
      obtain ⟨c, hc, e⟩ := (hmem (pos b)).mpr (Or.inr ⟨b, hb, rfl⟩)
      obtain ⟨c2, hc2, e2⟩ := hs2 c hc
      exact ⟨c2, hc2, e2.trans e⟩
    · refine ⟨t, pos, hI, hP, fun b hb => ⟨b, hb, rfl⟩, fun v hv hPv hout a ha => ?_⟩
      exact Classical.byContradiction fun hne => h ⟨v, hv, hPv, hout, a, ha, hne⟩
theorem comp_of {M : Nat → Nat → Int} {n : Nat} (hM : MOk M n) (hn : n ≤ 6) (hU : NoB M n) (P : Nat → Prop) {i : Nat} (hi : i < n) (hP : P i) : ∃ (t' : Nat) (pos' : Nat → Nat), Iso M n t' pos' ∧ (∀ a, a < tyK t' → P (pos' a)) ∧ (∃ b', b' < tyK t' ∧ pos' b' = i) ∧ (∀ v, v < n → P v → (∀ a, a < tyK t' → pos' a ≠ v) → ∀ a, a < tyK t' → M v (pos' a) = 0) := by
  obtain ⟨t', pos', h1, h2, h3, h4⟩ := comp_max hM hn hU P n 0 (fun _ => i) (by omega) ⟨by decide, fun _ _ => hi, fun a b ha hb _ => by have : tyK 0 = 1 := rfl; omega, fun a b ha hb => by
    have : tyK 0 = 1 := rfl
    rw [show a = 0 by omega, show b = 0 by omega, hM.z i hi]; rfl⟩ (fun _ _ => hP)
  exact ⟨t', pos', h1, h2, h3 0 (by decide), h4⟩
/-! all the roots of a set without end-holding rows; the images of a weight -/
def Maxi (M : Nat → Nat → Int) (n : Nat) (c : Nat × (Nat → Nat)) : Prop := Iso M n c.1 c.2 ∧ ∀ v, v < n → (∀ a, a < tyK c.1 → c.2 a ≠ v) → ∀ a, a < tyK c.1 → M v (c.2 a) = 0
theorem Maxi.iso {M : Nat → Nat → Int} {n : Nat} {c : Nat × (Nat → Nat)} (h : Maxi M n c) : Iso M n c.1 c.2 := h.1
theorem Maxi.mx {M : Nat → Nat → Int} {n : Nat} {c : Nat × (Nat → Nat)} (h : Maxi M n c) : ∀ v, v < n → (∀ a, a < tyK c.1 → c.2 a ≠ v) → ∀ a, a < tyK c.1 → M v (c.2 a) = 0 := h.2
theorem sum_tyK (cs : List (Nat × (Nat → Nat))) : (cs.flatMap (fun c => (List.range (tyK c.1)).map c.2)).length = (cs.map (fun c => tyK c.1)).sum := by
  induction cs with
  | nil => rfl
  | cons c cs ih => simp [List.flatMap_cons, ih]
theorem mem_cov {cs : List (Nat × (Nat → Nat))} {x : Nat} : x ∈ cs.flatMap (fun c => (List.range (tyK c.1)).map c.2) ↔ ∃ c, c ∈ cs ∧ ∃ a, a < tyK c.1 ∧ c.2 a = x := by
  simp [List.mem_flatMap]
theorem decomp {M : Nat → Nat → Int} {n : Nat} (hM : MOk M n) (hn : n ≤ 6) (hU : NoB M n) : ∀ m, m ≤ n → ∃ cs : List (Nat × (Nat → Nat)), (∀ c, c ∈ cs → Maxi M n c) ∧ (cs.flatMap (fun c => (List.range (tyK c.1)).map c.2)).Nodup ∧ ∀ i, i < m → i ∈ cs.flatMap (fun c => (List.range (tyK c.1)).map c.2) := by
  intro m
  induction m with
  | zero => intro _; exact ⟨[], fun c hc => absurd hc (List.not_mem_nil), List.nodup_nil, fun i hi => by omega⟩
  | succ m ih =>
    intro hm
    obtain ⟨cs, h1, h2, h3⟩ := ih (by omega)
    by_cases hc : m ∈ cs.flatMap (fun c => (List.range (tyK c.1)).map c.2)
    · refine ⟨cs, h1, h2, fun i hi => ?_⟩
      by_cases e : i = m
      · rw [e]; exact hc
      · exact h3 i (by omega)
    · obtain ⟨t, pos, hI, hP, ⟨b, hb, hbm⟩, hmax⟩ := comp_of hM hn hU (fun v => v ∉ cs.flatMap (fun c => (List.range (tyK c.1)).map c.2)) (i := m) (by omega) hc
      refine ⟨(t, pos) :: cs, ?_, ?_, ?_⟩
      · intro c hc9
        rcases List.mem_cons.mp hc9 with rfl | hc9
        · refine ⟨hI, fun v hv hout a ha => ?_⟩
          by_cases hv9 : v ∈ cs.flatMap (fun c => (List.range (tyK c.1)).map c.2)
          · obtain ⟨d, hd, z, hz, e⟩ := mem_cov.mp hv9
            have h5 := (h1 d hd).mx (pos a) (hI.lt a ha) (fun z9 hz9 e9 => hP a ha (mem_cov.mpr ⟨d, hd, z9, hz9, e9⟩)) z hz
            rw [e] at h5
            exact hM.zz _ _ (hI.lt a ha) hv h5
          · exact hmax v hv hv9 hout a ha
        · exact h1 c hc9
      · rw [List.flatMap_cons, List.nodup_append]
        refine ⟨?_, h2, ?_⟩
        · rw [List.nodup_iff_pairwise_ne, List.pairwise_map]
          refine List.Pairwise.imp_of_mem ?_ (List.nodup_iff_pairwise_ne.mp (List.nodup_range (n := tyK t)))
          intro a c ha hc9 hne e
          exact hne (hI.inj a c (List.mem_range.mp ha) (List.mem_range.mp hc9) e)
        · intro x hx y hy e
          subst e
          obtain ⟨a, ha, rfl⟩ := List.mem_map.mp hx
          exact hP a (List.mem_range.mp ha) hy
      · intro i hi
        rw [List.flatMap_cons, List.mem_append]
        by_cases e : i = m
        · left
          exact List.mem_map.mpr ⟨b, List.mem_range.mpr hb, by rw [e]; exact hbm⟩
        · right
          exact h3 i (by omega)
/-- a list of roots that holds all that a set's words make of its own ones, above 0 -/
def RLi (M : Nat → Nat → Int) (n : Nat) (L : List (Nat → Int)) : Prop := L.length ≤ 36 ∧ (∀ i, i < n → ownV i ∈ L) ∧ (∀ p, p ∈ L → ∀ i, i < n → p = ownV i ∨ rfx M n p i ∈ L) ∧ (∀ p, p ∈ L → ∀ j, 0 ≤ p j ∧ p j ≤ 6)
section PR
variable {M : Nat → Nat → Int} {n : Nat} {L : List (Nat → Int)}
theorem RLi.len (h : RLi M n L) : L.length ≤ 36 := h.1
theorem RLi.own (h : RLi M n L) : ∀ i, i < n → ownV i ∈ L := h.2.1
theorem RLi.cl (h : RLi M n L) : ∀ p, p ∈ L → ∀ i, i < n → p = ownV i ∨ rfx M n p i ∈ L := h.2.2.1
theorem RLi.nn (h : RLi M n L) : ∀ p, p ∈ L → ∀ j, 0 ≤ p j ∧ p j ≤ 6 := h.2.2.2
end PR
theorem rooF {t : Nat} (ht : t < 21) : (rooT.getD t []).length ≤ 6 * tyK t ∧ (∀ i, i < tyK t → ∃ q, q ∈ rooT.getD t [] ∧ ∀ b, b < tyK t → q.getD b 0 = if b = i then 1 else 0) ∧ (∀ p, p ∈ rooT.getD t [] → (∀ b, b < tyK t → p.getD b 0 ≤ 6) ∧ ∀ i, i < tyK t → (∀ b, b < tyK t → p.getD b 0 = if b = i then 1 else 0) ∨ ∃ q, q ∈ rooT.getD t [] ∧ ∀ b, b < tyK t → if b = i then q.getD b 0 + p.getD b 0 = smN (tyK t) (fun j => tyN t i j * p.getD j 0) else q.getD b 0 = p.getD b 0) := by
  have h := allN_e roo_ok t ht
  simp only [rooB, Bool.and_eq_true, Nat.ble_eq] at h
  obtain ⟨h1, h2, h3⟩ := h
  have ite_b : ∀ (b i : Nat), (bif Nat.beq b i then 1 else 0) = if b = i then 1 else 0 := fun b i => by
    by_cases e : b = i
    · subst e; simp
    · rw [if_neg e]; cases h : Nat.beq b i; rfl; exact absurd (Nat.beq_eq.mp h) e
  refine ⟨h1, fun i hi => ?_, fun p hp => ?_⟩
  · obtain ⟨q, hq, hq2⟩ := List.any_eq_true.mp (allN_e h2 i hi)
    exact ⟨q, hq, fun b hb => by rw [Nat.beq_eq.mp (allN_e hq2 b hb), ite_b]⟩
  · have h4 := List.all_eq_true.mp h3 p hp
    simp only [Bool.and_eq_true] at h4
    refine ⟨fun b hb => Nat.ble_eq.mp (allN_e h4.1 b hb), fun i hi => ?_⟩
    have h5 := allN_e h4.2 i hi
    simp only [Bool.or_eq_true] at h5
    rcases h5 with h5 | h5
    · exact Or.inl (fun b hb => by rw [Nat.beq_eq.mp (allN_e h5 b hb), ite_b])
    · obtain ⟨q, hq, hq2⟩ := List.any_eq_true.mp h5
      refine Or.inr ⟨q, hq, fun b hb => ?_⟩
      have h6 := allN_e hq2 b hb
      by_cases e : b = i
      · subst e
        rw [if_pos rfl]
        rw [Nat.beq_refl, cond_true] at h6
        exact Nat.beq_eq.mp h6
      · rw [if_neg e]
        rw [show Nat.beq b i = false by cases h : Nat.beq b i; rfl; exact absurd (Nat.beq_eq.mp h) e, cond_false] at h6
        exact Nat.beq_eq.mp h6
theorem emb_ext {k : Nat} {pos : Nat → Nat} {c d : Nat → Int} (h : ∀ a, a < k → c a = d a) : emb k pos c = emb k pos d := by
  funext x
  exact sm_congr (fun a ha => by rw [h a ha])
theorem emb_own {k : Nat} {pos : Nat → Nat} (inj : ∀ a b, a < k → b < k → pos a = pos b → a = b) {i : Nat} (hi : i < k) : emb k pos (fun b => if b = i then 1 else 0) = ownV (pos i) := by
  funext x
  by_cases h : ∃ a, a < k ∧ pos a = x
  · obtain ⟨a, ha, rfl⟩ := h
    rw [emb_at inj ha]
    unfold ownV
    by_cases e : a = i
    · subst e; rw [if_pos rfl, if_pos rfl]
    · rw [if_neg e, if_neg (fun e2 => e (inj a i ha hi e2))]
  · rw [emb_out (fun a ha e => h ⟨a, ha, e⟩)]
    unfold ownV
    rw [if_neg (fun e => h ⟨i, hi, e.symm⟩)]
theorem roots_of {M : Nat → Nat → Int} {n : Nat} (hM : MOk M n) (hn : n ≤ 6) (hU : NoB M n) : ∃ L, RLi M n L := by
  obtain ⟨cs, h1, h2, h3⟩ := decomp hM hn hU n (Nat.le_refl n)
  obtain ⟨ve, hve⟩ : ∃ f : List Nat → Nat → Int, f = fun p a => (p.getD a 0 : Int) := ⟨_, rfl⟩
  have vea : ∀ p a, ve p a = (p.getD a 0 : Int) := fun p a => by rw [hve]
  refine ⟨cs.flatMap (fun c => (rooT.getD c.1 []).map (fun p => emb (tyK c.1) c.2 (ve p))), ?_, ?_, ?_, ?_⟩
  · have hlen : ∀ ds : List (Nat × (Nat → Nat)), (∀ c, c ∈ ds → c.1 < 21) → (ds.flatMap (fun c => (rooT.getD c.1 []).map (fun p => emb (tyK c.1) c.2 (ve p)))).length ≤ 6 * (ds.map (fun c => tyK c.1)).sum := by
      intro ds
      induction ds with
      | nil => intro _; exact Nat.zero_le _
      | cons c ds ih =>
        intro hd
        have := ih (fun d hd9 => hd d (List.mem_cons_of_mem _ hd9))
        have := (rooF (hd c List.mem_cons_self)).1
        simp only [List.flatMap_cons, List.length_append, List.length_map, List.map_cons, List.sum_cons]
        omega
    have := hlen cs (fun c hc => (h1 c hc).iso.t0)
    have e := sum_tyK cs
    have := php_list (m := List.range n) h2 (fun x hx => by
      obtain ⟨c, hc, a, ha, rfl⟩ := mem_cov.mp hx
      exact List.mem_range.mpr ((h1 c hc).iso.lt a ha))
    rw [List.length_range] at this
    omega
  · intro i hi
    obtain ⟨c, hc, a, ha, rfl⟩ := mem_cov.mp (h3 i hi)
    obtain ⟨q, hq, hq2⟩ := (rooF (h1 c hc).iso.t0).2.1 a ha
    refine List.mem_flatMap.mpr ⟨c, hc, List.mem_map.mpr ⟨q, hq, ?_⟩⟩
    rw [← emb_own (h1 c hc).iso.inj ha]
    exact emb_ext (fun b hb => by rw [vea, hq2 b hb]; split <;> rfl)
  · intro p hp i hi
    obtain ⟨c, hc, hp⟩ := List.mem_flatMap.mp hp
    obtain ⟨p, hp2, rfl⟩ := List.mem_map.mp hp
    have hI := (h1 c hc).iso
    by_cases hin : ∃ a, a < tyK c.1 ∧ c.2 a = i
    · obtain ⟨a, ha, rfl⟩ := hin
      rcases ((rooF hI.t0).2.2 p hp2).2 a ha with h5 | ⟨q, hq, hq2⟩
      · left
        rw [← emb_own hI.inj ha]
        exact emb_ext (fun b hb => by rw [vea, h5 b hb]; split <;> rfl)
      · right
        refine List.mem_flatMap.mpr ⟨c, hc, List.mem_map.mpr ⟨q, hq, ?_⟩⟩
        funext x
        have epr : prg M n (emb (tyK c.1) c.2 (ve p)) (c.2 a) = 2 * ve p a - sm (tyK c.1) (fun b => tyM c.1 a b * ve p b) := by
          unfold prg
          rw [sm_emb hI.lt, emb_at hI.inj ha]
          congr 1
          exact sm_congr (fun b hb => by rw [hI.eq a b ha hb])
        unfold rfx
        by_cases hx : ∃ b, b < tyK c.1 ∧ c.2 b = x
        · obtain ⟨b, hb, rfl⟩ := hx
          have h6 := hq2 b hb
          by_cases e : b = a
          · subst e
            rw [if_pos rfl] at h6
            rw [if_pos rfl, epr, emb_at hI.inj hb, emb_at hI.inj hb, vea, vea]
            have h7 : ((p.getD b 0 : Nat) : Int) + (q.getD b 0 : Nat) = sm (tyK c.1) (fun j => tyM c.1 b j * ve p j) := by
              rw [← Int.natCast_add, Nat.add_comm, h6, smN_c]
              exact sm_congr (fun j _ => by rw [vea, Int.natCast_mul]; rfl)
            omega
          · rw [if_neg e] at h6
            rw [if_neg (fun e2 => e (hI.inj b a hb ha e2)), emb_at hI.inj hb, emb_at hI.inj hb, vea, vea, h6]
        · have ho : ∀ b, b < tyK c.1 → c.2 b ≠ x := fun b hb e => hx ⟨b, hb, e⟩
          rw [if_neg (fun e => ho a ha e.symm), emb_out ho, emb_out ho]
    · right
      have ho : ∀ b, b < tyK c.1 → c.2 b ≠ i := fun b hb e => hin ⟨b, hb, e⟩
      have e : rfx M n (emb (tyK c.1) c.2 (ve p)) i = emb (tyK c.1) c.2 (ve p) := by
        funext x
        unfold rfx
        split
        · rename_i e
          subst e
          unfold prg
          rw [sm_emb hI.lt, emb_out ho, sm_zero (fun b hb => by rw [(h1 c hc).mx x hi ho b hb]; omega)]
          rfl
        · rfl
      rw [e]
      exact List.mem_flatMap.mpr ⟨c, hc, List.mem_map.mpr ⟨p, hp2, rfl⟩⟩
  · intro p hp j
    obtain ⟨c, hc, hp⟩ := List.mem_flatMap.mp hp
    obtain ⟨p, hp2, rfl⟩ := List.mem_map.mp hp
    have hI := (h1 c hc).iso
    by_cases hx : ∃ b, b < tyK c.1 ∧ c.2 b = j
    · obtain ⟨b, hb, rfl⟩ := hx
      rw [emb_at hI.inj hb, vea]
      have := ((rooF hI.t0).2.2 p hp2).1 b hb
      omega
    · rw [emb_out (fun b hb e => hx ⟨b, hb, e⟩)]
      omega
theorem Tr.mem_toL {c : Nat} : ∀ {t : Tr}, Tr.mem c t = true → c ∈ Tr.toL t
  | [], h => by simp [Tr.mem] at h
  | (x, l) :: r, h => by
    simp only [Tr.mem] at h
    simp only [Tr.toL, List.flatMap_cons, List.mem_append]
    cases e : Nat.ble c x
    · rw [e, cond_false] at h
      exact Or.inr (Tr.mem_toL h)
    · rw [e, cond_true] at h
      obtain ⟨y, hy, hy2⟩ := List.any_eq_true.mp h
      exact Or.inl (by rw [Nat.beq_eq.mp hy2]; exact hy)
theorem Tr.all_toL {p : Nat → Bool} {t : Tr} (h : Tr.all p t = true) (c : Nat) (hc : c ∈ Tr.toL t) : p c = true := by
  obtain ⟨q, hq, hc⟩ := List.mem_flatMap.mp hc
  exact List.all_eq_true.mp (List.all_eq_true.mp h q hq) c hc
theorem Tr.len_toL (t : Tr) : (Tr.toL t).length = Tr.size t := rfl
def wst (t m : Nat) : Nat := smN (tyK t) (fun b => (bif Nat.beq b m then 9 else 8) * 16 ^ b)

theorem we_ok : ∀ t m, t < 21 → m < tyK t → weB t m ((weT.getD t []).getD m []) = true ∧ allN (tyK t) (fun b => Nat.beq (dgN (wst t m) b) (bif Nat.beq b m then 9 else 8)) = true := by
  intro t m ht hm
  by_cases e0 : t = 0
  · subst e0
    replace hm : m < 1 := hm
    obtain rfl : m = 0 := by omega
    exact ⟨we_0_0, own_0_0⟩
  by_cases e1 : t = 1
  · subst e1
    replace hm : m < 2 := hm
    by_cases g0 : m = 0
    · subst g0; exact ⟨we_1_0, own_1_0⟩
    obtain rfl : m = 1 := by omega
    exact ⟨we_1_1, own_1_1⟩
  by_cases e2 : t = 2
  · subst e2
    replace hm : m < 2 := hm
    by_cases g0 : m = 0
    · subst g0; exact ⟨we_2_0, own_2_0⟩
    obtain rfl : m = 1 := by omega
    exact ⟨we_2_1, own_2_1⟩
  by_cases e3 : t = 3
  · subst e3
    replace hm : m < 2 := hm
    by_cases g0 : m = 0
    · subst g0; exact ⟨we_3_0, own_3_0⟩
    obtain rfl : m = 1 := by omega
    exact ⟨we_3_1, own_3_1⟩
  by_cases e4 : t = 4
  · subst e4
    replace hm : m < 3 := hm
    by_cases g0 : m = 0
    · subst g0; exact ⟨we_4_0, own_4_0⟩
    by_cases g1 : m = 1
    · subst g1; exact ⟨we_4_1, own_4_1⟩
    obtain rfl : m = 2 := by omega
    exact ⟨we_4_2, own_4_2⟩
  by_cases e5 : t = 5
  · subst e5
    replace hm : m < 3 := hm
    by_cases g0 : m = 0
    · subst g0; exact ⟨we_5_0, own_5_0⟩
    by_cases g1 : m = 1
    · subst g1; exact ⟨we_5_1, own_5_1⟩
    obtain rfl : m = 2 := by omega
    exact ⟨we_5_2, own_5_2⟩
  by_cases e6 : t = 6
  · subst e6
    replace hm : m < 3 := hm
    by_cases g0 : m = 0
    · subst g0; exact ⟨we_6_0, own_6_0⟩
    by_cases g1 : m = 1
    · subst g1; exact ⟨we_6_1, own_6_1⟩
    obtain rfl : m = 2 := by omega
    exact ⟨we_6_2, own_6_2⟩
  by_cases e7 : t = 7
  · subst e7
    replace hm : m < 4 := hm
    by_cases g0 : m = 0
    · subst g0; exact ⟨we_7_0, own_7_0⟩
    by_cases g1 : m = 1
    · subst g1; exact ⟨we_7_1, own_7_1⟩
    by_cases g2 : m = 2
    · subst g2; exact ⟨we_7_2, own_7_2⟩
    obtain rfl : m = 3 := by omega
    exact ⟨we_7_3, own_7_3⟩
  by_cases e8 : t = 8
  · subst e8
    replace hm : m < 4 := hm
    by_cases g0 : m = 0
    · subst g0; exact ⟨we_8_0, own_8_0⟩
    by_cases g1 : m = 1
    · subst g1; exact ⟨we_8_1, own_8_1⟩
    by_cases g2 : m = 2
    · subst g2; exact ⟨we_8_2, own_8_2⟩
    obtain rfl : m = 3 := by omega
    exact ⟨we_8_3, own_8_3⟩
  by_cases e9 : t = 9
  · subst e9
    replace hm : m < 4 := hm
    by_cases g0 : m = 0
    · subst g0; exact ⟨we_9_0, own_9_0⟩
    by_cases g1 : m = 1
    · subst g1; exact ⟨we_9_1, own_9_1⟩
    by_cases g2 : m = 2
    · subst g2; exact ⟨we_9_2, own_9_2⟩
    obtain rfl : m = 3 := by omega
    exact ⟨we_9_3, own_9_3⟩
  by_cases e10 : t = 10
  · subst e10
    replace hm : m < 4 := hm
    by_cases g0 : m = 0
    · subst g0; exact ⟨we_10_0, own_10_0⟩
    by_cases g1 : m = 1
    · subst g1; exact ⟨we_10_1, own_10_1⟩
    by_cases g2 : m = 2
    · subst g2; exact ⟨we_10_2, own_10_2⟩
    obtain rfl : m = 3 := by omega
    exact ⟨we_10_3, own_10_3⟩
  by_cases e11 : t = 11
  · subst e11
    replace hm : m < 4 := hm
    by_cases g0 : m = 0
    · subst g0; exact ⟨we_11_0, own_11_0⟩
    by_cases g1 : m = 1
    · subst g1; exact ⟨we_11_1, own_11_1⟩
    by_cases g2 : m = 2
    · subst g2; exact ⟨we_11_2, own_11_2⟩
    obtain rfl : m = 3 := by omega
    exact ⟨we_11_3, own_11_3⟩
  by_cases e12 : t = 12
  · subst e12
    replace hm : m < 5 := hm
    by_cases g0 : m = 0
    · subst g0; exact ⟨we_12_0, own_12_0⟩
    by_cases g1 : m = 1
    · subst g1; exact ⟨we_12_1, own_12_1⟩
    by_cases g2 : m = 2
    · subst g2; exact ⟨we_12_2, own_12_2⟩
    by_cases g3 : m = 3
    · subst g3; exact ⟨we_12_3, own_12_3⟩
    obtain rfl : m = 4 := by omega
    exact ⟨we_12_4, own_12_4⟩
  by_cases e13 : t = 13
  · subst e13
    replace hm : m < 5 := hm
    by_cases g0 : m = 0
    · subst g0; exact ⟨we_13_0, own_13_0⟩
    by_cases g1 : m = 1
    · subst g1; exact ⟨we_13_1, own_13_1⟩
    by_cases g2 : m = 2
    · subst g2; exact ⟨we_13_2, own_13_2⟩
    by_cases g3 : m = 3
    · subst g3; exact ⟨we_13_3, own_13_3⟩
    obtain rfl : m = 4 := by omega
    exact ⟨we_13_4, own_13_4⟩
  by_cases e14 : t = 14
  · subst e14
    replace hm : m < 5 := hm
    by_cases g0 : m = 0
    · subst g0; exact ⟨we_14_0, own_14_0⟩
    by_cases g1 : m = 1
    · subst g1; exact ⟨we_14_1, own_14_1⟩
    by_cases g2 : m = 2
    · subst g2; exact ⟨we_14_2, own_14_2⟩
    by_cases g3 : m = 3
    · subst g3; exact ⟨we_14_3, own_14_3⟩
    obtain rfl : m = 4 := by omega
    exact ⟨we_14_4, own_14_4⟩
  by_cases e15 : t = 15
  · subst e15
    replace hm : m < 5 := hm
    by_cases g0 : m = 0
    · subst g0; exact ⟨we_15_0, own_15_0⟩
    by_cases g1 : m = 1
    · subst g1; exact ⟨we_15_1, own_15_1⟩
    by_cases g2 : m = 2
    · subst g2; exact ⟨we_15_2, own_15_2⟩
    by_cases g3 : m = 3
    · subst g3; exact ⟨we_15_3, own_15_3⟩
    obtain rfl : m = 4 := by omega
    exact ⟨we_15_4, own_15_4⟩
  by_cases e16 : t = 16
  · subst e16
    replace hm : m < 6 := hm
    by_cases g0 : m = 0
    · subst g0; exact ⟨we_16_0, own_16_0⟩
    by_cases g1 : m = 1
    · subst g1; exact ⟨we_16_1, own_16_1⟩
    by_cases g2 : m = 2
    · subst g2; exact ⟨we_16_2, own_16_2⟩
    by_cases g3 : m = 3
    · subst g3; exact ⟨we_16_3, own_16_3⟩
    by_cases g4 : m = 4
    · subst g4; exact ⟨we_16_4, own_16_4⟩
    obtain rfl : m = 5 := by omega
    exact ⟨we_16_5, own_16_5⟩
  by_cases e17 : t = 17
  · subst e17
    replace hm : m < 6 := hm
    by_cases g0 : m = 0
    · subst g0; exact ⟨we_17_0, own_17_0⟩
    by_cases g1 : m = 1
    · subst g1; exact ⟨we_17_1, own_17_1⟩
    by_cases g2 : m = 2
    · subst g2; exact ⟨we_17_2, own_17_2⟩
    by_cases g3 : m = 3
    · subst g3; exact ⟨we_17_3, own_17_3⟩
    by_cases g4 : m = 4
    · subst g4; exact ⟨we_17_4, own_17_4⟩
    obtain rfl : m = 5 := by omega
    exact ⟨we_17_5, own_17_5⟩
  by_cases e18 : t = 18
  · subst e18
    replace hm : m < 6 := hm
    by_cases g0 : m = 0
    · subst g0; exact ⟨we_18_0, own_18_0⟩
    by_cases g1 : m = 1
    · subst g1; exact ⟨we_18_1, own_18_1⟩
    by_cases g2 : m = 2
    · subst g2; exact ⟨we_18_2, own_18_2⟩
    by_cases g3 : m = 3
    · subst g3; exact ⟨we_18_3, own_18_3⟩
    by_cases g4 : m = 4
    · subst g4; exact ⟨we_18_4, own_18_4⟩
    obtain rfl : m = 5 := by omega
    exact ⟨we_18_5, own_18_5⟩
  by_cases e19 : t = 19
  · subst e19
    replace hm : m < 6 := hm
    by_cases g0 : m = 0
    · subst g0; exact ⟨we_19_0, own_19_0⟩
    by_cases g1 : m = 1
    · subst g1; exact ⟨we_19_1, own_19_1⟩
    by_cases g2 : m = 2
    · subst g2; exact ⟨we_19_2, own_19_2⟩
    by_cases g3 : m = 3
    · subst g3; exact ⟨we_19_3, own_19_3⟩
    by_cases g4 : m = 4
    · subst g4; exact ⟨we_19_4, own_19_4⟩
    obtain rfl : m = 5 := by omega
    exact ⟨we_19_5, own_19_5⟩
  by_cases e20 : t = 20
  · subst e20
    replace hm : m < 6 := hm
    by_cases g0 : m = 0
    · subst g0; exact ⟨we_20_0, own_20_0⟩
    by_cases g1 : m = 1
    · subst g1; exact ⟨we_20_1, own_20_1⟩
    by_cases g2 : m = 2
    · subst g2; exact ⟨we_20_2, own_20_2⟩
    by_cases g3 : m = 3
    · subst g3; exact ⟨we_20_3, own_20_3⟩
    by_cases g4 : m = 4
    · subst g4; exact ⟨we_20_4, own_20_4⟩
    obtain rfl : m = 5 := by omega
    exact ⟨we_20_5, own_20_5⟩
  omega
theorem b_ne {a b : Nat} (h : a ≠ b) : Nat.beq a b = false := by
  cases e : Nat.beq a b
  · rfl
  · exact absurd (Nat.beq_eq.mp e) h
/-- what a weight becomes by mirror i, among the mirrors up to last -/
def wim (M : Nat → Nat → Int) (last : Nat) (w : Nat → Int) (i : Nat) : Nat → Int := fun b => if b ≤ last then (if b = i then - w i else w b + w i * M b i) else 0
def WLi (M : Nat → Nat → Int) (last : Nat) (W : List (Nat → Int)) : Prop := W.length ≤ 720 ∧ ownV last ∈ W ∧ (∀ w, w ∈ W → ∀ i, i ≤ last → wim M last w i ∈ W) ∧ (∀ w, w ∈ W → ∀ b, last < b → w b = 0) ∧ (∀ w, w ∈ W → ∀ b, -8 ≤ w b ∧ w b ≤ 8)
theorem weF {t m : Nat} (ht : t < 21) (hm : m < tyK t) : ∃ W : List Nat, W.length ≤ 720 ∧ (∃ c, c ∈ W ∧ ∀ b, b < tyK t → dgZ c b = if b = m then 1 else 0) ∧ (∀ c, c ∈ W → ∀ i, i < tyK t → ∃ c', c' ∈ W ∧ ∀ b, b < tyK t → dgZ c' b = if b = i then - dgZ c b else dgZ c b + dgZ c i * tyM t b i) := by
  obtain ⟨h, h9⟩ := we_ok t m ht hm
  have h9 := allN_e h9
  generalize (weT.getD t []).getD m [] = W at h
  simp only [weB, Bool.and_eq_true, Nat.ble_eq] at h
  obtain ⟨h1, h2, h3⟩ := h
  refine ⟨Tr.toL W, by rw [Tr.len_toL]; exact h1, ⟨wst t m, Tr.mem_toL h2, fun b hb => ?_⟩, fun c hc i hi => ?_⟩
  · unfold dgZ
    rw [Nat.beq_eq.mp (h9 b hb)]
    by_cases e : b = m
    · subst e; rw [Nat.beq_refl, if_pos rfl]; rfl
    · rw [b_ne e, if_neg e]; rfl
  · have h4 := allN_e (Tr.all_toL h3 c hc) i hi
    simp only [Bool.and_eq_true] at h4
    refine ⟨imN t i c, Tr.mem_toL h4.1, fun b hb => ?_⟩
    have h5 := allN_e h4.2 b hb
    unfold dgZ tyM
    by_cases e : b = i
    · subst e
      rw [Nat.beq_refl, cond_true] at h5
      have := Nat.beq_eq.mp h5
      rw [if_pos rfl]
      omega
    · rw [b_ne e, cond_false] at h5
      rw [if_neg e]
      cases e8 : Nat.ble 8 (dgN c i)
      · rw [e8, cond_false] at h5
        have := Nat.beq_eq.mp h5
        have h8 : ¬ 8 ≤ dgN c i := fun h => by rw [Nat.ble_eq.mpr h] at e8; cases e8
        have e7 : (dgN c i : Int) - 8 = - ((8 - dgN c i : Nat) : Int) := by omega
        rw [e7, Int.neg_mul, ← Int.natCast_mul]
        omega
      · rw [e8, cond_true] at h5
        have := Nat.beq_eq.mp h5
        have h8 := Nat.ble_eq.mp e8
        have e7 : (dgN c i : Int) - 8 = ((dgN c i - 8 : Nat) : Int) := by omega
        rw [e7, ← Int.natCast_mul]
        omega
theorem weights_of {M : Nat → Nat → Int} {n : Nat} (hM : MOk M n) (hn : n ≤ 6) (hU : NoB M n) {last : Nat} (hl : last < n) : ∃ W, WLi M last W := by
  obtain ⟨t, pos, hI, hP, ⟨m, hm, hml⟩, hmax⟩ := comp_of hM hn hU (fun v => v ≤ last) (i := last) hl (Nat.le_refl _)
  obtain ⟨W, hW1, ⟨c0, hc0, hc0d⟩, hW3⟩ := weF hI.t0 hm
  have out : ∀ (c : Nat) (b : Nat), last < b → emb (tyK t) pos (dgZ c) b = 0 := fun c b hb => emb_out (fun a ha e => by have := hP a ha; omega)
  refine ⟨W.map (fun c => emb (tyK t) pos (dgZ c)), by rw [List.length_map]; exact hW1, ?_, ?_, ?_, ?_⟩
  · refine List.mem_map.mpr ⟨c0, hc0, ?_⟩
    rw [← hml, ← emb_own hI.inj hm]
    exact emb_ext hc0d
  · intro w hw i hi
    obtain ⟨c, hc, rfl⟩ := List.mem_map.mp hw
    by_cases hin : ∃ a, a < tyK t ∧ pos a = i
    · obtain ⟨a, ha, rfl⟩ := hin
      obtain ⟨c', hc', hd⟩ := hW3 c hc a ha
      refine List.mem_map.mpr ⟨c', hc', ?_⟩
      funext x
      unfold wim
      by_cases hx : ∃ b, b < tyK t ∧ pos b = x
      · obtain ⟨b, hb, rfl⟩ := hx
        rw [if_pos (hP b hb), emb_at hI.inj hb, emb_at hI.inj ha, hd b hb]
        by_cases e : b = a
        · subst e; rw [if_pos rfl, if_pos rfl]
        · rw [if_neg e, if_neg (fun e2 => e (hI.inj b a hb ha e2)), emb_at hI.inj hb, hI.eq b a hb ha]
      · have ho : ∀ b, b < tyK t → pos b ≠ x := fun b hb e => hx ⟨b, hb, e⟩
        rw [emb_out ho]
        split
        · rename_i hxl
          rw [if_neg (fun e => ho a ha e.symm), hmax x (by omega) hxl ho a ha, emb_out ho]
          omega
        · rfl
    · have ho : ∀ b, b < tyK t → pos b ≠ i := fun b hb e => hin ⟨b, hb, e⟩
      have e : wim M last (emb (tyK t) pos (dgZ c)) i = emb (tyK t) pos (dgZ c) := by
        funext x
        unfold wim
        rw [emb_out ho]
        split
        · split
          · rename_i e; rw [e, emb_out ho]; rfl
          · omega
        · rename_i hq
          rw [out c x (by omega)]
      rw [e]
      exact hw
  · intro w hw b hb
    obtain ⟨c, hc, rfl⟩ := List.mem_map.mp hw
    exact out c b hb
  · intro w hw b
    obtain ⟨c, hc, rfl⟩ := List.mem_map.mp hw
    by_cases hx : ∃ a, a < tyK t ∧ pos a = b
    · obtain ⟨a, ha, rfl⟩ := hx
      rw [emb_at hI.inj ha]
      unfold dgZ dgN
      omega
    · rw [emb_out (fun a ha e => hx ⟨a, ha, e⟩)]
      omega
/-! words -/
def act (M : Nat → Nat → Int) (n : Nat) : List Nat → (Nat → Int) → Nat → Int
  | [], x => x
  | i :: r, x => rfx M n (act M n r x) i
/-- nothing of the word goes as s comes behind it -/
def NB (M : Nat → Nat → Int) (n : Nat) : List Nat → Nat → Prop
  | [], _ => True
  | i :: r, s => act M n r (ownV s) ≠ ownV i ∧ NB M n r s
def RdL (M : Nat → Nat → Int) (n : Nat) (r : List Nat) : Prop := ∀ k, k < r.length → NB M n (r.take k) (r.getD k 0)
def Bl (M : Nat → Nat → Int) (n : Nat) : List Nat → List (Nat → Int)
  | [] => []
  | a :: r => ownV a :: (Bl M n r).map (fun x => rfx M n x a)
theorem NB.mem {M : Nat → Nat → Int} {n : Nat} {L : List (Nat → Int)} (hL : RLi M n L) {s : Nat} (hs : s < n) : ∀ {r : List Nat}, (∀ i, i ∈ r → i < n) → NB M n r s → act M n r (ownV s) ∈ L
  | [], _, _ => hL.own s hs
  | i :: r, hr, h => by
    have h1 := NB.mem hL hs (r := r) (fun j hj => hr j (List.mem_cons_of_mem _ hj)) h.2
    exact (hL.cl _ h1 i (hr i List.mem_cons_self)).resolve_left h.1
theorem rfx_rfx {M : Nat → Nat → Int} {n : Nat} {x : Nat → Int} {i : Nat} (h0 : M i i = 0) : rfx M n (rfx M n x i) i = x := by
  funext j
  by_cases e : j = i
  · subst e
    have h1 : rfx M n x j j = x j - prg M n x j := by simp [rfx]
    have h2 : rfx M n (rfx M n x j) j j = rfx M n x j j - prg M n (rfx M n x j) j := by simp [rfx]
    rw [h2, h1, prg_rfx h0]
    omega
  · show (if j = i then _ else rfx M n x i j) = x j
    rw [if_neg e]
    show (if j = i then _ else x j) = x j
    rw [if_neg e]
theorem Bl_mem {M : Nat → Nat → Int} {n : Nat} : ∀ {r : List Nat} {x : Nat → Int}, x ∈ Bl M n r → ∃ k, k < r.length ∧ x = act M n (r.take k) (ownV (r.getD k 0))
  | [], x, h => by simp [Bl] at h
  | a :: r, x, h => by
    rcases List.mem_cons.mp h with rfl | h
    · exact ⟨0, by simp, rfl⟩
    · obtain ⟨y, hy, rfl⟩ := List.mem_map.mp h
      obtain ⟨k, hk, rfl⟩ := Bl_mem hy
      exact ⟨k + 1, by simp; omega, by simp [act]⟩
theorem RdL.tl {M : Nat → Nat → Int} {n : Nat} {a : Nat} {r : List Nat} (h : RdL M n (a :: r)) : RdL M n r := fun k hk => by
  have := h (k + 1) (by simp; omega)
  simp only [List.take_succ_cons, List.getD_cons_succ] at this
  exact this.2
theorem Bl_ok {M : Nat → Nat → Int} {n : Nat} {L : List (Nat → Int)} (h0 : ∀ i, i < n → M i i = 0) (hL : RLi M n L) : ∀ {r : List Nat}, (∀ i, i ∈ r → i < n) → RdL M n r → (Bl M n r).Nodup ∧ ∀ x, x ∈ Bl M n r → x ∈ L
  | [], _, _ => ⟨List.nodup_nil, fun x hx => by simp [Bl] at hx⟩
  | a :: r, hr, h => by
    have ha := hr a List.mem_cons_self
    obtain ⟨h1, h2⟩ := Bl_ok h0 hL (r := r) (fun j hj => hr j (List.mem_cons_of_mem _ hj)) h.tl
    constructor
    · rw [Bl, List.nodup_cons]
      constructor
      · intro hm
        obtain ⟨y, hy, e⟩ := List.mem_map.mp hm
        have e2 : y = rfx M n (ownV a) a := by rw [← e, rfx_rfx (h0 a ha)]
        have := (hL.nn y (h2 y hy) a).1
        rw [e2] at this
        unfold rfx prg at this
        rw [if_pos rfl, sm_own _ ha, h0 a ha] at this
        unfold ownV at this
        rw [if_pos rfl] at this
        omega
      · rw [List.nodup_iff_pairwise_ne, List.pairwise_map]
        refine List.Pairwise.imp_of_mem ?_ (List.nodup_iff_pairwise_ne.mp h1)
        intro x y _ _ hne e
        exact hne (by rw [← rfx_rfx (M := M) (n := n) (x := x) (h0 a ha), e, rfx_rfx (h0 a ha)])
    · intro x hx
      rcases List.mem_cons.mp hx with rfl | hx
      · exact hL.own a ha
      · obtain ⟨y, hy, rfl⟩ := List.mem_map.mp hx
        refine (hL.cl y (h2 y hy) a ha).resolve_left (fun e => ?_)
        obtain ⟨k, hk, rfl⟩ := Bl_mem hy
        have h5 := h (k + 1) (by simp; omega)
        simp only [List.take_succ_cons, List.getD_cons_succ] at h5
        exact h5.1 e
theorem RdL.len {M : Nat → Nat → Int} {n : Nat} {L : List (Nat → Int)} (h0 : ∀ i, i < n → M i i = 0) (hL : RLi M n L) {r : List Nat} (hr : ∀ i, i ∈ r → i < n) (h : RdL M n r) : r.length ≤ 36 := by
  haveI : DecidableEq (Nat → Int) := fun a b => Classical.propDecidable (a = b)
  obtain ⟨h1, h2⟩ := Bl_ok h0 hL hr h
  have h3 := php_list h1 h2
  have h4 : ∀ r : List Nat, (Bl M n r).length = r.length := by
    intro r
    induction r with
    | nil => rfl
    | cons a r ih => simp [Bl, ih]
  rw [h4] at h3
  have := hL.len
  omega
/-- the first m letters of a row -/
def wl (f : Int → Int) (m : Nat) : List Nat := (List.range m).map (fun (k : Nat) => (f (k : Int)).toNat)
theorem wl_len (f : Int → Int) (m : Nat) : (wl f m).length = m := by simp [wl]
theorem wl_take (f : Int → Int) {m k : Nat} (h : k ≤ m) : (wl f m).take k = wl f k := by
  unfold wl
  rw [← List.map_take, List.take_range, Nat.min_eq_left h]
theorem wl_get (f : Int → Int) {m k : Nat} (h : k < m) : (wl f m).getD k 0 = (f (k : Int)).toNat := by
  simp [wl, List.getD_eq_getElem?_getD, h]
theorem wl_drop (f : Int → Int) {m k : Nat} (h : k < m) : (wl f m).drop k = (f (k : Int)).toNat :: (wl f m).drop (k + 1) := by
  rw [List.drop_eq_getElem_cons (by rw [wl_len]; exact h)]
  congr 1
  simp [wl]
theorem wl_mem {f : Int → Int} {m : Nat} {n : Nat} (h : ∀ k : Nat, k < m → 0 ≤ f (k : Int) ∧ f (k : Int) < (n : Int)) : ∀ i, i ∈ wl f m → i < n := by
  intro i hi
  obtain ⟨k, hk, rfl⟩ := List.mem_map.mp hi
  have := h k (List.mem_range.mp hk)
  omega
theorem wl_congr {f g : Int → Int} {m : Nat} (h : ∀ k : Nat, k < m → f (k : Int) = g (k : Int)) : wl f m = wl g m := by
  refine List.map_congr_left (fun k hk => ?_)
  rw [h k (List.mem_range.mp hk)]
theorem RdL_wl {M : Nat → Nat → Int} {n : Nat} {f : Int → Int} {m : Nat} : RdL M n (wl f m) ↔ ∀ k : Nat, k < m → NB M n (wl f k) (f (k : Int)).toNat := by
  unfold RdL
  rw [wl_len]
  constructor
  · intro h k hk
    have := h k hk
    rw [wl_take f (by omega), wl_get f hk] at this
    exact this
  · intro h k hk
    rw [wl_take f (by omega), wl_get f hk]
    exact h k hk
/-! within a bad set stand 61 roots that are small and unlike, one of them higher than 11 -/
theorem bad_chain {M : Nat → Nat → Int} {n d : Nat} {pos : Nat → Nat} (hd : d < 65) (lt : ∀ a, a < bdK d → pos a < n) (inj : ∀ a b, a < bdK d → b < bdK d → pos a = pos b → a = b) (eq : ∀ a b, a < bdK d → b < bdK d → M (pos a) (pos b) = (bdN d a b : Int)) (P : (Nat → Int) → Prop) (hown : ∀ i, i < n → P (ownV i)) (hcl : ∀ x i, i < n → P x → (∀ j, 0 ≤ x j ∧ x j ≤ 127) → (∀ j, n ≤ j → x j = 0) → prg M n x i < 0 → (∀ j, 0 ≤ rfx M n x i j ∧ rfx M n x i j ≤ 127) → P (rfx M n x i)) : ∃ f : Nat → Nat → Int, (∀ m, m < 61 → P (f m) ∧ (∀ j, 0 ≤ f m j ∧ f m j ≤ 127) ∧ ∀ j, n ≤ j → f m j = 0) ∧ (∀ m p, m < 61 → p < m → ∃ j, j < n ∧ f m j ≠ f p j) ∧ ∃ m, m < 61 ∧ 12 ≤ sm n (f m) := by
  have hc := allN_e ch_ok d hd
  simp only [chB, Bool.and_eq_true] at hc
  obtain ⟨h1, h2, h3⟩ := hc
  obtain ⟨f, hf⟩ : ∃ f : Nat → Nat → Int, f = fun m => emb (bdK d) pos (fun b => (chN d m b : Int)) := ⟨_, rfl⟩
  have fat : ∀ m a, a < bdK d → f m (pos a) = (chN d m a : Int) := fun m a ha => by rw [hf]; exact emb_at inj ha
  have fout : ∀ m j, (∀ a, a < bdK d → pos a ≠ j) → f m j = 0 := fun m j h => by rw [hf]; exact emb_out h
  have frg : ∀ m, m < 61 → ∀ j, 0 ≤ f m j ∧ f m j ≤ 127 := fun m hm j => by
    by_cases h : ∃ a, a < bdK d ∧ pos a = j
    · obtain ⟨a, ha, rfl⟩ := h
      rw [fat m a ha]
      have := allN_e h1 m hm
      simp only [Bool.and_eq_true] at this
      have := Nat.ble_eq.mp (allN_e this.1 a ha)
      omega
    · rw [fout m j (fun a ha e => h ⟨a, ha, e⟩)]; omega
  have fz : ∀ m j, n ≤ j → f m j = 0 := fun m j hj => fout m j (fun a ha e => by have := lt a ha; omega)
  have hP : ∀ b m, m < b → m < 61 → P (f m) := by
    intro b
    induction b with
    | zero => intro m hm; omega
    | succ b ih =>
      intro m hm hm61
      have q := allN_e h1 m hm61
      simp only [Bool.and_eq_true] at q
      obtain ⟨-, q⟩ := q
      cases e : Nat.blt m (bdK d)
      · rw [e, cond_false] at q
        simp only [Bool.and_eq_true, Nat.blt_eq] at q
        generalize ((chT.getD d []).getD m ([], 0, 0)).2 = w at q
        obtain ⟨w1, w2, w3, w4⟩ := q
        have hp := ih w.1 (by omega) (by omega)
        have em : f m = rfx M n (f w.1) (pos w.2) := by
          funext x
          have epr : prg M n (f w.1) (pos w.2) = 2 * (chN d w.1 w.2 : Int) - sm (bdK d) (fun b => (bdN d w.2 b : Int) * (chN d w.1 b : Int)) := by
            unfold prg
            rw [fat _ _ w2]
            congr 1
            rw [hf, sm_emb lt]
            exact sm_congr (fun b hb => by rw [eq _ b w2 hb])
          unfold rfx
          by_cases hx : ∃ a, a < bdK d ∧ pos a = x
          · obtain ⟨a, ha, rfl⟩ := hx
            have h6 := allN_e w4 a ha
            by_cases e9 : a = w.2
            · subst e9
              rw [Nat.beq_refl, cond_true] at h6
              have h7 := Nat.beq_eq.mp h6
              rw [if_pos rfl, epr, fat _ _ ha, fat _ _ ha]
              have h8 : ((chN d m w.2 : Nat) : Int) + (chN d w.1 w.2 : Nat) = sm (bdK d) (fun b => (bdN d w.2 b : Int) * (chN d w.1 b : Int)) := by
                rw [← Int.natCast_add, h7, smN_c]
                exact sm_congr (fun b _ => by rw [Int.natCast_mul])
              omega
            · have : Nat.beq a w.2 = false := by cases h9 : Nat.beq a w.2; rfl; exact absurd (Nat.beq_eq.mp h9) e9
              rw [this, cond_false] at h6
              rw [if_neg (fun e2 => e9 (inj a w.2 ha w2 e2)), fat _ _ ha, fat _ _ ha, Nat.beq_eq.mp h6]
          · have ho : ∀ a, a < bdK d → pos a ≠ x := fun a ha e => hx ⟨a, ha, e⟩
            rw [if_neg (fun e => ho w.2 w2 e.symm), fout _ _ ho, fout _ _ ho]
        have hneg : prg M n (f w.1) (pos w.2) < 0 := by
          have e5 : f m (pos w.2) = f w.1 (pos w.2) - prg M n (f w.1) (pos w.2) := by rw [em]; simp [rfx]
          rw [fat _ _ w2, fat _ _ w2] at e5
          omega
        rw [em]
        exact hcl _ _ (lt _ w2) hp (frg _ (by omega)) (fz _) hneg (by rw [← em]; exact frg m hm61)
      · rw [e, cond_true] at q
        have hmK := Nat.blt_eq.mp e
        have : f m = ownV (pos m) := by
          rw [hf, ← emb_own inj hmK]
          refine emb_ext (fun b hb => ?_)
          have h6 := Nat.beq_eq.mp (allN_e q b hb)
          by_cases e9 : b = m
          · rw [e9] at h6 ⊢
            rw [Nat.beq_refl, cond_true] at h6
            rw [h6, if_pos rfl]; rfl
          · have : Nat.beq b m = false := by cases h9 : Nat.beq b m; rfl; exact absurd (Nat.beq_eq.mp h9) e9
            rw [this, cond_false] at h6
            rw [h6, if_neg e9]; rfl
        rw [this]
        exact hown _ (lt m hmK)
  refine ⟨f, fun m hm => ⟨hP _ m (Nat.lt_succ_self m) hm, frg m hm, fz m⟩, fun m p hm hp => ?_, ?_⟩
  · obtain ⟨b, hb, h5⟩ := anyN_e (allN_e (allN_e h2 m hm) p hp)
    refine ⟨pos b, lt b hb, fun e => ?_⟩
    rw [fat _ _ hb, fat _ _ hb] at e
    have e2 : chN d m b = chN d p b := by omega
    rw [e2, Nat.beq_refl] at h5
    cases h5
  · obtain ⟨m, hm, h5⟩ := anyN_e h3
    refine ⟨m, hm, ?_⟩
    have h6 := Nat.ble_eq.mp h5
    have e : sm n (f m) = sm n (fun j => 1 * f m j) := sm_congr (fun j _ => (Int.one_mul _).symm)
    rw [e, hf, sm_emb lt]
    have e2 : sm (bdK d) (fun a => (1 : Int) * (chN d m a : Int)) = ((smN (bdK d) (chN d m) : Nat) : Int) := by
      rw [smN_c]
      exact sm_congr (fun a _ => Int.one_mul _)
    rw [e2]
    omega
/-- a list that is closed under small turns upwards and has less than 61 members, or none higher than 11: the set ends -/
theorem noB_of {M : Nat → Nat → Int} {n : Nat} (P : (Nat → Int) → Prop) (hown : ∀ i, i < n → P (ownV i)) (hcl : ∀ x i, i < n → P x → (∀ j, 0 ≤ x j ∧ x j ≤ 127) → (∀ j, n ≤ j → x j = 0) → prg M n x i < 0 → (∀ j, 0 ≤ rfx M n x i j ∧ rfx M n x i j ≤ 127) → P (rfx M n x i)) (hend : ∀ f : Nat → Nat → Int, (∀ m, m < 61 → P (f m) ∧ (∀ j, 0 ≤ f m j ∧ f m j ≤ 127) ∧ ∀ j, n ≤ j → f m j = 0) → (∀ m p, m < 61 → p < m → ∃ j, j < n ∧ f m j ≠ f p j) → (∃ m, m < 61 ∧ 12 ≤ sm n (f m)) → False) : NoB M n := fun d pos hd lt inj eq => by
  obtain ⟨f, h1, h2, h3⟩ := bad_chain hd lt inj eq P hown hcl
  exact hend f h1 h2 h3
