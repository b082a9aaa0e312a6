section
/-! the law's words and walls -/
def L39 (MM : Nat → Nat → Int) (n : Nat) (w : wS) (S : wSt) : Prop := CI S ∧ kM S = MM ∧ kn S = n ∧ cSl S = w
theorem L39.pr {MM : Nat → Nat → Int} {n : Nat} {w : wS} {S S' : wSt} {X : Int × wS} {r : Int} (h : L39 MM n w S) (h1 : CI S') (h2 : Fr tXw S S') (h3 : X = (r, cSl S')) : L39 MM n X.2 S' ∧ r = X.1 := by
  obtain ⟨-, g2, g3, g4⟩ := h
  subst h3
  exact ⟨⟨h1, (kM_eq (h2 3 16 2 (by unfold tXw; omega)) (fun j => h2 5 16 j (by unfold tXw; omega))).trans g2, (kn_eq (h2 3 16 2 (by unfold tXw; omega))).trans g3, rfl⟩, rfl⟩
theorem L39.wl {MM : Nat → Nat → Int} {n : Nat} {w : wS} {S S' : wSt} {X r : Int} (h : L39 MM n w S) (h1 : CI S') (h2 : Fr tXw S S') (h3 : cSl S' = cSl S) (h4 : X = r) : L39 MM n w S' ∧ r = X := by
  obtain ⟨-, g2, g3, g4⟩ := h
  exact ⟨⟨h1, (kM_eq (h2 3 16 2 (by unfold tXw; omega)) (fun j => h2 5 16 j (by unfold tXw; omega))).trans g2, (kn_eq (h2 3 16 2 (by unfold tXw; omega))).trans g3, h3.trans g4⟩, h4.symm⟩
def W3 (u v t : List Nat) : wS := fun s => if s = 0 then u else if s = 1 then v else if s = 2 then t else []
theorem W3_e : eW = W3 [] [] [] := by
  funext s
  unfold eW W3
  repeat' split
  all_goals rfl
theorem W3_0 (u v t l : List Nat) : upw (W3 u v t) 0 l = W3 l v t := by
  funext s
  unfold upw W3
  split <;> simp_all
theorem W3_1 (u v t l : List Nat) : upw (W3 u v t) 1 l = W3 u l t := by
  funext s
  unfold upw W3
  by_cases e : s = 1
  · subst e; simp
  · simp [e]
theorem W3_2 (u v t l : List Nat) : upw (W3 u v t) 2 l = W3 u v l := by
  funext s
  unfold upw W3
  by_cases e : s = 2
  · subst e; simp
  · simp [e]
theorem put_e {n : Nat} {a x : Int} {w : wS} (ha : 0 ≤ a ∧ a < 8) (hx : 0 ≤ x ∧ x < n) (hl : (w a).length < 100) : fPut n a x w = (((w a).length : Int) + 1, upw w a (w a ++ [x.toNat])) := by
  unfold fPut
  rw [if_pos ⟨ha, hx⟩, if_neg (by omega)]
theorem upw_s (w : wS) (a : Int) (l : List Nat) : upw w a l a = l := if_pos rfl
theorem upw_n (w : wS) {a c : Int} (l : List Nat) (h : c ≠ a) : upw w a l c = w c := if_neg h
theorem way_e {M : Nat → Nat → Int} {n : Nat} {a b c : Int} {w : wS} {u v F : List Nat} (ha : 0 ≤ a ∧ a < 8) (hb : 0 ≤ b ∧ b < 8) (hc : 0 ≤ c ∧ c < 8) (hu : w a = u) (hv : w b = v) (hl : u.length + v.length ≤ 100) (hF : fwP M n (u.reverse ++ v) = some F) : fWay M n a b c w = ((F.length : Int), upw w c F) := by
  unfold fWay
  rw [if_pos ⟨ha, hb, hc⟩, hu, hv, if_neg (by omega), hF]
  rfl
theorem times_e {a b c : Int} {w : wS} {u v : List Nat} (ha : 0 ≤ a ∧ a < 8) (hb : 0 ≤ b ∧ b < 8) (hc : 0 ≤ c ∧ c < 8) (hu : w a = u) (hv : w b = v) (hl : u.length + v.length ≤ 100) : fTimes a b c w = (((u ++ v).length : Int), upw w c (u ++ v)) := by
  unfold fTimes
  rw [if_pos ⟨ha, hb, hc⟩, hu, hv, if_neg (by omega)]
  rfl
theorem back_e {a b : Int} {w : wS} {u : List Nat} (ha : 0 ≤ a ∧ a < 8) (hb : 0 ≤ b ∧ b < 8) (hu : w a = u) : fBack a b w = ((u.reverse.length : Int), upw w b u.reverse) := by
  unfold fBack
  rw [if_pos ⟨ha, hb⟩, hu]
  rfl
theorem form_e {M : Nat → Nat → Int} {n : Nat} {a b : Int} {w : wS} {u F : List Nat} (ha : 0 ≤ a ∧ a < 8) (hb : 0 ≤ b ∧ b < 8) (hu : w a = u) (hF : fwP M n u = some F) : fForm M n a b w = ((F.length : Int), upw w b F) := by
  unfold fForm
  rw [if_pos ⟨ha, hb⟩, hu, hF]
  rfl
theorem same_e {M : Nat → Nat → Int} {n : Nat} {a b : Int} {w : wS} {u v F : List Nat} (ha : 0 ≤ a ∧ a < 8) (hb : 0 ≤ b ∧ b < 8) (hu : w a = u) (hv : w b = v) (hF : fwP M n u = some F) (hG : fwP M n v = some F) : fSame M n a b w = 1 := by
  unfold fSame
  rw [if_pos ⟨ha, hb⟩, hu, hv, hF, hG, likP_z]
  exact bz_t rfl
theorem at_l {a : Int} {w : wS} {u : List Nat} (ha : 0 ≤ a ∧ a < 8) (hu : w a = u) : fAt a (-1) w = (u.length : Int) := by
  unfold fAt
  rw [if_pos ⟨ha, by omega, by rw [hu]; omega⟩, if_pos rfl, hu]
theorem at_k {a k : Int} {w : wS} {u : List Nat} (ha : 0 ≤ a ∧ a < 8) (hu : w a = u) (hk : 0 ≤ k ∧ k < u.length) : fAt a k w = ((u.getD k.toNat 0 : Nat) : Int) := by
  unfold fAt
  rw [if_pos ⟨ha, by omega, by rw [hu]; omega⟩, if_neg (by omega), hu]
/-- what is known of the words while the walls are looked at -/
def Q39 (MM : Nat → Nat → Int) (n : Nat) (d : Nat → Int) (R : List (Nat → Int)) (u v F G : List Nat) (w : wS) : Prop := (EndL MM n R ∧ Evn d MM n ∧ mB MM ∧ (1 ≤ n ∧ n ≤ 6)) ∧ ((∀ i, i ∈ u → i < n) ∧ (∀ i, i ∈ v → i < n) ∧ u.length + v.length ≤ 100) ∧ (w 0 = u ∧ w 1 = v) ∧ (fwP MM n (u.reverse ++ v) = some F ∧ Mnw MM n F ∧ Sam MM n F (u.reverse ++ v)) ∧ (fwP MM n (v.reverse ++ u) = some G ∧ Mnw MM n G ∧ Sam MM n G (v.reverse ++ u))
section QV
variable {MM : Nat → Nat → Int} {n : Nat} {d : Nat → Int} {R : List (Nat → Int)} {u v F G : List Nat} {w : wS}
theorem Q39.len (h : Q39 MM n d R u v F G w) : G.length = F.length := (back_len h.1.2.2.1 h.2.2.2.1.2.1 h.2.2.2.1.2.2 h.2.2.2.2.2.1 h.2.2.2.2.2.2).1
theorem Q39.w1 (h : Q39 MM n d R u v F G w) {i j : Int} (i0 : 0 ≤ i ∧ i < F.length) (j0 : 0 ≤ j ∧ j < n) : fWal MM n 0 1 i j w = wab (bta MM n u F i.toNat) j.toNat := by
  obtain ⟨-, ⟨-, -, hl⟩, ⟨h0, h1⟩, ⟨hF, -⟩, -⟩ := h
  have := fWal_s (M := MM) (n := n) (a := 0) (b := 1) (k := i) (j := j) (w := w) (F := F) ⟨by omega, by omega, i0.1, j0, by rw [h0, h1]; omega⟩ (by rw [h0, h1]; exact hF) i0.2
  rw [h0] at this
  exact this
theorem Q39.w2 (h : Q39 MM n d R u v F G w) {i j : Int} (i0 : 0 ≤ i ∧ i < G.length) (j0 : 0 ≤ j ∧ j < n) : fWal MM n 1 0 i j w = wab (bta MM n v G i.toNat) j.toNat := by
  obtain ⟨-, ⟨-, -, hl⟩, ⟨h0, h1⟩, -, ⟨hG, -⟩⟩ := h
  have := fWal_s (M := MM) (n := n) (a := 1) (b := 0) (k := i) (j := j) (w := w) (F := G) ⟨by omega, by omega, i0.1, j0, by rw [h0, h1]; omega⟩ (by rw [h0, h1]; exact hG) i0.2
  rw [h1] at this
  exact this
theorem Q39.wk (h : Q39 MM n d R u v F G w) {j : Int} (j0 : 0 ≤ j ∧ j < n) : fWal MM n 0 1 (F.length : Int) j w = -10000000000001 := by
  obtain ⟨-, ⟨-, -, hl⟩, ⟨h0, h1⟩, ⟨hF, -⟩, -⟩ := h
  exact fWal_k ⟨by omega, by omega, by omega, j0, by rw [h0, h1]; omega⟩ (by rw [h0, h1]; exact hF) (Int.le_refl _)
theorem Q39.r1 (h : Q39 MM n d R u v F G w) {i : Int} (i0 : 0 ≤ i ∧ i < F.length) (j : Nat) : 0 ≤ wab (bta MM n u F i.toNat) j ∧ wab (bta MM n u F i.toNat) j ≤ 6 := (wall_pos h.1.1 (bta_UL h.1.2.2.1 h.1.2.1 h.1.1 h.2.1.1 h.2.2.2.1.2.1 (by omega))).1 j
theorem Q39.r2 (h : Q39 MM n d R u v F G w) {i : Int} (i0 : 0 ≤ i ∧ i < G.length) (j : Nat) : 0 ≤ wab (bta MM n v G i.toNat) j ∧ wab (bta MM n v G i.toNat) j ≤ 6 := (wall_pos h.1.1 (bta_UL h.1.2.2.1 h.1.2.1 h.1.1 h.2.1.2.1 h.2.2.2.2.2.1 (by omega))).1 j
theorem Q39.pos (h : Q39 MM n d R u v F G w) {i : Int} (i0 : 0 ≤ i ∧ i < F.length) (hz : ∀ j : Int, 0 ≤ j → j < n → wab (bta MM n u F i.toNat) j.toNat ≤ 0) : False := by
  obtain ⟨j, j1, j2⟩ := (wall_pos h.1.1 (bta_UL h.1.2.2.1 h.1.2.1 h.1.1 h.2.1.1 h.2.2.2.1.2.1 (i := i.toNat) (by omega))).2.1
  have := hz (j : Int) (by omega) (by omega)
  rw [Int.toNat_natCast] at this
  omega
theorem Q39.two (h : Q39 MM n d R u v F G w) {c i : Int} (c0 : 0 ≤ c) (ci : c < i) (i1 : i < F.length) (hz : ∀ j : Int, 0 ≤ j → j < n → wab (bta MM n u F c.toNat) j.toNat = wab (bta MM n u F i.toNat) j.toNat) : False := by
  obtain ⟨j, j1, j2⟩ := wall_two h.1.2.2.1 h.1.2.1 h.1.1 h.2.1.1 h.2.2.2.1.2.1 (c := c.toNat) (i := i.toNat) (by omega) (by omega)
  have := hz (j : Int) (by omega) (by omega)
  rw [Int.toNat_natCast] at this
  exact j2 this
theorem Q39.met (h : Q39 MM n d R u v F G w) {i : Int} (i0 : 0 ≤ i ∧ i < F.length) (hz : ∀ c : Int, 0 ≤ c → c < F.length → ∃ j : Int, (0 ≤ j ∧ j < n) ∧ wab (bta MM n v G c.toNat) j.toNat ≠ wab (bta MM n u F i.toNat) j.toNat) : False := by
  obtain ⟨c, c1, c2⟩ := wall_back h.1.2.2.1 h.1.2.1 h.1.1 h.2.1.1 h.2.2.2.1.2.1 h.2.2.2.1.2.2 h.2.2.2.2.2.1 h.2.2.2.2.2.2 (i := i.toNat) (by omega)
  obtain ⟨j, -, j2⟩ := hz (c : Int) (by omega) (by rw [h.len] at c1; omega)
  rw [Int.toNat_natCast] at j2
  exact j2 (by rw [c2])
end QV
theorem Q39.lF {MM : Nat → Nat → Int} {n : Nat} {d : Nat → Int} {R : List (Nat → Int)} {u v F G : List Nat} {w : wS} (h : Q39 MM n d R u v F G w) : F.length ≤ 100 := by
  obtain ⟨-, ⟨hu, hv, hl⟩, -, ⟨-, hF, hs⟩, -⟩ := h
  have := hF.2 (u.reverse ++ v) (fun i hi => by
    rcases List.mem_append.mp hi with z | z
    · exact hu i (List.mem_reverse.mp z)
    · exact hv i z) (fun x => (hs x).symm)
  rw [List.length_append, List.length_reverse] at this
  omega
end
