section
theorem cSl_e {S : wSt} (h : ∀ s, 0 ≤ s → s < 8 → S 1 s 1 = 0) : cSl S = eW := by
  funext s
  show cSl S s = []
  by_cases hs : 0 ≤ s ∧ s < 8
  · rw [cSl_at hs.1 hs.2]
    unfold kP
    rw [h s hs.1 hs.2]
    rfl
  · exact cSl_no hs
/-- the words and the forms -/
def tFm (k : Nat) (_i _j : Int) : Prop := k = 1 ∨ k = 2 ∨ k = 11 ∨ (16 ≤ k ∧ k ≤ 19) ∨ k = 22 ∨ k = 24
theorem tFm_tX {S S' : wSt} (h : Fr tFm S S') : Fr tX S S' := h.mono (fun k i j q => by unfold tFm at q; unfold tX; omega)
theorem tC_tFm {S S' : wSt} (h : Fr tC S S') : Fr tFm S S' := h.mono (fun k i j q => by unfold tC at q; unfold tFm; omega)
theorem fWd_tFm {a : Int} {S S' : wSt} (h : Fr (fWd a) S S') : Fr tFm S S' := h.mono (fun k i j q => by unfold fWd at q; unfold tFm; omega)
theorem fFm_tFm {S S' : wSt} (h : Fr fFm S S') : Fr tFm S S' := h.mono (fun k i j q => by unfold fFm at q; unfold tFm; omega)
theorem cSl_fFm {S W : wSt} (f : Fr fFm S W) : cSl W = cSl S := cSl_fr (fun s _ _ => ⟨f 1 s 1 (by unfold fFm; omega), fun j => f 2 s j (by unfold fFm; omega)⟩)
theorem cSl_fRt {S W : wSt} (f : Fr fRt S W) : cSl W = cSl S := cSl_fr (fun s _ _ => ⟨f 1 s 1 (by unfold fRt; omega), fun j => f 2 s j (by unfold fRt; omega)⟩)
theorem FLF.rt {S W : wSt} (h : FLF S) (f : Fr fRt S W) : FLF W := h.fr (f 3 16 2 (by unfold fRt; omega)) (fun j => f 5 16 j (by unfold fRt; omega)) (fun j => f 16 0 j (by unfold fRt; omega)) (fun j => f 17 0 j (by unfold fRt; omega)) (fun j => f 18 0 j (by unfold fRt; omega))
end
section
set_option maxHeartbeats 4000000 in
set_option maxRecDepth 100000 in
theorem f_X7_mirror {g : wG} (hD : wD g) {S : wSt} {a : Int} (ha : -2147483648 ≤ a ∧ a ≤ 2147483647) (hRS : CI S) (l : Launch) : Kt l yX7_mirror wsX7_mirror ({ frames := 3, cells := 0, slots := 0, locals := 68 } : Room) g S [vr g 0 0, vi a] (pI (fun r S' => CI S' ∧ Fr tY S S' ∧ (cSl S' = if 0 ≤ r then eW else cSl S) ∧ (FLF S → FLF S') ∧ (RLX S → RLX S') ∧ ∀ x, AC S x → AC S' (aMirror a x) ∧ r = rMirror a x)) := by
  refine Kt.of (cc := cX7_mirror) (nL := 3) (ret := (some .int)) (own := RX7) rfl hD (by decide) rfl (Nat.le_of_ble_eq_true rfl) ⟨rfl, rfl⟩ ?_
  intro E hC hR9
  have f12 : Cond.fieldLink RX7 12 "MirrorBench" "set" "LMirrorBench$Mirrors;" ∈ wsX7_mirror := by decide +kernel
  have f19 : Cond.fieldLink RX7 19 "MirrorBench" "history" "LMirrorBench$History;" ∈ wsX7_mirror := by decide +kernel
  have f83 : Cond.fieldLink RX7 83 "MirrorBench$Mirrors" "size" "I" ∈ wsX7_mirror := by decide +kernel
  have w3 : ∀ w ∈ wsX30, w ∈ wsX7_mirror := by decide +kernel
  have w7 : ∀ w ∈ wsX70, w ∈ wsX7_mirror := by decide +kernel
  show Wk E g 3 S 0 [(0, vr g 0 0), (1, vi a)] []
  have hfS : Fr tY S S := Fr.rfl _ S
  have hn := hRS.n
  refine kw_iload_n hC dX7_mirror_0 rfl 1 rfl ?_
  refine kw_callS hC (d_X7_isKind hD (by omega)) gX7_mirror_X7_isKind rfl ⟨rfl, rfl⟩ 1 (by decide +kernel) ⟨by decide, by decide⟩ rfl rfl (Nat.le_of_ble_eq_true rfl) dX7_mirror_1 rfl (kd_ie ?_)
  refine kw_ifne_b (tgt := 9) hC dX7_mirror_4 rfl (by decide) ⟨fun c4 => ?_, fun c4 => ?_⟩
  · refine kw_aload_n hC dX7_mirror_9 rfl 0 rfl ?_
    refine kg_0_0 hC w7 f12 dX7_mirror_10 rfl (by decide) (by decide) ?_
    refine kg_3_2 hC w3 f83 dX7_mirror_13 rfl (by omega) (by omega) ?_
    refine kw_bipush hC dX7_mirror_16 rfl (by decide) ?_
    refine kw_icmp_ne (tgt := 24) hC dX7_mirror_18 rfl (by decide) (by omega) (by omega) ⟨fun c18 => ?_, fun c18 => ?_⟩
    · refine kw_aload_n hC dX7_mirror_24 rfl 0 rfl ?_
      refine kg_0_1 hC w7 f19 dX7_mirror_25 rfl (by decide) (by decide) ?_
      refine kw_aload_n hC dX7_mirror_28 rfl 0 rfl ?_
      refine kg_0_0 hC w7 f12 dX7_mirror_29 rfl (by decide) (by decide) ?_
      refine kw_callV hC (d_X1_keep hD hRS) gX7_mirror_X1_keep ⟨_, rfl⟩ rfl (by decide) (by decide) rfl ⟨rfl, rfl⟩ 1 (by decide +kernel) ⟨by decide, by decide⟩ rfl rfl (Nat.le_of_ble_eq_true rfl) dX7_mirror_32 rfl (kd_v (fun S3 hp3 => ?_))
      obtain ⟨hg3, hp3⟩ := hp3
      have hfS3 : Fr tY S S3 := hfS.trans (hg3.mono (fun k i j h => by unfold fH at h; unfold tY; omega))
      have hK := hp3
      have hgK := hg3
      have k0 : S3 3 16 2 = S 3 16 2 := hg3 3 16 2 (by unfold fH; omega)
      have k4 : ∀ j, S3 4 16 j = S 4 16 j := fun j => hg3 4 16 j (by unfold fH; omega)
      have k5 : ∀ j, S3 5 16 j = S 5 16 j := fun j => hg3 5 16 j (by unfold fH; omega)
      refine kw_aload_n hC dX7_mirror_35 rfl 0 rfl ?_
      refine kg_0_0 hC w7 f12 dX7_mirror_36 rfl (by decide) (by decide) ?_
      refine kw_iload_n hC dX7_mirror_39 rfl 1 rfl ?_
      refine kw_callV hC (d_X3_addMirror hD (by omega) (by omega) (by omega) (by omega)) gX7_mirror_X3_addMirror ⟨_, rfl⟩ rfl (by omega) (show (16 : Int) < 17 by omega) rfl ⟨rfl, rfl⟩ 1 (by decide +kernel) ⟨by decide, by decide⟩ rfl rfl (Nat.le_of_ble_eq_true rfl) dX7_mirror_40 rfl (kd_i (fun r4 S4 hp4 => ?_))
      obtain ⟨hg4, hp4⟩ := hp4
      have hfS4 : Fr tY S S4 := hfS3.trans (hg4.mono (fun k i j h => by unfold fT3 at h; unfold tY; omega))
      obtain ⟨hr9, y2, y3, y4, y5⟩ := hp4
      have hgM := hg4
      refine kw_istore_n (lv' := [(2, _), (0, _), (1, _)]) hC dX7_mirror_43 rfl (by decide) rfl ?_
      refine kw_aload_n hC dX7_mirror_44 rfl 1 rfl ?_
      refine kw_callV hC (d_X7_startAnew hD ) gX7_mirror_X7_startAnew ⟨_, rfl⟩ rfl (by decide) (by decide) rfl ⟨rfl, rfl⟩ 0 (by decide +kernel) ⟨by decide, by decide⟩ rfl rfl (Nat.le_of_ble_eq_true rfl) dX7_mirror_45 rfl (kd_v (fun S5 hp5 => ?_))
      obtain ⟨hg5, hp5⟩ := hp5
      have hfS5 : Fr tY S S5 := hfS4.trans (hg5.mono (fun k i j h => by unfold fN at h; unfold tY; omega))
      obtain ⟨hw1, h12, h16⟩ := hp5
      have z3 : ∀ c j, S5 3 c j = S4 3 c j := fun c j => hg5 3 c j (by unfold fN; omega)
      have z4 : ∀ c j, S5 4 c j = S4 4 c j := fun c j => hg5 4 c j (by unfold fN; omega)
      have z5 : ∀ c j, S5 5 c j = S4 5 c j := fun c j => hg5 5 c j (by unfold fN; omega)
      have z8 : ∀ j, S5 8 0 j = S4 8 0 j := fun j => hg5 8 0 j (by unfold fN; omega)
      have n3 : S5 3 16 2 = S 3 16 2 + 1 := by rw [z3, y2, k0]
      have n4 : S5 4 16 (S 3 16 2) = a := by rw [z4, ← k0]; exact y3
      have n4o : ∀ i, i ≠ S 3 16 2 → S5 4 16 i = S 4 16 i := fun i hi => by rw [z4, y4 i (by omega), k4]
      have n5 : ∀ j, S5 5 16 j = S 5 16 j := fun j => by rw [z5, y5, k5]
      have hK9 : KpC S S5 := hK.tr hRS.hs.1 (fun c hc => by rw [z3]; exact hgM 3 c 2 (by unfold fT3; omega)) (fun c j hc => by rw [z4]; exact hgM 4 c j (by unfold fT3; omega)) (fun c j hc => by rw [z5]; exact hgM 5 c j (by unfold fT3; omega)) (fun j => by rw [z8]; exact hgM 8 0 j (by unfold fT3; omega))
      have hz9 : ∀ j, 0 ≤ j → j < 6 → S5 5 16 (6 * S 3 16 2 + j) = 0 ∧ S5 5 16 (6 * j + S 3 16 2) = 0 := fun j j0 j1 => by rw [n5, n5]; exact ⟨hRS.zb _ j (by omega) (by omega) j0 j1 (by omega), hRS.zb j _ j0 j1 (by omega) (by omega) (by omega)⟩
      have hi8 : CI S5 := hK9.ci hRS ⟨by rw [n3]; exact hRS.set.mirror (by omega) (by omega) n4 n4o hz9 (fun i j _ _ _ _ _ _ => n5 _), fun i j i0 i1 j0 j1 hh => by rw [n5]; rw [n3] at hh; exact hRS.zb i j i0 i1 j0 j1 (by omega)⟩ hfS5 hw1 h12 h16
      refine kw_iload_n hC dX7_mirror_48 rfl 0 rfl ?_
      exact hR9.1 rfl _ _ _ _ dX7_mirror_49 ⟨_, rfl, hi8, hfS5, (cSl_e hw1).trans (if_pos (by first | omega | exact (mAt_r _ _ _ _).1)).symm, fun _ => FLF.new h16.1 h16.2 hi8.fl.2.2.1, fun _ => RLX.new h12.1 h12.2 hi8.rl.2.2.1, fun x hx => by have e := hx.1.1; have hk9 : 0 ≤ a ∧ a ≤ 2 := (by omega); have h6 : ¬ x.1.1 = 6 := (by omega); unfold aMirror rMirror; rw [if_pos hk9, if_pos hk9, if_neg h6, if_neg h6]; exact ⟨hK9.ac hRS hx (by rw [n3]; exact hx.1.mirror (by omega) n4 n4o hz9 (fun i j _ _ _ _ _ _ => n5 _)), by omega⟩⟩
    · refine kw_bipush hC dX7_mirror_21 rfl (by decide) ?_
      exact hR9.1 rfl _ _ _ _ dX7_mirror_23 ⟨_, rfl, hRS, Fr.rfl _ S, (if_neg (by omega)).symm, id, id, fun x hx => by have e := hx.1.1; have e4 := hx.2.1; unfold aMirror rMirror; rw [if_pos (by omega), if_pos (by omega), if_pos (by omega), if_pos (by omega)]; exact ⟨hx, rfl⟩⟩
  · refine kw_iconst hC dX7_mirror_7 rfl ?_
    exact hR9.1 rfl _ _ _ _ dX7_mirror_8 ⟨_, rfl, hRS, Fr.rfl _ S, (if_neg (by omega)).symm, id, id, fun x hx => by have e := hx.1.1; have e4 := hx.2.1; unfold aMirror rMirror; rw [if_neg (by omega), if_neg (by omega)]; exact ⟨hx, rfl⟩⟩

set_option maxHeartbeats 4000000 in
set_option maxRecDepth 100000 in
theorem f_X7_meet {g : wG} (hD : wD g) {S : wSt} {a b c d : Int} (ha : -2147483648 ≤ a ∧ a ≤ 2147483647) (hb : -2147483648 ≤ b ∧ b ≤ 2147483647) (hc : -2147483648 ≤ c ∧ c ≤ 2147483647) (hd : -2147483648 ≤ d ∧ d ≤ 2147483647) (hRS : CI S) (l : Launch) : Kt l yX7_meet wsX7_meet ({ frames := 3, cells := 0, slots := 0, locals := 68 } : Room) g S [vr g 0 0, vi a, vi b, vi c, vi d] (pI (fun r S' => CI S' ∧ Fr tY S S' ∧ (cSl S' = if 0 ≤ r then eW else cSl S) ∧ (FLF S → FLF S') ∧ (RLX S → RLX S') ∧ ∀ x, AC S x → AC S' (aMeet a b c d x) ∧ r = rMeet a b c d x)) := by
  refine Kt.of (cc := cX7_meet) (nL := 5) (ret := (some .int)) (own := RX7) rfl hD (by decide) rfl (Nat.le_of_ble_eq_true rfl) ⟨rfl, rfl⟩ ?_
  intro E hC hR9
  have f12 : Cond.fieldLink RX7 12 "MirrorBench" "set" "LMirrorBench$Mirrors;" ∈ wsX7_meet := by decide +kernel
  have f19 : Cond.fieldLink RX7 19 "MirrorBench" "history" "LMirrorBench$History;" ∈ wsX7_meet := by decide +kernel
  have w7 : ∀ w ∈ wsX70, w ∈ wsX7_meet := by decide +kernel
  show Wk E g 5 S 0 [(0, vr g 0 0), (1, vi a), (2, vi b), (3, vi c), (4, vi d)] []
  have hfS : Fr tY S S := Fr.rfl _ S
  have hn := hRS.n
  refine kw_aload_n hC dX7_meet_0 rfl 0 rfl ?_
  refine kg_0_0 hC w7 f12 dX7_meet_1 rfl (by decide) (by decide) ?_
  refine kw_iload_n hC dX7_meet_4 rfl 1 rfl ?_
  refine kw_callV hC (d_X3_has hD (by omega) (by omega) (by omega) (by omega) (by omega)) gX7_meet_X3_has ⟨_, rfl⟩ rfl (by omega) (show (16 : Int) < 17 by omega) rfl ⟨rfl, rfl⟩ 1 (by decide +kernel) ⟨by decide, by decide⟩ rfl rfl (Nat.le_of_ble_eq_true rfl) dX7_meet_5 rfl (kd_ie ?_)
  refine kw_ifeq_b (tgt := 36) hC dX7_meet_8 rfl (by decide) ⟨fun c8 => ?_, fun c8 => ?_⟩
  · refine kw_iconst hC dX7_meet_36 rfl ?_
    exact hR9.1 rfl _ _ _ _ dX7_meet_37 ⟨_, rfl, hRS, Fr.rfl _ S, (if_neg (by omega)).symm, id, id, fun x hx => by have e := hx.1.1; have hno : ¬ oMeet a b c d x.1.1 := (fun q => by obtain ⟨⟨q1, q2⟩, q3, q4, q5, q6⟩ := q; first | omega | exact c33 ⟨q4, q5, q6⟩); unfold aMeet rMeet; rw [if_neg hno, if_neg hno]; exact ⟨hx, rfl⟩⟩
  · refine kw_aload_n hC dX7_meet_11 rfl 0 rfl ?_
    refine kg_0_0 hC w7 f12 dX7_meet_12 rfl (by decide) (by decide) ?_
    refine kw_iload_n hC dX7_meet_15 rfl 2 rfl ?_
    refine kw_callV hC (d_X3_has hD (by omega) (by omega) (by omega) (by omega) (by omega)) gX7_meet_X3_has ⟨_, rfl⟩ rfl (by omega) (show (16 : Int) < 17 by omega) rfl ⟨rfl, rfl⟩ 1 (by decide +kernel) ⟨by decide, by decide⟩ rfl rfl (Nat.le_of_ble_eq_true rfl) dX7_meet_16 rfl (kd_ie ?_)
    refine kw_ifeq_b (tgt := 36) hC dX7_meet_19 rfl (by decide) ⟨fun c19 => ?_, fun c19 => ?_⟩
    · refine kw_iconst hC dX7_meet_36 rfl ?_
      exact hR9.1 rfl _ _ _ _ dX7_meet_37 ⟨_, rfl, hRS, Fr.rfl _ S, (if_neg (by omega)).symm, id, id, fun x hx => by have e := hx.1.1; have hno : ¬ oMeet a b c d x.1.1 := (fun q => by obtain ⟨⟨q1, q2⟩, q3, q4, q5, q6⟩ := q; first | omega | exact c33 ⟨q4, q5, q6⟩); unfold aMeet rMeet; rw [if_neg hno, if_neg hno]; exact ⟨hx, rfl⟩⟩
    · refine kw_iload_n hC dX7_meet_22 rfl 1 rfl ?_
      refine kw_iload_n hC dX7_meet_23 rfl 2 rfl ?_
      refine kw_icmp_eq (tgt := 36) hC dX7_meet_24 rfl (by decide) (by omega) (by omega) ⟨fun c24 => ?_, fun c24 => ?_⟩
      · refine kw_iconst hC dX7_meet_36 rfl ?_
        exact hR9.1 rfl _ _ _ _ dX7_meet_37 ⟨_, rfl, hRS, Fr.rfl _ S, (if_neg (by omega)).symm, id, id, fun x hx => by have e := hx.1.1; have hno : ¬ oMeet a b c d x.1.1 := (fun q => by obtain ⟨⟨q1, q2⟩, q3, q4, q5, q6⟩ := q; first | omega | exact c33 ⟨q4, q5, q6⟩); unfold aMeet rMeet; rw [if_neg hno, if_neg hno]; exact ⟨hx, rfl⟩⟩
      · refine kw_iload_n hC dX7_meet_27 rfl 3 rfl ?_
        refine kw_iload hC dX7_meet_28 rfl 4 rfl ?_
        refine kw_callS hC (d_X7_areMeetingNumbers hD (by omega) (by omega)) gX7_meet_X7_areMeetingNumbers rfl ⟨rfl, rfl⟩ 2 (by decide +kernel) ⟨by decide, by decide⟩ rfl rfl (Nat.le_of_ble_eq_true rfl) dX7_meet_30 rfl (kd_ie ?_)
        refine kw_ifne_b (tgt := 38) hC dX7_meet_33 rfl (by decide) ⟨fun c33 => ?_, fun c33 => ?_⟩
        · refine kw_aload_n hC dX7_meet_38 rfl 0 rfl ?_
          refine kg_0_1 hC w7 f19 dX7_meet_39 rfl (by decide) (by decide) ?_
          refine kw_aload_n hC dX7_meet_42 rfl 0 rfl ?_
          refine kg_0_0 hC w7 f12 dX7_meet_43 rfl (by decide) (by decide) ?_
          refine kw_callV hC (d_X1_keep hD hRS) gX7_meet_X1_keep ⟨_, rfl⟩ rfl (by decide) (by decide) rfl ⟨rfl, rfl⟩ 1 (by decide +kernel) ⟨by decide, by decide⟩ rfl rfl (Nat.le_of_ble_eq_true rfl) dX7_meet_46 rfl (kd_v (fun S5 hp5 => ?_))
          obtain ⟨hg5, hp5⟩ := hp5
          have hfS5 : Fr tY S S5 := hfS.trans (hg5.mono (fun k i j h => by unfold fH at h; unfold tY; omega))
          have hK := hp5
          have hgK := hg5
          have k0 : S5 3 16 2 = S 3 16 2 := hg5 3 16 2 (by unfold fH; omega)
          have k4 : ∀ j, S5 4 16 j = S 4 16 j := fun j => hg5 4 16 j (by unfold fH; omega)
          have k5 : ∀ j, S5 5 16 j = S 5 16 j := fun j => hg5 5 16 j (by unfold fH; omega)
          refine kw_aload_n hC dX7_meet_49 rfl 0 rfl ?_
          refine kg_0_0 hC w7 f12 dX7_meet_50 rfl (by decide) (by decide) ?_
          refine kw_iload_n hC dX7_meet_53 rfl 1 rfl ?_
          refine kw_iload_n hC dX7_meet_54 rfl 2 rfl ?_
          refine kw_iload_n hC dX7_meet_55 rfl 3 rfl ?_
          refine kw_iload hC dX7_meet_56 rfl 4 rfl ?_
          refine kw_callV hC (d_X3_setNumbers hD (by omega) (by omega) (by omega) (by omega) (by omega) (by omega)) gX7_meet_X3_setNumbers ⟨_, rfl⟩ rfl (by omega) (show (16 : Int) < 17 by omega) rfl ⟨rfl, rfl⟩ 4 (by decide +kernel) ⟨by decide, by decide⟩ rfl rfl (Nat.le_of_ble_eq_true rfl) dX7_meet_58 rfl (kd_v (fun S6 hp6 => ?_))
          obtain ⟨hg6, hp6⟩ := hp6
          have hfS6 : Fr tY S S6 := hfS5.trans (hg6.mono (fun k i j h => by unfold fT3 at h; unfold tY; omega))
          obtain ⟨y1, y2, y3, y4, y5⟩ := hp6
          have hgM := hg6
          refine kw_aload_n hC dX7_meet_61 rfl 0 rfl ?_
          refine kw_callV hC (d_X7_startAnew hD ) gX7_meet_X7_startAnew ⟨_, rfl⟩ rfl (by decide) (by decide) rfl ⟨rfl, rfl⟩ 0 (by decide +kernel) ⟨by decide, by decide⟩ rfl rfl (Nat.le_of_ble_eq_true rfl) dX7_meet_62 rfl (kd_v (fun S7 hp7 => ?_))
          obtain ⟨hg7, hp7⟩ := hp7
          have hfS7 : Fr tY S S7 := hfS6.trans (hg7.mono (fun k i j h => by unfold fN at h; unfold tY; omega))
          obtain ⟨hw1, h12, h16⟩ := hp7
          have z3 : ∀ c j, S7 3 c j = S6 3 c j := fun c j => hg7 3 c j (by unfold fN; omega)
          have z4 : ∀ c j, S7 4 c j = S6 4 c j := fun c j => hg7 4 c j (by unfold fN; omega)
          have z5 : ∀ c j, S7 5 c j = S6 5 c j := fun c j => hg7 5 c j (by unfold fN; omega)
          have z8 : ∀ j, S7 8 0 j = S6 8 0 j := fun j => hg7 8 0 j (by unfold fN; omega)
          have n3 : S7 3 16 2 = S 3 16 2 := by rw [z3, y4, k0]
          have n4 : ∀ j, S7 4 16 j = S 4 16 j := fun j => by rw [z4, y5, k4]
          have m1 : S7 5 16 (6 * a + b) = c := by rw [z5]; exact y2 (Or.inl c24)
          have m2 : S7 5 16 (6 * b + a) = d := by rw [z5]; exact y1
          have m3 : ∀ p, p ≠ 6 * a + b → p ≠ 6 * b + a → S7 5 16 p = S 5 16 p := fun p q1 q2 => by rw [z5, y3 p q1 q2, k5]
          have hK9 : KpC S S7 := hK.tr hRS.hs.1 (fun c hc => by rw [z3]; exact hgM 3 c 2 (by unfold fT3; omega)) (fun c j hc => by rw [z4]; exact hgM 4 c j (by unfold fT3; omega)) (fun c j hc => by rw [z5]; exact hgM 5 c j (by unfold fT3; omega)) (fun j => by rw [z8]; exact hgM 8 0 j (by unfold fT3; omega))
          have hi8 : CI S7 := hK9.ci hRS ⟨by rw [n3]; exact hRS.set.meet (by omega) (by omega) c24 c33.1 c33.2.1 c33.2.2 n4 m1 m2 m3, fun i j i0 i1 j0 j1 hh => by rw [n3] at hh; rw [m3 _ (by omega) (by omega)]; exact hRS.zb i j i0 i1 j0 j1 hh⟩ hfS7 hw1 h12 h16
          refine kw_aload_n hC dX7_meet_65 rfl 0 rfl ?_
          refine kg_0_0 hC w7 f12 dX7_meet_66 rfl (by decide) (by decide) ?_
          refine kw_iload_n hC dX7_meet_69 rfl 1 rfl ?_
          refine kw_iload_n hC dX7_meet_70 rfl 2 rfl ?_
          refine kw_callV hC (d_X3_meetsAt hD (by omega) (by omega) (by omega) (by omega) hi8) gX7_meet_X3_meetsAt ⟨_, rfl⟩ rfl (by omega) (show (16 : Int) < 17 by omega) rfl ⟨rfl, rfl⟩ 2 (by decide +kernel) ⟨by decide, by decide⟩ rfl rfl (Nat.le_of_ble_eq_true rfl) dX7_meet_71 rfl (kd_ie ?_)
          exact hR9.1 rfl _ _ _ _ dX7_meet_74 ⟨_, rfl, hi8, hfS7, (cSl_e hw1).trans (if_pos (by first | omega | exact (mAt_r _ _ _ _).1)).symm, fun _ => FLF.new h16.1 h16.2 hi8.fl.2.2.1, fun _ => RLX.new h12.1 h12.2 hi8.rl.2.2.1, fun x hx => by have e := hx.1.1; have hyes : oMeet a b c d x.1.1 := ⟨⟨by omega, by omega⟩, c24, c33.1, c33.2.1, c33.2.2⟩; unfold aMeet rMeet; rw [if_pos hyes, if_pos hyes, m1, m2]; exact ⟨hK9.ac hRS hx (by rw [n3]; exact hx.1.meet hn.2 (by omega) (by omega) c24 n4 m1 m2 m3), rfl⟩⟩
        · refine kw_iconst hC dX7_meet_36 rfl ?_
          exact hR9.1 rfl _ _ _ _ dX7_meet_37 ⟨_, rfl, hRS, Fr.rfl _ S, (if_neg (by omega)).symm, id, id, fun x hx => by have e := hx.1.1; have hno : ¬ oMeet a b c d x.1.1 := (fun q => by obtain ⟨⟨q1, q2⟩, q3, q4, q5, q6⟩ := q; first | omega | exact c33 ⟨q4, q5, q6⟩); unfold aMeet rMeet; rw [if_neg hno, if_neg hno]; exact ⟨hx, rfl⟩⟩

set_option maxHeartbeats 4000000 in
set_option maxRecDepth 100000 in
theorem f_X7_less {g : wG} (hD : wD g) {S : wSt}  (hRS : CI S) (l : Launch) : Kt l yX7_less wsX7_less ({ frames := 3, cells := 0, slots := 0, locals := 68 } : Room) g S [vr g 0 0] (pI (fun r S' => CI S' ∧ Fr tY S S' ∧ (cSl S' = if 0 ≤ r then eW else cSl S) ∧ (FLF S → FLF S') ∧ (RLX S → RLX S') ∧ ∀ x, AC S x → AC S' (aLess x) ∧ r = rLess x)) := by
  refine Kt.of (cc := cX7_less) (nL := 1) (ret := (some .int)) (own := RX7) rfl hD (by decide) rfl (Nat.le_of_ble_eq_true rfl) ⟨rfl, rfl⟩ ?_
  intro E hC hR9
  have f12 : Cond.fieldLink RX7 12 "MirrorBench" "set" "LMirrorBench$Mirrors;" ∈ wsX7_less := by decide +kernel
  have f19 : Cond.fieldLink RX7 19 "MirrorBench" "history" "LMirrorBench$History;" ∈ wsX7_less := by decide +kernel
  have f83 : Cond.fieldLink RX7 83 "MirrorBench$Mirrors" "size" "I" ∈ wsX7_less := by decide +kernel
  have w3 : ∀ w ∈ wsX30, w ∈ wsX7_less := by decide +kernel
  have w7 : ∀ w ∈ wsX70, w ∈ wsX7_less := by decide +kernel
  show Wk E g 1 S 0 [(0, vr g 0 0)] []
  have hfS : Fr tY S S := Fr.rfl _ S
  have hn := hRS.n
  refine kw_aload_n hC dX7_less_0 rfl 0 rfl ?_
  refine kg_0_0 hC w7 f12 dX7_less_1 rfl (by decide) (by decide) ?_
  refine kg_3_2 hC w3 f83 dX7_less_4 rfl (by omega) (by omega) ?_
  refine kw_if_ne (tgt := 13) hC dX7_less_7 rfl (by decide) (by omega) ⟨fun c7 => ?_, fun c7 => ?_⟩
  · refine kw_aload_n hC dX7_less_13 rfl 0 rfl ?_
    refine kg_0_1 hC w7 f19 dX7_less_14 rfl (by decide) (by decide) ?_
    refine kw_aload_n hC dX7_less_17 rfl 0 rfl ?_
    refine kg_0_0 hC w7 f12 dX7_less_18 rfl (by decide) (by decide) ?_
    refine kw_callV hC (d_X1_keep hD hRS) gX7_less_X1_keep ⟨_, rfl⟩ rfl (by decide) (by decide) rfl ⟨rfl, rfl⟩ 1 (by decide +kernel) ⟨by decide, by decide⟩ rfl rfl (Nat.le_of_ble_eq_true rfl) dX7_less_21 rfl (kd_v (fun S2 hp2 => ?_))
    obtain ⟨hg2, hp2⟩ := hp2
    have hfS2 : Fr tY S S2 := hfS.trans (hg2.mono (fun k i j h => by unfold fH at h; unfold tY; omega))
    have hK := hp2
    have hgK := hg2
    have k0 : S2 3 16 2 = S 3 16 2 := hg2 3 16 2 (by unfold fH; omega)
    have k4 : ∀ j, S2 4 16 j = S 4 16 j := fun j => hg2 4 16 j (by unfold fH; omega)
    have k5 : ∀ j, S2 5 16 j = S 5 16 j := fun j => hg2 5 16 j (by unfold fH; omega)
    refine kw_aload_n hC dX7_less_24 rfl 0 rfl ?_
    refine kg_0_0 hC w7 f12 dX7_less_25 rfl (by decide) (by decide) ?_
    refine kw_callV hC (d_X3_removeLast hD (by omega) (by omega) (by omega) (by omega)) gX7_less_X3_removeLast ⟨_, rfl⟩ rfl (by omega) (show (16 : Int) < 17 by omega) rfl ⟨rfl, rfl⟩ 0 (by decide +kernel) ⟨by decide, by decide⟩ rfl rfl (Nat.le_of_ble_eq_true rfl) dX7_less_28 rfl (kd_v (fun S3 hp3 => ?_))
    obtain ⟨hg3, hp3⟩ := hp3
    have hfS3 : Fr tY S S3 := hfS2.trans (hg3.mono (fun k i j h => by unfold fT3 at h; unfold tY; omega))
    obtain ⟨y1, y2, y3, y4⟩ := hp3
    have hgM := hg3
    rw [k0] at y1 y3 y4
    refine kw_aload_n hC dX7_less_31 rfl 0 rfl ?_
    refine kw_callV hC (d_X7_startAnew hD ) gX7_less_X7_startAnew ⟨_, rfl⟩ rfl (by decide) (by decide) rfl ⟨rfl, rfl⟩ 0 (by decide +kernel) ⟨by decide, by decide⟩ rfl rfl (Nat.le_of_ble_eq_true rfl) dX7_less_32 rfl (kd_v (fun S4 hp4 => ?_))
    obtain ⟨hg4, hp4⟩ := hp4
    have hfS4 : Fr tY S S4 := hfS3.trans (hg4.mono (fun k i j h => by unfold fN at h; unfold tY; omega))
    obtain ⟨hw1, h12, h16⟩ := hp4
    have z3 : ∀ c j, S4 3 c j = S3 3 c j := fun c j => hg4 3 c j (by unfold fN; omega)
    have z4 : ∀ c j, S4 4 c j = S3 4 c j := fun c j => hg4 4 c j (by unfold fN; omega)
    have z5 : ∀ c j, S4 5 c j = S3 5 c j := fun c j => hg4 5 c j (by unfold fN; omega)
    have z8 : ∀ j, S4 8 0 j = S3 8 0 j := fun j => hg4 8 0 j (by unfold fN; omega)
    have n3 : S4 3 16 2 = S 3 16 2 - 1 := by rw [z3, y1]
    have n4 : ∀ j, S4 4 16 j = S 4 16 j := fun j => by rw [z4, y2, k4]
    have n5z : ∀ j, 0 ≤ j → j < 6 → S4 5 16 (6 * (S 3 16 2 - 1) + j) = 0 ∧ S4 5 16 (6 * j + (S 3 16 2 - 1)) = 0 := fun j j0 j1 => by rw [z5, z5]; exact y3 j j0 j1
    have n5o : ∀ i j, 0 ≤ i → i < 6 → 0 ≤ j → j < 6 → i ≠ S 3 16 2 - 1 → j ≠ S 3 16 2 - 1 → S4 5 16 (6 * i + j) = S 5 16 (6 * i + j) := fun i j i0 i1 j0 j1 hi hj => by rw [z5, y4 i j i0 i1 j0 j1 hi hj, k5]
    have hK9 : KpC S S4 := hK.tr hRS.hs.1 (fun c hc => by rw [z3]; exact hgM 3 c 2 (by unfold fT3; omega)) (fun c j hc => by rw [z4]; exact hgM 4 c j (by unfold fT3; omega)) (fun c j hc => by rw [z5]; exact hgM 5 c j (by unfold fT3; omega)) (fun j => by rw [z8]; exact hgM 8 0 j (by unfold fT3; omega))
    have hi8 : CI S4 := hK9.ci hRS ⟨by rw [n3, show S4 4 16 = S 4 16 from funext n4]; exact hRS.set.zrow (by omega) (by omega) (by omega) n5z n5o, fun i j i0 i1 j0 j1 hh => by rw [n3] at hh; rcases Decidable.em (i = S 3 16 2 - 1) with e | e; exact (by rw [e]; exact (n5z j j0 j1).1); rcases Decidable.em (j = S 3 16 2 - 1) with e2 | e2; exact (by rw [e2]; exact (n5z i i0 i1).2); exact (by rw [n5o i j i0 i1 j0 j1 e e2]; exact hRS.zb i j i0 i1 j0 j1 (by omega))⟩ hfS4 hw1 h12 h16
    refine kw_aload_n hC dX7_less_35 rfl 0 rfl ?_
    refine kg_0_0 hC w7 f12 dX7_less_36 rfl (by decide) (by decide) ?_
    refine kg_3_2 hC w3 f83 dX7_less_39 rfl (by omega) (by omega) ?_
    refine kw_chi (z' := S 3 16 2 - 1) n3 ?_
    exact hR9.1 rfl _ _ _ _ dX7_less_42 ⟨_, rfl, hi8, hfS4, (cSl_e hw1).trans (if_pos (by first | omega | exact (mAt_r _ _ _ _).1)).symm, fun _ => FLF.new h16.1 h16.2 hi8.fl.2.2.1, fun _ => RLX.new h12.1 h12.2 hi8.rl.2.2.1, fun x hx => by have e := hx.1.1; unfold aLess rLess; rw [if_neg (by omega), if_neg (by omega)]; exact ⟨hK9.ac hRS hx (by rw [n3]; exact hx.1.less n4 (fun i j i0 i1 j0 j1 => n5o i j i0 (by omega) j0 (by omega) (by omega) (by omega))), by omega⟩⟩
  · refine kw_bipush hC dX7_less_10 rfl (by decide) ?_
    exact hR9.1 rfl _ _ _ _ dX7_less_12 ⟨_, rfl, hRS, Fr.rfl _ S, (if_neg (by omega)).symm, id, id, fun x hx => by have e := hx.1.1; have e4 := hx.2.1; unfold aLess rLess; rw [if_pos (by omega), if_pos (by omega)]; exact ⟨hx, rfl⟩⟩

set_option maxHeartbeats 4000000 in
set_option maxRecDepth 100000 in
theorem f_X7_undo {g : wG} (hD : wD g) {S : wSt}  (hRS : CI S) (l : Launch) : Kt l yX7_undo wsX7_undo ({ frames := 3, cells := 0, slots := 0, locals := 68 } : Room) g S [vr g 0 0] (pI (fun r S' => CI S' ∧ Fr tY S S' ∧ (cSl S' = if 0 ≤ r then eW else cSl S) ∧ (FLF S → FLF S') ∧ (RLX S → RLX S') ∧ ∀ x, AC S x → AC S' (aUndo x) ∧ r = rUndo x)) := by
  refine Kt.of (cc := cX7_undo) (nL := 1) (ret := (some .int)) (own := RX7) rfl hD (by decide) rfl (Nat.le_of_ble_eq_true rfl) ⟨rfl, rfl⟩ ?_
  intro E hC hR9
  have f12 : Cond.fieldLink RX7 12 "MirrorBench" "set" "LMirrorBench$Mirrors;" ∈ wsX7_undo := by decide +kernel
  have f19 : Cond.fieldLink RX7 19 "MirrorBench" "history" "LMirrorBench$History;" ∈ wsX7_undo := by decide +kernel
  have f119 : Cond.fieldLink RX7 119 "MirrorBench$History" "steps" "I" ∈ wsX7_undo := by decide +kernel
  have w1 : ∀ w ∈ wsX10, w ∈ wsX7_undo := by decide +kernel
  have w7 : ∀ w ∈ wsX70, w ∈ wsX7_undo := by decide +kernel
  show Wk E g 1 S 0 [(0, vr g 0 0)] []
  have hfS : Fr tY S S := Fr.rfl _ S
  have hn := hRS.n
  refine kw_aload_n hC dX7_undo_0 rfl 0 rfl ?_
  refine kg_0_1 hC w7 f19 dX7_undo_1 rfl (by decide) (by decide) ?_
  refine kg_8_2 hC w1 f119 dX7_undo_4 rfl (by decide) (by decide) ?_
  refine kw_if_ne (tgt := 13) hC dX7_undo_7 rfl (by decide) (by have := hRS.hs; omega) ⟨fun c7 => ?_, fun c7 => ?_⟩
  · refine kw_aload_n hC dX7_undo_13 rfl 0 rfl ?_
    refine kg_0_1 hC w7 f19 dX7_undo_14 rfl (by decide) (by decide) ?_
    refine kw_aload_n hC dX7_undo_17 rfl 0 rfl ?_
    refine kg_0_0 hC w7 f12 dX7_undo_18 rfl (by decide) (by decide) ?_
    refine kw_callV hC (d_X1_takeBack hD hRS) gX7_undo_X1_takeBack ⟨_, rfl⟩ rfl (by decide) (by decide) rfl ⟨rfl, rfl⟩ 1 (by decide +kernel) ⟨by decide, by decide⟩ rfl rfl (Nat.le_of_ble_eq_true rfl) dX7_undo_21 rfl (kd_v (fun S2 hp2 => ?_))
    obtain ⟨hg2, hp2⟩ := hp2
    have hfS2 : Fr tY S S2 := hfS.trans (hg2.mono (fun k i j h => by unfold fU at h; unfold tY; omega))
    obtain ⟨y1, y2, y3, y4, y5, y6⟩ := hp2
    have hh := hRS.hs
    refine kw_aload_n hC dX7_undo_24 rfl 0 rfl ?_
    refine kw_callV hC (d_X7_startAnew hD ) gX7_undo_X7_startAnew ⟨_, rfl⟩ rfl (by decide) (by decide) rfl ⟨rfl, rfl⟩ 0 (by decide +kernel) ⟨by decide, by decide⟩ rfl rfl (Nat.le_of_ble_eq_true rfl) dX7_undo_25 rfl (kd_v (fun S3 hp3 => ?_))
    obtain ⟨hg3, hp3⟩ := hp3
    have hfS3 : Fr tY S S3 := hfS2.trans (hg3.mono (fun k i j h => by unfold fN at h; unfold tY; omega))
    obtain ⟨hw1, h12, h16⟩ := hp3
    have z3 : ∀ c j, S3 3 c j = S2 3 c j := fun c j => hg3 3 c j (by unfold fN; omega)
    have z4 : ∀ c j, S3 4 c j = S2 4 c j := fun c j => hg3 4 c j (by unfold fN; omega)
    have z5 : ∀ c j, S3 5 c j = S2 5 c j := fun c j => hg3 5 c j (by unfold fN; omega)
    have z8 : ∀ j, S3 8 0 j = S2 8 0 j := fun j => hg3 8 0 j (by unfold fN; omega)
    have g1 : S3 8 0 1 = (S 8 0 1 + 15) % 16 := by rw [z8, y1]
    have g2 : S3 8 0 2 = S 8 0 2 - 1 := by rw [z8, y2]
    have gn : S3 3 16 2 = S 3 ((S 8 0 1 + 15) % 16) 2 := by rw [z3, y3]
    have g4 : ∀ j, 0 ≤ j → j < 6 → S3 4 16 j = S 4 ((S 8 0 1 + 15) % 16) j := fun j a b => by rw [z4]; exact y4 j a b
    have g5 : ∀ j, 0 ≤ j → j < 36 → S3 5 16 j = S 5 ((S 8 0 1 + 15) % 16) j := fun j a b => by rw [z5]; exact y5 j a b
    have go : ∀ k c j, k = 3 ∨ k = 4 ∨ k = 5 → c < 16 → S3 k c j = S k c j := fun k c j hk hc => by rcases hk with rfl | rfl | rfl; exact (by rw [z3]; exact y6 3 c j (by omega) hc); exact (by rw [z4]; exact y6 4 c j (by omega) hc); exact (by rw [z5]; exact y6 5 c j (by omega) hc)
    have hi8 : CI S3 := hRS.anew ((hRS.kp _ (by omega) (by omega)).congr gn g4 g5) (by omega) (fun c c0 c1 => (hRS.kp c c0 c1).congr (go 3 c 2 (by omega) c1) (fun i _ _ => go 4 c i (by omega) c1) (fun i _ _ => go 5 c i (by omega) c1)) hfS3 hw1 h12 h16
    refine kw_aload_n hC dX7_undo_28 rfl 0 rfl ?_
    refine kg_0_1 hC w7 f19 dX7_undo_29 rfl (by decide) (by decide) ?_
    refine kg_8_2 hC w1 f119 dX7_undo_32 rfl (by decide) (by decide) ?_
    refine kw_chi (z' := S 8 0 2 - 1) g2 ?_
    exact hR9.1 rfl _ _ _ _ dX7_undo_35 ⟨_, rfl, hi8, hfS3, (cSl_e hw1).trans (if_pos (by first | omega | exact (mAt_r _ _ _ _).1)).symm, fun _ => FLF.new h16.1 h16.2 hi8.fl.2.2.1, fun _ => RLX.new h12.1 h12.2 hi8.rl.2.2.1, fun x hx => by have e := hx.2.1; unfold aUndo rUndo; rw [if_neg (by omega), if_neg (by omega)]; exact ⟨hx.undo hRS c7 g1 g2 gn g4 g5 go, by omega⟩⟩
  · refine kw_bipush hC dX7_undo_10 rfl (by decide) ?_
    exact hR9.1 rfl _ _ _ _ dX7_undo_12 ⟨_, rfl, hRS, Fr.rfl _ S, (if_neg (by omega)).symm, id, id, fun x hx => by have e := hx.2.1; have e4 := hx.2.1; unfold aUndo rUndo; rw [if_pos (by omega), if_pos (by omega)]; exact ⟨hx, rfl⟩⟩

set_option maxHeartbeats 4000000 in
set_option maxRecDepth 100000 in
theorem f_X7_kind {g : wG} (hD : wD g) {S : wSt} {a b : Int} (ha : -2147483648 ≤ a ∧ a ≤ 2147483647) (hb : -2147483648 ≤ b ∧ b ≤ 2147483647) (hRS : CI S) (l : Launch) : Kt l yX7_kind wsX7_kind ({ frames := 1, cells := 0, slots := 0, locals := 21 } : Room) g S [vr g 0 0, vi a, vi b] (pI (fun r S' => CI S' ∧ Fr tY S S' ∧ cSl S' = cSl S ∧ (FLF S → FLF S') ∧ (RLX S → RLX S') ∧ ∀ x, AC S x → AC S' (aKind a b x) ∧ r = rKind a b x)) := by
  refine Kt.of (cc := cX7_kind) (nL := 4) (ret := (some .int)) (own := RX7) rfl hD (by decide) rfl (Nat.le_of_ble_eq_true rfl) ⟨rfl, rfl⟩ ?_
  intro E hC hR9
  have f12 : Cond.fieldLink RX7 12 "MirrorBench" "set" "LMirrorBench$Mirrors;" ∈ wsX7_kind := by decide +kernel
  have f115 : Cond.fieldLink RX7 115 "MirrorBench$Mirrors" "kinds" "[I" ∈ wsX7_kind := by decide +kernel
  have w3 : ∀ w ∈ wsX30, w ∈ wsX7_kind := by decide +kernel
  have w7 : ∀ w ∈ wsX70, w ∈ wsX7_kind := by decide +kernel
  show Wk E g 4 S 0 [(0, vr g 0 0), (1, vi a), (2, vi b)] []
  have hfS : Fr tY S S := Fr.rfl _ S
  have hn := hRS.n
  refine kw_aload_n hC dX7_kind_0 rfl 0 rfl ?_
  refine kg_0_0 hC w7 f12 dX7_kind_1 rfl (by decide) (by decide) ?_
  refine kw_iload_n hC dX7_kind_4 rfl 1 rfl ?_
  refine kw_callV hC (d_X3_has hD (by omega) (by omega) (by omega) (by omega) (by omega)) gX7_kind_X3_has ⟨_, rfl⟩ rfl (by omega) (show (16 : Int) < 17 by omega) rfl ⟨rfl, rfl⟩ 1 (by decide +kernel) ⟨by decide, by decide⟩ rfl rfl (Nat.le_of_ble_eq_true rfl) dX7_kind_5 rfl (kd_ie ?_)
  refine kw_ifeq_b (tgt := 18) hC dX7_kind_8 rfl (by decide) ⟨fun c8 => ?_, fun c8 => ?_⟩
  · refine kw_iconst hC dX7_kind_18 rfl ?_
    exact hR9.1 rfl _ _ _ _ dX7_kind_19 ⟨_, rfl, hRS, Fr.rfl _ S, rfl, id, id, fun x hx => by have e := hx.1.1; unfold aKind rKind; rw [if_neg (by omega), if_neg (by omega)]; exact ⟨hx, rfl⟩⟩
  · refine kw_iload_n hC dX7_kind_11 rfl 2 rfl ?_
    refine kw_callS hC (d_X7_isKind hD (by omega)) gX7_kind_X7_isKind rfl ⟨rfl, rfl⟩ 1 (by decide +kernel) ⟨by decide, by decide⟩ rfl rfl (Nat.le_of_ble_eq_true rfl) dX7_kind_12 rfl (kd_ie ?_)
    refine kw_ifne_b (tgt := 20) hC dX7_kind_15 rfl (by decide) ⟨fun c15 => ?_, fun c15 => ?_⟩
    · refine kw_aload_n hC dX7_kind_20 rfl 0 rfl ?_
      refine kg_0_0 hC w7 f12 dX7_kind_21 rfl (by decide) (by decide) ?_
      refine kg_3_0 hC w3 f115 dX7_kind_24 rfl (by omega) (by omega) ?_
      refine kw_iload_n hC dX7_kind_27 rfl 1 rfl ?_
      refine ka_4 hC dX7_kind_28 rfl (by omega) (by omega) (by omega) (by omega) ?_
      refine kw_istore_n (lv' := [(3, _), (0, _), (1, _), (2, _)]) hC dX7_kind_29 rfl (by decide) rfl ?_
      refine kw_aload_n hC dX7_kind_30 rfl 1 rfl ?_
      refine kg_0_0 hC w7 f12 dX7_kind_31 rfl (by decide) (by decide) ?_
      refine kg_3_0 hC w3 f115 dX7_kind_34 rfl (by omega) (by omega) ?_
      refine kw_iload_n hC dX7_kind_37 rfl 2 rfl ?_
      refine kw_iload_n hC dX7_kind_38 rfl 3 rfl ?_
      refine ks_4 hC dX7_kind_39 rfl (by omega) (by omega) (by omega) (by omega) ?_
      refine kw_hv hfS (by unfold tY; omega) (fun S3 hfS3 hv3 ho3 => ?_)
      have hk8 := hv3
      have hko8 : ∀ p, p ≠ a → S3 4 16 p = S 4 16 p := fun p hp => ho3 4 16 p (by omega)
      have hoo : ∀ k i j, ¬ (k = 4 ∧ i = 16) → S3 k i j = S k i j := fun k i j hk => ho3 k i j (by omega)
      have hi8 := hRS.kind (by omega) hk8 hko8 hoo
      refine kw_iload_n hC dX7_kind_40 rfl 0 rfl ?_
      exact hR9.1 rfl _ _ _ _ dX7_kind_41 ⟨_, rfl, hi8, hfS3, cSl_fr (fun s _ _ => ⟨hoo 1 s 1 (by omega), fun j => hoo 2 s j (by omega)⟩), fun h => h.fr (hoo 3 16 2 (by omega)) (fun j => hoo 5 16 j (by omega)) (fun j => hoo 16 0 j (by omega)) (fun j => hoo 17 0 j (by omega)) (fun j => hoo 18 0 j (by omega)), fun h => h.of (fun k i j q => hoo k i j (by omega)), fun x hx => by have e := hx.1.1; unfold aKind rKind; rw [if_pos (by omega), if_pos (by omega)]; exact ⟨hx.kind hk8 hko8 hoo hRS.hs.1.1, hx.1.2.1 a (by omega) (by omega)⟩⟩
    · refine kw_iconst hC dX7_kind_18 rfl ?_
      exact hR9.1 rfl _ _ _ _ dX7_kind_19 ⟨_, rfl, hRS, Fr.rfl _ S, rfl, id, id, fun x hx => by have e := hx.1.1; unfold aKind rKind; rw [if_neg (by omega), if_neg (by omega)]; exact ⟨hx, rfl⟩⟩

set_option maxHeartbeats 4000000 in
set_option maxRecDepth 100000 in
theorem f_X7_word {g : wG} (hD : wD g) {S : wSt} {a b c d e : Int} (ha : -2147483648 ≤ a ∧ a ≤ 2147483647) (hb : -2147483648 ≤ b ∧ b ≤ 2147483647) (hc : -2147483648 ≤ c ∧ c ≤ 2147483647) (hd : -2147483648 ≤ d ∧ d ≤ 2147483647) (he : -2147483648 ≤ e ∧ e ≤ 2147483647) (hRS : CI S) (l : Launch) : Kt l yX7_word wsX7_word ({ frames := 3, cells := 0, slots := 0, locals := 69 } : Room) g S [vr g 0 0, vi a, vi b, vi c, vi d, vi e] (pI (fun r S' => CI S' ∧ Fr tXw S S' ∧ (∀ x y, AC S x → LC S y → r = rWord a b c d e x.1.1 y) ∧ ∀ y, LC S y → cSl S' = if 0 ≤ r then upw (cSl S) a (wl (fun j => y.2.2 b (d + j)) e.toNat) else cSl S)) := by
  refine Kt.of (cc := cX7_word) (nL := 11) (ret := (some .int)) (own := RX7) rfl hD (by decide) rfl (Nat.le_of_ble_eq_true rfl) ⟨rfl, rfl⟩ ?_
  intro E hC hR9
  have f12 : Cond.fieldLink RX7 12 "MirrorBench" "set" "LMirrorBench$Mirrors;" ∈ wsX7_word := by decide +kernel
  have f31 : Cond.fieldLink RX7 31 "MirrorBench" "leaves" "[LMirrorBench$Leaf;" ∈ wsX7_word := by decide +kernel
  have f59 : Cond.fieldLink RX7 59 "MirrorBench" "made" "LMirrorBench$Word;" ∈ wsX7_word := by decide +kernel
  have f83 : Cond.fieldLink RX7 83 "MirrorBench$Mirrors" "size" "I" ∈ wsX7_word := by decide +kernel
  have f131 : Cond.fieldLink RX7 131 "MirrorBench$Word" "length" "I" ∈ wsX7_word := by decide +kernel
  have f150 : Cond.fieldLink RX7 150 "MirrorBench$Leaf" "items" "[J" ∈ wsX7_word := by decide +kernel
  have w2 : ∀ w ∈ wsX20, w ∈ wsX7_word := by decide +kernel
  have w3 : ∀ w ∈ wsX30, w ∈ wsX7_word := by decide +kernel
  have w6 : ∀ w ∈ wsX60, w ∈ wsX7_word := by decide +kernel
  have w7 : ∀ w ∈ wsX70, w ∈ wsX7_word := by decide +kernel
  show Wk E g 11 S 0 [(0, vr g 0 0), (1, vi a), (2, vi b), (3, vi c), (4, vi d), (5, vi e)] []
  have hfS : Fr tC S S := Fr.rfl _ S
  have hRS := hRS.fr hfS
  have hnS := hRS.n
  have enS : S 3 16 2 = S 3 16 2 := hfS 3 16 2 (by unfold tC; omega)
  refine kw_iload_n hC dX7_word_0 rfl 1 rfl ?_
  refine kw_callS hC (d_X7_isSlot hD (by omega)) gX7_word_X7_isSlot rfl ⟨rfl, rfl⟩ 1 (by decide +kernel) ⟨by decide, by decide⟩ rfl rfl (Nat.le_of_ble_eq_true rfl) dX7_word_1 rfl (kd_ie ?_)
  refine kw_ifeq_b (tgt := 21) hC dX7_word_4 rfl (by decide) ⟨fun c4 => ?_, fun c4 => ?_⟩
  · refine kw_iconst hC dX7_word_21 rfl ?_
    exact hR9.1 rfl _ _ _ _ dX7_word_22 ⟨_, rfl, hRS, tC_tXw hfS, (fun x y hx hy => by have e0 := hx.1.1; skip <;> (unfold rWord; (repeat' split) <;> first | omega | rfl)), fun y _ => (cSl_tC hfS).trans (if_neg (by first | omega | (split at hFN <;> (try split at hFN) <;> omega))).symm⟩
  · refine kw_iload_n hC dX7_word_7 rfl 2 rfl ?_
    refine kw_callS hC (d_X7_isLeaf hD (by omega)) gX7_word_X7_isLeaf rfl ⟨rfl, rfl⟩ 1 (by decide +kernel) ⟨by decide, by decide⟩ rfl rfl (Nat.le_of_ble_eq_true rfl) dX7_word_8 rfl (kd_ie ?_)
    refine kw_ifeq_b (tgt := 21) hC dX7_word_11 rfl (by decide) ⟨fun c11 => ?_, fun c11 => ?_⟩
    · refine kw_iconst hC dX7_word_21 rfl ?_
      exact hR9.1 rfl _ _ _ _ dX7_word_22 ⟨_, rfl, hRS, tC_tXw hfS, (fun x y hx hy => by have e0 := hx.1.1; skip <;> (unfold rWord; (repeat' split) <;> first | omega | rfl)), fun y _ => (cSl_tC hfS).trans (if_neg (by first | omega | (split at hFN <;> (try split at hFN) <;> omega))).symm⟩
    · refine kw_iload_n hC dX7_word_14 rfl 3 rfl ?_
      refine kw_callS hC (d_X7_isLane hD (by omega)) gX7_word_X7_isLane rfl ⟨rfl, rfl⟩ 1 (by decide +kernel) ⟨by decide, by decide⟩ rfl rfl (Nat.le_of_ble_eq_true rfl) dX7_word_15 rfl (kd_ie ?_)
      refine kw_ifne_b (tgt := 23) hC dX7_word_18 rfl (by decide) ⟨fun c18 => ?_, fun c18 => ?_⟩
      · have hlb := hRS.lf b (by omega) (by omega)
        refine kw_aload_n hC dX7_word_23 rfl 0 rfl ?_
        refine kg_0_3 hC w7 f31 dX7_word_24 rfl (by decide) (by decide) ?_
        refine kw_iload_n hC dX7_word_27 rfl 2 rfl ?_
        refine ka_21 hC dX7_word_28 rfl (by decide) (by decide) (by omega) (by omega) ?_
        refine kw_astore (lv' := [(6, _), (0, _), (1, _), (2, _), (3, _), (4, _), (5, _)]) hC dX7_word_29 rfl (by decide) rfl ?_
        refine kw_aload hC dX7_word_31 rfl 0 rfl ?_
        refine kw_iload_n hC dX7_word_33 rfl 4 rfl ?_
        refine kw_callV hC (d_X2_find hD (by omega) (by omega) (by omega) (by omega) (by omega) (by omega)) gX7_word_X2_find ⟨_, rfl⟩ rfl (by omega) (show (_ : Int) < 4 by omega) rfl ⟨rfl, rfl⟩ 1 (by decide +kernel) ⟨by decide, by decide⟩ rfl rfl (Nat.le_of_ble_eq_true rfl) dX7_word_34 rfl (kd_ie ?_)
        obtain ⟨FN, hFN⟩ : ∃ z, z = (if S 6 b 1 = 0 then -11 else if S 6 b 2 = c then 0 else -12 : Int) := ⟨_, rfl⟩
        rw [← hFN]
        have hFr : FN = 0 ∨ FN = -11 ∨ FN = -12 := by rw [hFN]; (repeat' split) <;> omega
        refine kw_istore (lv' := [(7, _), (6, _), (0, _), (1, _), (2, _), (3, _), (4, _), (5, _)]) hC dX7_word_37 rfl (by decide) rfl ?_
        refine kw_iload hC dX7_word_39 rfl 0 rfl ?_
        refine kw_if_eq (tgt := 47) hC dX7_word_41 rfl (by decide) (by omega) ⟨fun c41 => ?_, fun c41 => ?_⟩
        · refine kw_iload hC dX7_word_47 rfl 7 rfl ?_
          refine kw_if_ge (tgt := 55) hC dX7_word_49 rfl (by decide) (by omega) ⟨fun c49 => ?_, fun c49 => ?_⟩
          · refine kw_aload hC dX7_word_55 rfl 1 rfl ?_
            refine kw_iload hC dX7_word_57 rfl 6 rfl ?_
            refine kw_iload hC dX7_word_59 rfl 7 rfl ?_
            refine kw_callV hC (d_X2_hasItems hD (by omega) (by omega) (by omega) (by omega) (by omega) (by omega)) gX7_word_X2_hasItems ⟨_, rfl⟩ rfl (by omega) (show (_ : Int) < 4 by omega) rfl ⟨rfl, rfl⟩ 2 (by decide +kernel) ⟨by decide, by decide⟩ rfl rfl (Nat.le_of_ble_eq_true rfl) dX7_word_61 rfl (kd_ie ?_)
            refine kw_ifne_b (tgt := 70) hC dX7_word_64 rfl (by decide) ⟨fun c64 => ?_, fun c64 => ?_⟩
            · refine kw_aload_n hC dX7_word_70 rfl 2 rfl ?_
              refine kg_0_7 hC w7 f59 dX7_word_71 rfl (by decide) (by decide) ?_
              refine kw_iconst hC dX7_word_74 rfl ?_
              refine kp_1_1 hC w6 f131 dX7_word_75 rfl (by omega) (by omega) ?_
              refine kw_hv hfS (by unfold tC; omega) (fun S7 hfS7 hv7 ho7 => ?_)
              have hRS7 := hRS.fr hfS7
              have hnS7 := hRS7.n
              have enS7 : S7 3 16 2 = S 3 16 2 := hfS7 3 16 2 (by unfold tC; omega)
              have l8 := hv7
              refine kw_iconst hC dX7_word_78 rfl ?_
              refine kw_istore (lv' := [(8, _), (7, _), (6, _), (0, _), (1, _), (2, _), (3, _), (4, _), (5, _)]) hC dX7_word_79 rfl (by decide) rfl ?_
              have hL81 : ∀ (n81 : Nat) (k : Int) (W81 : wSt), Fr tC S W81 → (0 ≤ k) → (k ≤ e) → (W81 1 8 1 = k) → (WV (W81 2 8) (W81 1 8 1) (W81 3 16 2)) → (∀ j, 0 ≤ j → j < k → 0 ≤ S 7 b (d + j) ∧ S 7 b (d + j) < S 3 16 2) → (∀ j, 0 ≤ j → j < k → W81 2 8 j = S 7 b (d + j)) → e - k < (n81 : Int) → Wk E g 11 W81 81 [(0, vr g 0 0), (1, vi a), (2, vi b), (3, vi c), (4, vi d), (5, vi e), (6, vr g 6 b), (7, vi FN), (8, vi k)] [] := by
                intro n81
                induction n81 with
                | zero => intro k W81 hfW81 k0 k1 l8 hwv hall hlet hm81; exact absurd hm81 (by omega)
                | succ n81 ih81 =>
                  intro k W81 hfW81 k0 k1 l8 hwv hall hlet hm81
                  have hRW81 := hRS.fr hfW81
                  have hnW81 := hRW81.n
                  have enW81 : W81 3 16 2 = S 3 16 2 := hfW81 3 16 2 (by unfold tC; omega)
                  refine kw_iload hC dX7_word_81 rfl 8 rfl ?_
                  refine kw_iload hC dX7_word_83 rfl 5 rfl ?_
                  refine kw_icmp_ge (tgt := 140) hC dX7_word_85 rfl (by decide) (by omega) (by omega) ⟨fun c85 => ?_, fun c85 => ?_⟩
                  · refine kw_aload_n hC dX7_word_140 rfl 0 rfl ?_
                    refine kw_aload_n hC dX7_word_141 rfl 0 rfl ?_
                    refine kg_0_7 hC w7 f59 dX7_word_142 rfl (by decide) (by decide) ?_
                    refine kw_iload_n hC dX7_word_145 rfl 1 rfl ?_
                    refine kw_callV hC (d_X7_store hD (by omega) (by omega) (by omega) (by omega) hRW81 hwv (by omega) (by omega)) gX7_word_X7_store ⟨_, rfl⟩ rfl (by decide) (by decide) rfl ⟨rfl, rfl⟩ 2 (by decide +kernel) ⟨by decide, by decide⟩ rfl rfl (Nat.le_of_ble_eq_true rfl) dX7_word_146 rfl (kd_i (fun r9 Sz hp9 => ?_))
                    exact hR9.1 rfl _ _ _ _ dX7_word_149 ⟨_, rfl, hp9.2.1, (tC_tXw hfW81).trans (fWd_tXw hp9.2.2.1), (fun x y hx hy => by have e0 := hx.1.1; obtain ⟨u1, u2, u3⟩ := hy b (by omega) (by omega); split at u1 <;> split at hFN <;> (try split at hFN) <;> (have hbz : bz (∀ j, 0 ≤ j → j < e → 0 ≤ y.2.2 b (d + j) ∧ y.2.2 b (d + j) < x.1.1) = 1 := bz_t (fun j j0 j1 => by have q1 := hall j j0 (by omega); have q2 := u3 (d + j) (by omega) (by omega); omega)) <;> (unfold rWord; (repeat' split) <;> first | omega | (rw [hbz]; have := hp9.1; omega))), fun y hy => by obtain ⟨u1, u2, u3⟩ := hy b (by omega) (by omega); have h9 := congrArg Prod.snd (st_k (l := wl (fun j => y.2.2 b (d + j)) e.toNat) (by omega) (by omega) (by omega) hp9 (cSl_tC hfW81) (wl_eq (by omega) (fun j j0 j1 => (hlet j j0 (by omega)).trans (u3 (d + j) (by omega) (by omega))))); rw [if_pos (by have := hp9.1; omega)]; exact h9.symm⟩
                  · refine kw_aload hC dX7_word_88 rfl 6 rfl ?_
                    refine kg_6_0 hC w2 f150 dX7_word_90 rfl (by omega) (by omega) ?_
                    refine kw_iload hC dX7_word_93 rfl 4 rfl ?_
                    refine kw_iload hC dX7_word_95 rfl 8 rfl ?_
                    refine kw_iadd hC dX7_word_97 rfl ?_
                    refine ka_7 hC dX7_word_98 rfl (by omega) (by omega) (by omega) (by omega) ?_
                    refine kw_chl (z' := S 7 b (d + k)) (hfW81 7 b _ (by unfold tC; omega)) ?_
                    have hit := hRS.it b (d + k) (by omega) (by omega) (by omega) (by omega)
                    refine kw_lstore (lv' := [(9, _), (0, _), (1, _), (2, _), (3, _), (4, _), (5, _), (6, _), (7, _), (8, _)]) hC dX7_word_99 rfl (by decide) rfl ?_
                    refine kw_lload hC dX7_word_101 rfl 0 rfl ?_
                    refine kw_lconst (z := 0) hC dX7_word_103 rfl rfl ?_
                    refine kw_lcmp hC dX7_word_104 rfl (by omega) (by omega) ?_
                    refine kw_if_lt (tgt := 122) hC dX7_word_105 rfl (by decide) (cz_r _ _) ⟨fun c105 => ?_, fun c105 => ?_⟩
                    · replace c105 := (cz_lt _ _).mp c105
                      refine kw_iconst hC dX7_word_122 rfl ?_
                      exact hR9.1 rfl _ _ _ _ dX7_word_123 ⟨_, rfl, hRW81, tC_tXw hfW81, (fun x y hx hy => by have e0 := hx.1.1; obtain ⟨u1, u2, u3⟩ := hy b (by omega) (by omega); split at u1 <;> split at hFN <;> (try split at hFN) <;> (have hbz : bz (∀ j, 0 ≤ j → j < e → 0 ≤ y.2.2 b (d + j) ∧ y.2.2 b (d + j) < x.1.1) = 0 := bz_f (fun q => by have q1 := q k (by omega) (by omega); have q2 := u3 (d + k) (by omega) (by omega); omega)) <;> (unfold rWord; (repeat' split) <;> first | omega | (rw [hbz]; omega))), fun y _ => (cSl_tC hfW81).trans (if_neg (by first | omega | (split at hFN <;> (try split at hFN) <;> omega))).symm⟩
                    · replace c105 := (not_congr (cz_lt _ _)).mp c105
                      refine kw_lload hC dX7_word_108 rfl 0 rfl ?_
                      refine kw_aload_n hC dX7_word_110 rfl 1 rfl ?_
                      refine kg_0_0 hC w7 f12 dX7_word_111 rfl (by decide) (by decide) ?_
                      refine kg_3_2 hC w3 f83 dX7_word_114 rfl (by omega) (by omega) ?_
                      refine kw_i2l hC dX7_word_117 rfl (by omega) ?_
                      refine kw_lcmp hC dX7_word_118 rfl (by omega) (by omega) ?_
                      refine kw_if_lt (tgt := 124) hC dX7_word_119 rfl (by decide) (cz_r _ _) ⟨fun c119 => ?_, fun c119 => ?_⟩
                      · replace c119 := (cz_lt _ _).mp c119
                        refine kw_aload_n hC dX7_word_124 rfl 1 rfl ?_
                        refine kg_0_7 hC w7 f59 dX7_word_125 rfl (by decide) (by decide) ?_
                        refine kw_lload hC dX7_word_128 rfl 0 rfl ?_
                        refine kw_l2i hC dX7_word_130 rfl ?_
                        refine kw_callV hC (d_X6_add hD (by omega) (by omega) (by omega) (by omega)) gX7_word_X6_add ⟨_, rfl⟩ rfl (by omega) (show (_ : Int) < 12 by omega) rfl ⟨rfl, rfl⟩ 1 (by decide +kernel) ⟨by decide, by decide⟩ rfl rfl (Nat.le_of_ble_eq_true rfl) dX7_word_131 rfl (kd_v (fun S11 hp11 => ?_))
                        obtain ⟨hg11, hp11⟩ := hp11
                        have hfS11 : Fr tC S S11 := hfW81.trans (hg11.mono (fun k i j h => by unfold fWd at h; unfold tC; omega))
                        have hRS11 := hRS.fr hfS11
                        have hnS11 := hRS11.n
                        have enS11 : S11 3 16 2 = S 3 16 2 := hfS11 3 16 2 (by unfold tC; omega)
                        obtain ⟨y1, y2, y3⟩ := hp11
                        have hlet9 : ∀ j, 0 ≤ j → j < k + 1 → S11 2 8 j = S 7 b (d + j) := fun j j0 j1 => by rcases Decidable.em (j = k) with e9 | e9; exact (by rw [e9]; rw [l8] at y2; exact y2); exact (by rw [y3 j (by omega)]; exact hlet j j0 (by omega))
                        have hall9 : ∀ j, 0 ≤ j → j < k + 1 → 0 ≤ S 7 b (d + j) ∧ S 7 b (d + j) < S 3 16 2 := fun j j0 j1 => by rcases Decidable.em (j = k) with e9 | e9; exact (by rw [e9]; omega); exact hall j j0 (by omega)
                        replace hwv : WV (S11 2 8) (S11 1 8 1) (S11 3 16 2) := (y1 ▸ hwv.add (fun j hj => y3 j hj) (by rw [y2]; omega)).eq (fun _ _ _ => rfl) rfl (by omega)
                        refine kw_iinc (lv' := [(8, _), (9, _), (0, _), (1, _), (2, _), (3, _), (4, _), (5, _), (6, _), (7, _)]) hC dX7_word_134 rfl 9 rfl (by decide) rfl ?_
                        refine kw_goto (tgt := 81) hC dX7_word_137 rfl (by decide) ?_
                        refine kw_lv [2, 3, 4, 5, 6, 7, 8, 9, 0] rfl ?_
                        exact ih81 (k + 1) S11 hfS11 (by omega) (by omega) (by omega) hwv hall9 hlet9 (by omega)
                      · replace c119 := (not_congr (cz_lt _ _)).mp c119
                        refine kw_iconst hC dX7_word_122 rfl ?_
                        exact hR9.1 rfl _ _ _ _ dX7_word_123 ⟨_, rfl, hRW81, tC_tXw hfW81, (fun x y hx hy => by have e0 := hx.1.1; obtain ⟨u1, u2, u3⟩ := hy b (by omega) (by omega); split at u1 <;> split at hFN <;> (try split at hFN) <;> (have hbz : bz (∀ j, 0 ≤ j → j < e → 0 ≤ y.2.2 b (d + j) ∧ y.2.2 b (d + j) < x.1.1) = 0 := bz_f (fun q => by have q1 := q k (by omega) (by omega); have q2 := u3 (d + k) (by omega) (by omega); omega)) <;> (unfold rWord; (repeat' split) <;> first | omega | (rw [hbz]; omega))), fun y _ => (cSl_tC hfW81).trans (if_neg (by first | omega | (split at hFN <;> (try split at hFN) <;> omega))).symm⟩
              refine kw_lv [3, 4, 5, 6, 7, 8, 2, 1, 0] rfl ?_
              exact hL81 41 0 S7 hfS7 (by omega) (by omega) l8 (fun j _ _ => by omega) (fun j _ _ => by omega) (fun j _ _ => by omega) (by omega)
            · refine kw_bipush hC dX7_word_67 rfl (by decide) ?_
              exact hR9.1 rfl _ _ _ _ dX7_word_69 ⟨_, rfl, hRS, tC_tXw hfS, (fun x y hx hy => by have e0 := hx.1.1; obtain ⟨u1, u2, u3⟩ := hy b (by omega) (by omega); split at u1 <;> split at hFN <;> (try split at hFN) <;> (unfold rWord; (repeat' split) <;> first | omega | rfl)), fun y _ => (cSl_tC hfS).trans (if_neg (by first | omega | (split at hFN <;> (try split at hFN) <;> omega))).symm⟩
          · refine kw_bipush hC dX7_word_52 rfl (by decide) ?_
            exact hR9.1 rfl _ _ _ _ dX7_word_54 ⟨_, rfl, hRS, tC_tXw hfS, (fun x y hx hy => by have e0 := hx.1.1; obtain ⟨u1, u2, u3⟩ := hy b (by omega) (by omega); split at u1 <;> split at hFN <;> (try split at hFN) <;> (unfold rWord; (repeat' split) <;> first | omega | rfl)), fun y _ => (cSl_tC hfS).trans (if_neg (by first | omega | (split at hFN <;> (try split at hFN) <;> omega))).symm⟩
        · refine kw_iload hC dX7_word_44 rfl 0 rfl ?_
          exact hR9.1 rfl _ _ _ _ dX7_word_46 ⟨_, rfl, hRS, tC_tXw hfS, (fun x y hx hy => by have e0 := hx.1.1; obtain ⟨u1, u2, u3⟩ := hy b (by omega) (by omega); split at u1 <;> split at hFN <;> (try split at hFN) <;> (unfold rWord; (repeat' split) <;> first | omega | rfl)), fun y _ => (cSl_tC hfS).trans (if_neg (by first | omega | (split at hFN <;> (try split at hFN) <;> omega))).symm⟩
      · refine kw_iconst hC dX7_word_21 rfl ?_
        exact hR9.1 rfl _ _ _ _ dX7_word_22 ⟨_, rfl, hRS, tC_tXw hfS, (fun x y hx hy => by have e0 := hx.1.1; skip <;> (unfold rWord; (repeat' split) <;> first | omega | rfl)), fun y _ => (cSl_tC hfS).trans (if_neg (by first | omega | (split at hFN <;> (try split at hFN) <;> omega))).symm⟩

set_option maxHeartbeats 4000000 in
set_option maxRecDepth 100000 in
theorem f_X7_forms {g : wG} (hD : wD g) {S : wSt} {a : Int} (ha : -2147483648 ≤ a ∧ a ≤ 2147483647) (hRS : CI S) (hFS : FLF S) (l : Launch) : Kt l yX7_forms wsX7_forms ({ frames := 5, cells := 0, slots := 0, locals := 119 } : Room) g S [vr g 0 0, vi a] (pI (fun r S' => CI S' ∧ Fr tFm S S' ∧ FLF S' ∧ (fForms (kM S) (kn S) a, cSl S) = (r, cSl S'))) := by
  refine Kt.of (cc := cX7_forms) (nL := 2) (ret := (some .int)) (own := RX7) rfl hD (by decide) rfl (Nat.le_of_ble_eq_true rfl) ⟨rfl, rfl⟩ ?_
  intro E hC hR9
  have f54 : Cond.fieldLink RX7 54 "MirrorBench" "formList" "LMirrorBench$FormList;" ∈ wsX7_forms := by decide +kernel
  have w7 : ∀ w ∈ wsX70, w ∈ wsX7_forms := by decide +kernel
  show Wk E g 2 S 0 [(0, vr g 0 0), (1, vi a)] []
  have hfS : Fr fFm S S := Fr.rfl _ S
  refine kw_iload_n hC dX7_forms_0 rfl 1 rfl ?_
  refine kw_if_lt (tgt := 10) hC dX7_forms_1 rfl (by decide) (by omega) ⟨fun c1 => ?_, fun c1 => ?_⟩
  · refine kw_iconst hC dX7_forms_10 rfl ?_
    exact hR9.1 rfl _ _ _ _ dX7_forms_11 (by first | (exfalso; omega) | exact ⟨_, rfl, hRS, Fr.rfl _ S, hFS, by rw [fForms_b (by omega)]⟩ | exact ⟨_, rfl, hRS.fm hfS hF9, fFm_tFm hfS, hG9, by have h9 := (hr9.resolve_left (fun z => by omega)).2; rw [fForms_n (by omega) h9, cSl_fFm hfS]⟩ | exact ⟨_, rfl, hRS.fm hfS hF9, fFm_tFm hfS, hG9, by have h8 := (hr9.resolve_right (fun z => by omega)).2; have h9 := hG9.at' (a := a) (by omega) h8; rw [kM_eq (S := S) (hfS 3 16 2 (by unfold fFm; omega)) (fun j => hfS 5 16 j (by unfold fFm; omega)), kn_eq (S := S) (hfS 3 16 2 (by unfold fFm; omega))] at h9; obtain ⟨L, q1, q2, -⟩ := h9; rw [fForms_s (by omega) q1, q2, cSl_fFm hfS]⟩)
  · refine kw_iload_n hC dX7_forms_4 rfl 1 rfl ?_
    refine kw_bipush hC dX7_forms_5 rfl (by decide) ?_
    refine kw_icmp_le (tgt := 12) hC dX7_forms_7 rfl (by decide) (by omega) (by omega) ⟨fun c7 => ?_, fun c7 => ?_⟩
    · refine kw_aload_n hC dX7_forms_12 rfl 0 rfl ?_
      refine kg_0_6 hC w7 f54 dX7_forms_13 rfl (by decide) (by decide) ?_
      refine kw_iload_n hC dX7_forms_16 rfl 1 rfl ?_
      refine kw_callV hC (f_X0_reaches hD hRS hFS (by omega) (by omega)) gX7_forms_X0_reaches ⟨_, rfl⟩ rfl (by decide) (by decide) rfl ⟨rfl, rfl⟩ 1 (by decide +kernel) ⟨by decide, by decide⟩ rfl rfl (Nat.le_of_ble_eq_true rfl) dX7_forms_17 rfl (kd_i (fun r3 S3 hp3 => ?_))
      obtain ⟨hg3, hp3⟩ := hp3
      have hfS3 : Fr fFm S S3 := hfS.trans hg3
      obtain ⟨hF9, hG9, hr9⟩ := hp3
      refine kw_if_eq (tgt := 34) hC dX7_forms_20 rfl (by decide) (by omega) ⟨fun c20 => ?_, fun c20 => ?_⟩
      · refine kw_bipush hC dX7_forms_34 rfl (by decide) ?_
        exact hR9.1 rfl _ _ _ _ dX7_forms_36 (by first | (exfalso; omega) | exact ⟨_, rfl, hRS, Fr.rfl _ S, hFS, by rw [fForms_b (by omega)]⟩ | exact ⟨_, rfl, hRS.fm hfS3 hF9, fFm_tFm hfS3, hG9, by have h9 := (hr9.resolve_left (fun z => by omega)).2; rw [fForms_n (by omega) h9, cSl_fFm hfS3]⟩ | exact ⟨_, rfl, hRS.fm hfS3 hF9, fFm_tFm hfS3, hG9, by have h8 := (hr9.resolve_right (fun z => by omega)).2; have h9 := hG9.at' (a := a) (by omega) h8; rw [kM_eq (S := S) (hfS3 3 16 2 (by unfold fFm; omega)) (fun j => hfS3 5 16 j (by unfold fFm; omega)), kn_eq (S := S) (hfS3 3 16 2 (by unfold fFm; omega))] at h9; obtain ⟨L, q1, q2, -⟩ := h9; rw [fForms_s (by omega) q1, q2, cSl_fFm hfS3]⟩)
      · refine kw_aload_n hC dX7_forms_23 rfl 0 rfl ?_
        refine kg_0_6 hC w7 f54 dX7_forms_24 rfl (by decide) (by decide) ?_
        refine kw_iload_n hC dX7_forms_27 rfl 1 rfl ?_
        refine kw_callV hC (d_X0_ofLength hD (by omega) (by omega)) gX7_forms_X0_ofLength ⟨_, rfl⟩ rfl (by decide) (by decide) rfl ⟨rfl, rfl⟩ 1 (by decide +kernel) ⟨by decide, by decide⟩ rfl rfl (Nat.le_of_ble_eq_true rfl) dX7_forms_28 rfl (kd_ie ?_)
        refine kw_goto (tgt := 36) hC dX7_forms_31 rfl (by decide) ?_
        exact hR9.1 rfl _ _ _ _ dX7_forms_36 (by first | (exfalso; omega) | exact ⟨_, rfl, hRS, Fr.rfl _ S, hFS, by rw [fForms_b (by omega)]⟩ | exact ⟨_, rfl, hRS.fm hfS3 hF9, fFm_tFm hfS3, hG9, by have h9 := (hr9.resolve_left (fun z => by omega)).2; rw [fForms_n (by omega) h9, cSl_fFm hfS3]⟩ | exact ⟨_, rfl, hRS.fm hfS3 hF9, fFm_tFm hfS3, hG9, by have h8 := (hr9.resolve_right (fun z => by omega)).2; have h9 := hG9.at' (a := a) (by omega) h8; rw [kM_eq (S := S) (hfS3 3 16 2 (by unfold fFm; omega)) (fun j => hfS3 5 16 j (by unfold fFm; omega)), kn_eq (S := S) (hfS3 3 16 2 (by unfold fFm; omega))] at h9; obtain ⟨L, q1, q2, -⟩ := h9; rw [fForms_s (by omega) q1, q2, cSl_fFm hfS3]⟩)
    · refine kw_iconst hC dX7_forms_10 rfl ?_
      exact hR9.1 rfl _ _ _ _ dX7_forms_11 (by first | (exfalso; omega) | exact ⟨_, rfl, hRS, Fr.rfl _ S, hFS, by rw [fForms_b (by omega)]⟩ | exact ⟨_, rfl, hRS.fm hfS hF9, fFm_tFm hfS, hG9, by have h9 := (hr9.resolve_left (fun z => by omega)).2; rw [fForms_n (by omega) h9, cSl_fFm hfS]⟩ | exact ⟨_, rfl, hRS.fm hfS hF9, fFm_tFm hfS, hG9, by have h8 := (hr9.resolve_right (fun z => by omega)).2; have h9 := hG9.at' (a := a) (by omega) h8; rw [kM_eq (S := S) (hfS 3 16 2 (by unfold fFm; omega)) (fun j => hfS 5 16 j (by unfold fFm; omega)), kn_eq (S := S) (hfS 3 16 2 (by unfold fFm; omega))] at h9; obtain ⟨L, q1, q2, -⟩ := h9; rw [fForms_s (by omega) q1, q2, cSl_fFm hfS]⟩)

set_option maxHeartbeats 4000000 in
set_option maxRecDepth 100000 in
theorem f_X7_next {g : wG} (hD : wD g) {S : wSt} {a b c : Int} (ha : -2147483648 ≤ a ∧ a ≤ 2147483647) (hb : -2147483648 ≤ b ∧ b ≤ 2147483647) (hc : -2147483648 ≤ c ∧ c ≤ 2147483647) (hRS : CI S) (hFS : FLF S) (l : Launch) : Kt l yX7_next wsX7_next ({ frames := 5, cells := 0, slots := 0, locals := 119 } : Room) g S [vr g 0 0, vi a, vi b, vi c] (pI (fun r S' => CI S' ∧ Fr tFm S S' ∧ FLF S' ∧ fNext (kM S) (kn S) a b c (cSl S) = (r, cSl S'))) := by
  refine Kt.of (cc := cX7_next) (nL := 4) (ret := (some .int)) (own := RX7) rfl hD (by decide) rfl (Nat.le_of_ble_eq_true rfl) ⟨rfl, rfl⟩ ?_
  intro E hC hR9
  have f54 : Cond.fieldLink RX7 54 "MirrorBench" "formList" "LMirrorBench$FormList;" ∈ wsX7_next := by decide +kernel
  have f59 : Cond.fieldLink RX7 59 "MirrorBench" "made" "LMirrorBench$Word;" ∈ wsX7_next := by decide +kernel
  have w7 : ∀ w ∈ wsX70, w ∈ wsX7_next := by decide +kernel
  show Wk E g 4 S 0 [(0, vr g 0 0), (1, vi a), (2, vi b), (3, vi c)] []
  have hfS : Fr tC S S := Fr.rfl _ S
  have hRS := hRS.fr hfS
  have hnS := hRS.n
  have enS : S 3 16 2 = S 3 16 2 := hfS 3 16 2 (by unfold tC; omega)
  refine kw_iload_n hC dX7_next_0 rfl 3 rfl ?_
  refine kw_callS hC (d_X7_isSlot hD (by omega)) gX7_next_X7_isSlot rfl ⟨rfl, rfl⟩ 1 (by decide +kernel) ⟨by decide, by decide⟩ rfl rfl (Nat.le_of_ble_eq_true rfl) dX7_next_1 rfl (kd_ie ?_)
  refine kw_ifeq_b (tgt := 28) hC dX7_next_4 rfl (by decide) ⟨fun c4 => ?_, fun c4 => ?_⟩
  · refine kw_iconst hC dX7_next_28 rfl ?_
    exact hR9.1 rfl _ _ _ _ dX7_next_29 (by first | (exfalso; omega) | exact ⟨_, rfl, hRS, tC_tFm hfS, hFS.w (tC_tXw hfS), by rw [fNext_b (by omega), cSl_tC hfS]⟩ | exact ⟨_, rfl, hp9.2.1, hbW.trans ((tC_tFm hfS).trans (fWd_tFm hp9.2.2.1)), (hG9.w (tC_tXw hfS)).w (fWd_tXw hp9.2.2.1), by obtain ⟨L, q1, q2, q3⟩ := hfl; rw [fNext_s (by omega) q1 (by omega)]; exact st_k (by omega) (by omega) (by omega) hp9 ((cSl_tC hfS).trans hbS) (by rw [eK8, ← q3 b.toNat (by omega), Int.toNat_of_nonneg (by omega)])⟩ | exact ⟨_, rfl, hRS, hbW.trans (tC_tFm hfS), hG9.w (tC_tXw hfS), by have h9 := (hr9.resolve_left (fun z => by omega)).2; rw [fNext_n (by omega) h9, cSl_tC hfS, hbS]⟩ | exact ⟨_, rfl, hRS, hbW.trans (tC_tFm hfS), hG9.w (tC_tXw hfS), by obtain ⟨L, q1, q2, -⟩ := hfl; rw [fNext_o (by omega) q1 (by omega), cSl_tC hfS, hbS]⟩)
  · refine kw_iload_n hC dX7_next_7 rfl 1 rfl ?_
    refine kw_if_lt (tgt := 28) hC dX7_next_8 rfl (by decide) (by omega) ⟨fun c8 => ?_, fun c8 => ?_⟩
    · refine kw_iconst hC dX7_next_28 rfl ?_
      exact hR9.1 rfl _ _ _ _ dX7_next_29 (by first | (exfalso; omega) | exact ⟨_, rfl, hRS, tC_tFm hfS, hFS.w (tC_tXw hfS), by rw [fNext_b (by omega), cSl_tC hfS]⟩ | exact ⟨_, rfl, hp9.2.1, hbW.trans ((tC_tFm hfS).trans (fWd_tFm hp9.2.2.1)), (hG9.w (tC_tXw hfS)).w (fWd_tXw hp9.2.2.1), by obtain ⟨L, q1, q2, q3⟩ := hfl; rw [fNext_s (by omega) q1 (by omega)]; exact st_k (by omega) (by omega) (by omega) hp9 ((cSl_tC hfS).trans hbS) (by rw [eK8, ← q3 b.toNat (by omega), Int.toNat_of_nonneg (by omega)])⟩ | exact ⟨_, rfl, hRS, hbW.trans (tC_tFm hfS), hG9.w (tC_tXw hfS), by have h9 := (hr9.resolve_left (fun z => by omega)).2; rw [fNext_n (by omega) h9, cSl_tC hfS, hbS]⟩ | exact ⟨_, rfl, hRS, hbW.trans (tC_tFm hfS), hG9.w (tC_tXw hfS), by obtain ⟨L, q1, q2, -⟩ := hfl; rw [fNext_o (by omega) q1 (by omega), cSl_tC hfS, hbS]⟩)
    · refine kw_iload_n hC dX7_next_11 rfl 1 rfl ?_
      refine kw_bipush hC dX7_next_12 rfl (by decide) ?_
      refine kw_icmp_gt (tgt := 28) hC dX7_next_14 rfl (by decide) (by omega) (by omega) ⟨fun c14 => ?_, fun c14 => ?_⟩
      · refine kw_iconst hC dX7_next_28 rfl ?_
        exact hR9.1 rfl _ _ _ _ dX7_next_29 (by first | (exfalso; omega) | exact ⟨_, rfl, hRS, tC_tFm hfS, hFS.w (tC_tXw hfS), by rw [fNext_b (by omega), cSl_tC hfS]⟩ | exact ⟨_, rfl, hp9.2.1, hbW.trans ((tC_tFm hfS).trans (fWd_tFm hp9.2.2.1)), (hG9.w (tC_tXw hfS)).w (fWd_tXw hp9.2.2.1), by obtain ⟨L, q1, q2, q3⟩ := hfl; rw [fNext_s (by omega) q1 (by omega)]; exact st_k (by omega) (by omega) (by omega) hp9 ((cSl_tC hfS).trans hbS) (by rw [eK8, ← q3 b.toNat (by omega), Int.toNat_of_nonneg (by omega)])⟩ | exact ⟨_, rfl, hRS, hbW.trans (tC_tFm hfS), hG9.w (tC_tXw hfS), by have h9 := (hr9.resolve_left (fun z => by omega)).2; rw [fNext_n (by omega) h9, cSl_tC hfS, hbS]⟩ | exact ⟨_, rfl, hRS, hbW.trans (tC_tFm hfS), hG9.w (tC_tXw hfS), by obtain ⟨L, q1, q2, -⟩ := hfl; rw [fNext_o (by omega) q1 (by omega), cSl_tC hfS, hbS]⟩)
      · refine kw_aload_n hC dX7_next_17 rfl 0 rfl ?_
        refine kg_0_6 hC w7 f54 dX7_next_18 rfl (by decide) (by decide) ?_
        refine kw_iload_n hC dX7_next_21 rfl 1 rfl ?_
        refine kw_callV hC (f_X0_reaches hD hRS (hFS.w (tC_tXw hfS)) (by omega) (by omega)) gX7_next_X0_reaches ⟨_, rfl⟩ rfl (by decide) (by decide) rfl ⟨rfl, rfl⟩ 1 (by decide +kernel) ⟨by decide, by decide⟩ rfl rfl (Nat.le_of_ble_eq_true rfl) dX7_next_22 rfl (kd_i (fun r4 S4 hp4 => ?_))
        obtain ⟨hgF, hF9, hG9, hr9⟩ := hp4
        have hRS4 : CI S4 := hRS.fm hgF hF9
        have hbW : Fr tFm S S4 := (tC_tFm hfS).trans (fFm_tFm hgF)
        have hbS : cSl S4 = cSl S := (cSl_fFm hgF).trans (cSl_tC hfS)
        have eb0 : S4 3 16 2 = S 3 16 2 := hbW 3 16 2 (by unfold tFm; omega)
        have eb5 : ∀ j, S4 5 16 j = S 5 16 j := fun j => hbW 5 16 j (by unfold tFm; omega)
        rw [kM_eq (W := S) (S := S) (hfS 3 16 2 (by unfold tC; omega)) (fun j => hfS 5 16 j (by unfold tC; omega)), kn_eq (W := S) (S := S) (hfS 3 16 2 (by unfold tC; omega))] at hr9
        have hfS4 : Fr tC S4 S4 := Fr.rfl _ _
        have hnS4 := hRS4.n
        refine kw_if_ne (tgt := 30) hC dX7_next_25 rfl (by decide) (by omega) ⟨fun c25 => ?_, fun c25 => ?_⟩
        · have hr8 := (hr9.resolve_right (fun z => by omega)).2
          have hC9 := hF9.2.2.2.1 a (by omega) (by omega)
          have hfl := hG9.at' (a := a) (by omega) hr8
          rw [kM_eq (S := S) eb0 eb5, kn_eq (S := S) eb0] at hfl
          refine kw_iload_n hC dX7_next_30 rfl 2 rfl ?_
          refine kw_if_lt (tgt := 46) hC dX7_next_31 rfl (by decide) (by omega) ⟨fun c31 => ?_, fun c31 => ?_⟩
          · refine kw_iconst hC dX7_next_46 rfl ?_
            exact hR9.1 rfl _ _ _ _ dX7_next_47 (by first | (exfalso; omega) | exact ⟨_, rfl, hRS4, tC_tFm hfS4, hFS.w (tC_tXw hfS4), by rw [fNext_b (by omega), cSl_tC hfS4]⟩ | exact ⟨_, rfl, hp9.2.1, hbW.trans ((tC_tFm hfS4).trans (fWd_tFm hp9.2.2.1)), (hG9.w (tC_tXw hfS4)).w (fWd_tXw hp9.2.2.1), by obtain ⟨L, q1, q2, q3⟩ := hfl; rw [fNext_s (by omega) q1 (by omega)]; exact st_k (by omega) (by omega) (by omega) hp9 ((cSl_tC hfS4).trans hbS) (by rw [eK8, ← q3 b.toNat (by omega), Int.toNat_of_nonneg (by omega)])⟩ | exact ⟨_, rfl, hRS4, hbW.trans (tC_tFm hfS4), hG9.w (tC_tXw hfS4), by have h9 := (hr9.resolve_left (fun z => by omega)).2; rw [fNext_n (by omega) h9, cSl_tC hfS4, hbS]⟩ | exact ⟨_, rfl, hRS4, hbW.trans (tC_tFm hfS4), hG9.w (tC_tXw hfS4), by obtain ⟨L, q1, q2, -⟩ := hfl; rw [fNext_o (by omega) q1 (by omega), cSl_tC hfS4, hbS]⟩)
          · refine kw_iload_n hC dX7_next_34 rfl 2 rfl ?_
            refine kw_aload_n hC dX7_next_35 rfl 0 rfl ?_
            refine kg_0_6 hC w7 f54 dX7_next_36 rfl (by decide) (by decide) ?_
            refine kw_iload_n hC dX7_next_39 rfl 1 rfl ?_
            refine kw_callV hC (d_X0_ofLength hD (by omega) (by omega)) gX7_next_X0_ofLength ⟨_, rfl⟩ rfl (by decide) (by decide) rfl ⟨rfl, rfl⟩ 1 (by decide +kernel) ⟨by decide, by decide⟩ rfl rfl (Nat.le_of_ble_eq_true rfl) dX7_next_40 rfl (kd_ie ?_)
            refine kw_icmp_lt (tgt := 48) hC dX7_next_43 rfl (by decide) (by omega) (by omega) ⟨fun c43 => ?_, fun c43 => ?_⟩
            · refine kw_aload_n hC dX7_next_48 rfl 0 rfl ?_
              refine kg_0_6 hC w7 f54 dX7_next_49 rfl (by decide) (by decide) ?_
              refine kw_iload_n hC dX7_next_52 rfl 1 rfl ?_
              refine kw_iload_n hC dX7_next_53 rfl 2 rfl ?_
              refine kw_aload_n hC dX7_next_54 rfl 0 rfl ?_
              refine kg_0_7 hC w7 f59 dX7_next_55 rfl (by decide) (by decide) ?_
              refine kw_callV hC (f_X0_spell hD hRS4 (by omega) (by omega) (by omega) (by omega)) gX7_next_X0_spell ⟨_, rfl⟩ rfl (by decide) (by decide) rfl ⟨rfl, rfl⟩ 3 (by decide +kernel) ⟨by decide, by decide⟩ rfl rfl (Nat.le_of_ble_eq_true rfl) dX7_next_58 rfl (kd_v (fun S8 hp8 => ?_))
              obtain ⟨hg8, hp8⟩ := hp8
              have hfS8 : Fr tC S4 S8 := hfS4.trans (hg8.mono (fun k i j h => by unfold fWd at h; unfold tC; omega))
              have hRS8 := hRS4.fr hfS8
              have hnS8 := hRS8.n
              have enS8 : S8 3 16 2 = S4 3 16 2 := hfS8 3 16 2 (by unfold tC; omega)
              obtain ⟨y1, y2, eK8⟩ := hp8
              have hv8 : WV (S8 2 8) (S8 1 8 1) (S8 3 16 2) := y2.eq (fun _ _ _ => rfl) y1 (by omega)
              refine kw_aload_n hC dX7_next_61 rfl 0 rfl ?_
              refine kw_aload_n hC dX7_next_62 rfl 0 rfl ?_
              refine kg_0_7 hC w7 f59 dX7_next_63 rfl (by decide) (by decide) ?_
              refine kw_iload_n hC dX7_next_66 rfl 3 rfl ?_
              refine kw_callV hC (d_X7_store hD (by omega) (by omega) (by omega) (by omega) hRS8 hv8 (by omega) (by omega)) gX7_next_X7_store ⟨_, rfl⟩ rfl (by decide) (by decide) rfl ⟨rfl, rfl⟩ 2 (by decide +kernel) ⟨by decide, by decide⟩ rfl rfl (Nat.le_of_ble_eq_true rfl) dX7_next_67 rfl (kd_i (fun r9 Sz hp9 => ?_))
              exact hR9.1 rfl _ _ _ _ dX7_next_70 (by first | (exfalso; omega) | exact ⟨_, rfl, hRS8, tC_tFm hfS8, hFS.w (tC_tXw hfS8), by rw [fNext_b (by omega), cSl_tC hfS8]⟩ | exact ⟨_, rfl, hp9.2.1, hbW.trans ((tC_tFm hfS8).trans (fWd_tFm hp9.2.2.1)), (hG9.w (tC_tXw hfS8)).w (fWd_tXw hp9.2.2.1), by obtain ⟨L, q1, q2, q3⟩ := hfl; rw [fNext_s (by omega) q1 (by omega)]; exact st_k (by omega) (by omega) (by omega) hp9 ((cSl_tC hfS8).trans hbS) (by rw [eK8, ← q3 b.toNat (by omega), Int.toNat_of_nonneg (by omega)])⟩ | exact ⟨_, rfl, hRS8, hbW.trans (tC_tFm hfS8), hG9.w (tC_tXw hfS8), by have h9 := (hr9.resolve_left (fun z => by omega)).2; rw [fNext_n (by omega) h9, cSl_tC hfS8, hbS]⟩ | exact ⟨_, rfl, hRS8, hbW.trans (tC_tFm hfS8), hG9.w (tC_tXw hfS8), by obtain ⟨L, q1, q2, -⟩ := hfl; rw [fNext_o (by omega) q1 (by omega), cSl_tC hfS8, hbS]⟩)
            · refine kw_iconst hC dX7_next_46 rfl ?_
              exact hR9.1 rfl _ _ _ _ dX7_next_47 (by first | (exfalso; omega) | exact ⟨_, rfl, hRS4, tC_tFm hfS4, hFS.w (tC_tXw hfS4), by rw [fNext_b (by omega), cSl_tC hfS4]⟩ | exact ⟨_, rfl, hp9.2.1, hbW.trans ((tC_tFm hfS4).trans (fWd_tFm hp9.2.2.1)), (hG9.w (tC_tXw hfS4)).w (fWd_tXw hp9.2.2.1), by obtain ⟨L, q1, q2, q3⟩ := hfl; rw [fNext_s (by omega) q1 (by omega)]; exact st_k (by omega) (by omega) (by omega) hp9 ((cSl_tC hfS4).trans hbS) (by rw [eK8, ← q3 b.toNat (by omega), Int.toNat_of_nonneg (by omega)])⟩ | exact ⟨_, rfl, hRS4, hbW.trans (tC_tFm hfS4), hG9.w (tC_tXw hfS4), by have h9 := (hr9.resolve_left (fun z => by omega)).2; rw [fNext_n (by omega) h9, cSl_tC hfS4, hbS]⟩ | exact ⟨_, rfl, hRS4, hbW.trans (tC_tFm hfS4), hG9.w (tC_tXw hfS4), by obtain ⟨L, q1, q2, -⟩ := hfl; rw [fNext_o (by omega) q1 (by omega), cSl_tC hfS4, hbS]⟩)
        · refine kw_iconst hC dX7_next_28 rfl ?_
          exact hR9.1 rfl _ _ _ _ dX7_next_29 (by first | (exfalso; omega) | exact ⟨_, rfl, hRS4, tC_tFm hfS4, hFS.w (tC_tXw hfS4), by rw [fNext_b (by omega), cSl_tC hfS4]⟩ | exact ⟨_, rfl, hp9.2.1, hbW.trans ((tC_tFm hfS4).trans (fWd_tFm hp9.2.2.1)), (hG9.w (tC_tXw hfS4)).w (fWd_tXw hp9.2.2.1), by obtain ⟨L, q1, q2, q3⟩ := hfl; rw [fNext_s (by omega) q1 (by omega)]; exact st_k (by omega) (by omega) (by omega) hp9 ((cSl_tC hfS4).trans hbS) (by rw [eK8, ← q3 b.toNat (by omega), Int.toNat_of_nonneg (by omega)])⟩ | exact ⟨_, rfl, hRS4, hbW.trans (tC_tFm hfS4), hG9.w (tC_tXw hfS4), by have h9 := (hr9.resolve_left (fun z => by omega)).2; rw [fNext_n (by omega) h9, cSl_tC hfS4, hbS]⟩ | exact ⟨_, rfl, hRS4, hbW.trans (tC_tFm hfS4), hG9.w (tC_tXw hfS4), by obtain ⟨L, q1, q2, -⟩ := hfl; rw [fNext_o (by omega) q1 (by omega), cSl_tC hfS4, hbS]⟩)
end
section
set_option maxHeartbeats 4000000 in
set_option maxRecDepth 100000 in
theorem f_X7_wall {g : wG} (hD : wD g) {S : wSt} {a b c d : Int} (ha : -2147483648 ≤ a ∧ a ≤ 2147483647) (hb : -2147483648 ≤ b ∧ b ≤ 2147483647) (hc : -2147483648 ≤ c ∧ c ≤ 2147483647) (hd : -2147483648 ≤ d ∧ d ≤ 2147483647) (hRS : CI S) (l : Launch) : Kt l yX7_wall wsX7_wall ({ frames := 6, cells := 0, slots := 0, locals := 143 } : Room) g S [vr g 0 0, vi a, vi b, vi c, vi d] (pL (fun _ S' => CI S' ∧ Fr tC S S')) := by
  refine Kt.of (cc := cX7_wall) (nL := 5) (ret := (some .long)) (own := RX7) rfl hD (by decide) rfl (Nat.le_of_ble_eq_true rfl) ⟨rfl, rfl⟩ ?_
  intro E hC hR9
  have f12 : Cond.fieldLink RX7 12 "MirrorBench" "set" "LMirrorBench$Mirrors;" ∈ wsX7_wall := by decide +kernel
  have f25 : Cond.fieldLink RX7 25 "MirrorBench" "slots" "[LMirrorBench$Word;" ∈ wsX7_wall := by decide +kernel
  have f40 : Cond.fieldLink RX7 40 "MirrorBench" "shortener" "LMirrorBench$Shortener;" ∈ wsX7_wall := by decide +kernel
  have f59 : Cond.fieldLink RX7 59 "MirrorBench" "made" "LMirrorBench$Word;" ∈ wsX7_wall := by decide +kernel
  have f66 : Cond.fieldLink RX7 66 "MirrorBench" "joined" "LMirrorBench$Word;" ∈ wsX7_wall := by decide +kernel
  have f69 : Cond.fieldLink RX7 69 "MirrorBench" "spare" "[J" ∈ wsX7_wall := by decide +kernel
  have f131 : Cond.fieldLink RX7 131 "MirrorBench$Word" "length" "I" ∈ wsX7_wall := by decide +kernel
  have f157 : Cond.fieldLink RX7 157 "MirrorBench$Word" "mirrors" "[I" ∈ wsX7_wall := by decide +kernel
  have l196 : Cond.constantLong RX7 196 (Int64.ofInt (-10000000000001)) ∈ wsX7_wall := by decide +kernel
  have l206 : Cond.constantLong RX7 206 (Int64.ofInt (-10000000000004)) ∈ wsX7_wall := by decide +kernel
  have w6 : ∀ w ∈ wsX60, w ∈ wsX7_wall := by decide +kernel
  have w7 : ∀ w ∈ wsX70, w ∈ wsX7_wall := by decide +kernel
  show Wk E g 5 S 0 [(0, vr g 0 0), (1, vi a), (2, vi b), (3, vi c), (4, vi d)] []
  have hfS : Fr tC S S := Fr.rfl _ S
  have hRS := hRS.fr hfS
  have hnS := hRS.n
  have enS : S 3 16 2 = S 3 16 2 := hfS 3 16 2 (by unfold tC; omega)
  refine kw_iload_n hC dX7_wall_0 rfl 1 rfl ?_
  refine kw_callS hC (d_X7_isSlot hD (by omega)) gX7_wall_X7_isSlot rfl ⟨rfl, rfl⟩ 1 (by decide +kernel) ⟨by decide, by decide⟩ rfl rfl (Nat.le_of_ble_eq_true rfl) dX7_wall_1 rfl (kd_ie ?_)
  refine kw_ifeq_b (tgt := 39) hC dX7_wall_4 rfl (by decide) ⟨fun c4 => ?_, fun c4 => ?_⟩
  · refine kw_ldc2 (z := -10000000000001) hC dX7_wall_39 rfl l196 ?_
    exact hR9.2.2.1 rfl _ _ _ _ dX7_wall_42 ⟨_, rfl, hRS, hfS⟩
  · refine kw_iload_n hC dX7_wall_7 rfl 2 rfl ?_
    refine kw_callS hC (d_X7_isSlot hD (by omega)) gX7_wall_X7_isSlot rfl ⟨rfl, rfl⟩ 1 (by decide +kernel) ⟨by decide, by decide⟩ rfl rfl (Nat.le_of_ble_eq_true rfl) dX7_wall_8 rfl (kd_ie ?_)
    refine kw_ifeq_b (tgt := 39) hC dX7_wall_11 rfl (by decide) ⟨fun c11 => ?_, fun c11 => ?_⟩
    · refine kw_ldc2 (z := -10000000000001) hC dX7_wall_39 rfl l196 ?_
      exact hR9.2.2.1 rfl _ _ _ _ dX7_wall_42 ⟨_, rfl, hRS, hfS⟩
    · refine kw_iload_n hC dX7_wall_14 rfl 3 rfl ?_
      refine kw_if_lt (tgt := 39) hC dX7_wall_15 rfl (by decide) (by omega) ⟨fun c15 => ?_, fun c15 => ?_⟩
      · refine kw_ldc2 (z := -10000000000001) hC dX7_wall_39 rfl l196 ?_
        exact hR9.2.2.1 rfl _ _ _ _ dX7_wall_42 ⟨_, rfl, hRS, hfS⟩
      · refine kw_aload_n hC dX7_wall_18 rfl 0 rfl ?_
        refine kg_0_0 hC w7 f12 dX7_wall_19 rfl (by decide) (by decide) ?_
        refine kw_iload hC dX7_wall_22 rfl 4 rfl ?_
        refine kw_callV hC (d_X3_has hD (by omega) (by omega) (by omega) (by omega) (by omega)) gX7_wall_X3_has ⟨_, rfl⟩ rfl (by omega) (show (16 : Int) < 17 by omega) rfl ⟨rfl, rfl⟩ 1 (by decide +kernel) ⟨by decide, by decide⟩ rfl rfl (Nat.le_of_ble_eq_true rfl) dX7_wall_24 rfl (kd_ie ?_)
        refine kw_ifeq_b (tgt := 39) hC dX7_wall_27 rfl (by decide) ⟨fun c27 => ?_, fun c27 => ?_⟩
        · refine kw_ldc2 (z := -10000000000001) hC dX7_wall_39 rfl l196 ?_
          exact hR9.2.2.1 rfl _ _ _ _ dX7_wall_42 ⟨_, rfl, hRS, hfS⟩
        · refine kw_aload_n hC dX7_wall_30 rfl 0 rfl ?_
          refine kw_iload_n hC dX7_wall_31 rfl 1 rfl ?_
          refine kw_iload_n hC dX7_wall_32 rfl 2 rfl ?_
          refine kw_callV hC (d_X7_joinWay hD (by omega) (by omega) (by omega) (by omega) hRS) gX7_wall_X7_joinWay ⟨_, rfl⟩ rfl (by decide) (by decide) rfl ⟨rfl, rfl⟩ 2 (by decide +kernel) ⟨by decide, by decide⟩ rfl rfl (Nat.le_of_ble_eq_true rfl) dX7_wall_33 rfl (kd_i (fun r5 S5 hp5 => ?_))
          obtain ⟨hg5, hp5⟩ := hp5
          have hfS5 : Fr tC S S5 := hfS.trans (hg5.mono (fun k i j h => by unfold fWd at h; unfold tC; omega))
          have hRS5 := hRS.fr hfS5
          have hnS5 := hRS5.n
          have enS5 : S5 3 16 2 = S 3 16 2 := hfS5 3 16 2 (by unfold tC; omega)
          obtain ⟨hbJ, hqJ⟩ := hp5
          refine kw_if_ne (tgt := 43) hC dX7_wall_36 rfl (by decide) (by omega) ⟨fun c36 => ?_, fun c36 => ?_⟩
          · obtain ⟨⟨lJ0, lJ1⟩, hvJ⟩ := hqJ (by omega)
            replace hvJ : WV (S5 2 10) (S5 1 10 1) (S5 3 16 2) := hvJ.eq (fun _ _ _ => rfl) rfl (by omega)
            have hla := hRS.ln a (by omega) (by omega)
            have hwa := hRS.wv a (by omega) (by omega)
            refine kw_aload_n hC dX7_wall_43 rfl 0 rfl ?_
            refine kg_0_4 hC w7 f40 dX7_wall_44 rfl (by decide) (by decide) ?_
            refine kw_aload_n hC dX7_wall_47 rfl 0 rfl ?_
            refine kg_0_9 hC w7 f66 dX7_wall_48 rfl (by decide) (by decide) ?_
            refine kw_aload_n hC dX7_wall_51 rfl 0 rfl ?_
            refine kg_0_7 hC w7 f59 dX7_wall_52 rfl (by decide) (by decide) ?_
            refine kw_callV hC (d_X5_makeForm hD (by omega) (by omega) (by omega) (by omega) hRS5 hvJ (by omega) (by omega)) gX7_wall_X5_makeForm ⟨_, rfl⟩ rfl (by decide) (by decide) rfl ⟨rfl, rfl⟩ 2 (by decide +kernel) ⟨by decide, by decide⟩ rfl rfl (Nat.le_of_ble_eq_true rfl) dX7_wall_55 rfl (kd_i (fun r7 S7 hp7 => ?_))
            obtain ⟨hg7, hp7⟩ := hp7
            have hfS7 : Fr tC S S7 := hfS5.trans (hg7.mono (fun k i j h => by unfold fMd at h; unfold tC; omega))
            have hRS7 := hRS.fr hfS7
            have hnS7 := hRS7.n
            have enS7 : S7 3 16 2 = S 3 16 2 := hfS7 3 16 2 (by unfold tC; omega)
            obtain ⟨hb7, hq7⟩ := hp7
            have hqX := hq7
            refine kw_if_ne (tgt := 65) hC dX7_wall_58 rfl (by decide) (by omega) ⟨fun c58 => ?_, fun c58 => ?_⟩
            · obtain ⟨⟨lX0, lX1⟩, hqW⟩ := hqX (by omega)
              have hv8 : WV (S7 2 8) (S7 1 8 1) (S7 3 16 2) := hqW.eq (fun _ _ _ => rfl) rfl (by omega)
              refine kw_iload_n hC dX7_wall_65 rfl 3 rfl ?_
              refine kw_aload_n hC dX7_wall_66 rfl 0 rfl ?_
              refine kg_0_7 hC w7 f59 dX7_wall_67 rfl (by decide) (by decide) ?_
              refine kg_1_1 hC w6 f131 dX7_wall_70 rfl (by omega) (by omega) ?_
              refine kw_icmp_lt (tgt := 80) hC dX7_wall_73 rfl (by decide) (by omega) (by omega) ⟨fun c73 => ?_, fun c73 => ?_⟩
              · refine kw_aload_n hC dX7_wall_80 rfl 0 rfl ?_
                refine kg_0_10 hC w7 f69 dX7_wall_81 rfl (by decide) (by decide) ?_
                refine kw_aload_n hC dX7_wall_84 rfl 0 rfl ?_
                refine kg_0_7 hC w7 f59 dX7_wall_85 rfl (by decide) (by decide) ?_
                refine kg_1_0 hC w6 f157 dX7_wall_88 rfl (by omega) (by omega) ?_
                refine kw_iload_n hC dX7_wall_91 rfl 3 rfl ?_
                refine ka_2 hC dX7_wall_92 rfl (by omega) (by omega) (by omega) (by omega) ?_
                have hlx := hv8 c (by omega) (by omega)
                refine kw_callS hC (d_X7_setOwn hD (c := 22) (w := 0) (fun _ => rfl) (by decide) (by decide) (by omega) (by omega)) gX7_wall_X7_setOwn rfl ⟨rfl, rfl⟩ 2 (by decide +kernel) ⟨by decide, by decide⟩ rfl rfl (Nat.le_of_ble_eq_true rfl) dX7_wall_93 rfl (kd_v (fun S10 hp10 => ?_))
                obtain ⟨hg10, hp10⟩ := hp10
                have hfS10 : Fr tC S S10 := hfS7.trans (hg10.mono (fun k i j h => by unfold fCl at h; unfold tC; omega))
                have hRS10 := hRS.fr hfS10
                have hnS10 := hRS10.n
                have enS10 : S10 3 16 2 = S 3 16 2 := hfS10 3 16 2 (by unfold tC; omega)
                replace hv8 : WV (S10 2 8) (S10 1 8 1) (S10 3 16 2) := hv8.fr hg10 (by unfold fCl; omega) (fun j => by unfold fCl; omega) (by omega)
                have e810 : S10 1 8 1 = S7 1 8 1 := hg10 1 8 1 (by unfold fCl; omega)
                have hvc : WV (S10 2 8) c (S10 3 16 2) := fun j j0 j1 => hv8 j j0 (by omega)
                refine kw_aload_n hC dX7_wall_96 rfl 0 rfl ?_
                refine kg_0_0 hC w7 f12 dX7_wall_97 rfl (by decide) (by decide) ?_
                refine kw_aload_n hC dX7_wall_100 rfl 0 rfl ?_
                refine kg_0_7 hC w7 f59 dX7_wall_101 rfl (by decide) (by decide) ?_
                refine kw_iload_n hC dX7_wall_104 rfl 3 rfl ?_
                refine kw_aload_n hC dX7_wall_105 rfl 0 rfl ?_
                refine kg_0_10 hC w7 f69 dX7_wall_106 rfl (by decide) (by decide) ?_
                refine kw_callV hC (d_X3_turnBy hD (c := 22) (w := 0) (fun _ => rfl) (by decide) (by decide) (by decide) (fun j => by unfold tC; omega) (by omega) (by omega) (by omega) (by omega) hRS10 hvc) gX7_wall_X3_turnBy ⟨_, rfl⟩ rfl (by omega) (show (16 : Int) < 17 by omega) rfl ⟨rfl, rfl⟩ 3 (by decide +kernel) ⟨by decide, by decide⟩ rfl rfl (Nat.le_of_ble_eq_true rfl) dX7_wall_109 rfl (kd_i (fun r11 S11 hp11 => ?_))
                obtain ⟨hg11, hp11⟩ := hp11
                have hfS11 : Fr tC S S11 := hfS10.trans (hg11.mono (fun k i j h => by unfold fCl at h; unfold tC; omega))
                have hRS11 := hRS.fr hfS11
                have hnS11 := hRS11.n
                have enS11 : S11 3 16 2 = S 3 16 2 := hfS11 3 16 2 (by unfold tC; omega)
                obtain ⟨-, hb11⟩ := (⟨trivial, hp11⟩ : True ∧ _)
                refine kw_if_eq (tgt := 144) hC dX7_wall_112 rfl (by decide) (by omega) ⟨fun c112 => ?_, fun c112 => ?_⟩
                · refine kw_ldc2 (z := -10000000000004) hC dX7_wall_144 rfl l206 ?_
                  exact hR9.2.2.1 rfl _ _ _ _ dX7_wall_147 ⟨_, rfl, hRS11, hfS11⟩
                · refine kw_aload_n hC dX7_wall_115 rfl 0 rfl ?_
                  refine kg_0_0 hC w7 f12 dX7_wall_116 rfl (by decide) (by decide) ?_
                  refine kw_aload_n hC dX7_wall_119 rfl 0 rfl ?_
                  refine kg_0_2 hC w7 f25 dX7_wall_120 rfl (by decide) (by decide) ?_
                  refine kw_iload_n hC dX7_wall_123 rfl 1 rfl ?_
                  refine ka_20 hC dX7_wall_124 rfl (by decide) (by decide) (by omega) (by omega) ?_
                  refine kw_aload_n hC dX7_wall_125 rfl 0 rfl ?_
                  refine kg_0_2 hC w7 f25 dX7_wall_126 rfl (by decide) (by decide) ?_
                  refine kw_iload_n hC dX7_wall_129 rfl 1 rfl ?_
                  refine ka_20 hC dX7_wall_130 rfl (by decide) (by decide) (by omega) (by omega) ?_
                  refine kg_1_1 hC w6 f131 dX7_wall_131 rfl (by omega) (by omega) ?_
                  refine kw_chi (z' := S 1 a 1) (hfS11 1 a 1 (by unfold tC; omega)) ?_
                  have hws : WV (S11 2 a) (S 1 a 1) (S11 3 16 2) := hwa.eq (fun j _ _ => hfS11 2 a j (by unfold tC; omega)) rfl (by omega)
                  refine kw_aload_n hC dX7_wall_134 rfl 0 rfl ?_
                  refine kg_0_10 hC w7 f69 dX7_wall_135 rfl (by decide) (by decide) ?_
                  refine kw_callV hC (d_X3_turnBy hD (c := 22) (w := 0) (fun _ => rfl) (by decide) (by decide) (by decide) (fun j => by unfold tC; omega) (by omega) (by omega) (by omega) (by omega) hRS11 hws) gX7_wall_X3_turnBy ⟨_, rfl⟩ rfl (by omega) (show (16 : Int) < 17 by omega) rfl ⟨rfl, rfl⟩ 3 (by decide +kernel) ⟨by decide, by decide⟩ rfl rfl (Nat.le_of_ble_eq_true rfl) dX7_wall_138 rfl (kd_i (fun r13 S13 hp13 => ?_))
                  obtain ⟨hg13, hp13⟩ := hp13
                  have hfS13 : Fr tC S S13 := hfS11.trans (hg13.mono (fun k i j h => by unfold fCl at h; unfold tC; omega))
                  have hRS13 := hRS.fr hfS13
                  have hnS13 := hRS13.n
                  have enS13 : S13 3 16 2 = S 3 16 2 := hfS13 3 16 2 (by unfold tC; omega)
                  obtain ⟨-, hb13⟩ := (⟨trivial, hp13⟩ : True ∧ _)
                  refine kw_if_ne (tgt := 148) hC dX7_wall_141 rfl (by decide) (by omega) ⟨fun c141 => ?_, fun c141 => ?_⟩
                  · refine kw_aload_n hC dX7_wall_148 rfl 0 rfl ?_
                    refine kg_0_10 hC w7 f69 dX7_wall_149 rfl (by decide) (by decide) ?_
                    refine kw_callS hC (d_X7_hasBelowZero hD (c := 22) (w := 0) (fun _ => rfl) (by decide) (by decide) ) gX7_wall_X7_hasBelowZero rfl ⟨rfl, rfl⟩ 1 (by decide +kernel) ⟨by decide, by decide⟩ rfl rfl (Nat.le_of_ble_eq_true rfl) dX7_wall_152 rfl (kd_ie ?_)
                    refine kw_ifeq_b (tgt := 169) hC dX7_wall_155 rfl (by decide) ⟨fun c155 => ?_, fun c155 => ?_⟩
                    · refine kw_aload_n hC dX7_wall_169 rfl 0 rfl ?_
                      refine kg_0_10 hC w7 f69 dX7_wall_170 rfl (by decide) (by decide) ?_
                      refine kw_iload hC dX7_wall_173 rfl 4 rfl ?_
                      refine ka_22 hC dX7_wall_175 rfl (by decide) (by decide) (by omega) (by omega) ?_
                      exact hR9.2.2.1 rfl _ _ _ _ dX7_wall_176 ⟨_, rfl, hRS13, hfS13⟩
                    · refine kw_aload_n hC dX7_wall_158 rfl 0 rfl ?_
                      refine kg_0_10 hC w7 f69 dX7_wall_159 rfl (by decide) (by decide) ?_
                      refine kw_iload hC dX7_wall_162 rfl 4 rfl ?_
                      refine ka_22 hC dX7_wall_164 rfl (by decide) (by decide) (by omega) (by omega) ?_
                      refine kw_lneg hC dX7_wall_165 rfl ?_
                      refine kw_goto (tgt := 176) hC dX7_wall_166 rfl (by decide) ?_
                      exact hR9.2.2.1 rfl _ _ _ _ dX7_wall_176 ⟨_, rfl, hRS13, hfS13⟩
                  · refine kw_ldc2 (z := -10000000000004) hC dX7_wall_144 rfl l206 ?_
                    exact hR9.2.2.1 rfl _ _ _ _ dX7_wall_147 ⟨_, rfl, hRS13, hfS13⟩
              · refine kw_ldc2 (z := -10000000000001) hC dX7_wall_76 rfl l196 ?_
                exact hR9.2.2.1 rfl _ _ _ _ dX7_wall_79 ⟨_, rfl, hRS7, hfS7⟩
            · refine kw_ldc2 (z := -10000000000004) hC dX7_wall_61 rfl l206 ?_
              exact hR9.2.2.1 rfl _ _ _ _ dX7_wall_64 ⟨_, rfl, hRS7, hfS7⟩
          · refine kw_ldc2 (z := -10000000000001) hC dX7_wall_39 rfl l196 ?_
            exact hR9.2.2.1 rfl _ _ _ _ dX7_wall_42 ⟨_, rfl, hRS5, hfS5⟩
end
