section
theorem cSl_e {S : wSt} (h : ∀ s, 0 ≤ s → s < 8 → S 1 s 1 = 0) : cSl S = eW := by
  funext s
  show cSl S s = []
  by_cases hs : 0 ≤ s ∧ s < 8
  · rw [cSl_at hs.1 hs.2]
    unfold kP
    rw [h s hs.1 hs.2]
    rfl
  · exact cSl_no hs
/-- the words and the forms -/
def tFm (k : Nat) (_i _j : Int) : Prop := k = 1 ∨ k = 2 ∨ k = 11 ∨ (16 ≤ k ∧ k ≤ 19) ∨ k = 22 ∨ k = 24
theorem tFm_tX {S S' : wSt} (h : Fr tFm S S') : Fr tX S S' := h.mono (fun k i j q => by unfold tFm at q; unfold tX; omega)
theorem tC_tFm {S S' : wSt} (h : Fr tC S S') : Fr tFm S S' := h.mono (fun k i j q => by unfold tC at q; unfold tFm; omega)
theorem fWd_tFm {a : Int} {S S' : wSt} (h : Fr (fWd a) S S') : Fr tFm S S' := h.mono (fun k i j q => by unfold fWd at q; unfold tFm; omega)
theorem fFm_tFm {S S' : wSt} (h : Fr fFm S S') : Fr tFm S S' := h.mono (fun k i j q => by unfold fFm at q; unfold tFm; omega)
theorem cSl_fFm {S W : wSt} (f : Fr fFm S W) : cSl W = cSl S := cSl_fr (fun s _ _ => ⟨f 1 s 1 (by unfold fFm; omega), fun j => f 2 s j (by unfold fFm; omega)⟩)
theorem cSl_fRt {S W : wSt} (f : Fr fRt S W) : cSl W = cSl S := cSl_fr (fun s _ _ => ⟨f 1 s 1 (by unfold fRt; omega), fun j => f 2 s j (by unfold fRt; omega)⟩)
theorem FLF.rt {S W : wSt} (h : FLF S) (f : Fr fRt S W) : FLF W := h.fr (f 3 16 2 (by unfold fRt; omega)) (fun j => f 5 16 j (by unfold fRt; omega)) (fun j => f 16 0 j (by unfold fRt; omega)) (fun j => f 17 0 j (by unfold fRt; omega)) (fun j => f 18 0 j (by unfold fRt; omega))
end
section
set_option maxHeartbeats 4000000 in
set_option maxRecDepth 100000 in
theorem f_X7_mirror {g : wG} (hD : wD g) {S : wSt} {a : Int} (ha : -2147483648 ≤ a ∧ a ≤ 2147483647) (hRS : CI S) (l : Launch) : Kt l yX7_mirror wsX7_mirror ({ frames := 3, cells := 0, slots := 0, locals := 68 } : Room) g S [vr g 0 0, vi a] (pI (fun r S' => CI S' ∧ Fr tY S S' ∧ (cSl S' = if 0 ≤ r then eW else cSl S) ∧ (FLF S → FLF S') ∧ (RLX S → RLX S') ∧ ∀ x, AC S x → AC S' (aMirror a x) ∧ r = rMirror a x)) := by
  refine Kt.of (cc := cX7_mirror) (nL := 3) (ret := (some .int)) (own := RX7) rfl hD (by decide) rfl (Nat.le_of_ble_eq_true rfl) ⟨rfl, rfl⟩ ?_
  intro E hC hR9
  have f12 : Cond.fieldLink RX7 12 "MirrorBench" "set" "LMirrorBench$Mirrors;" ∈ wsX7_mirror := by decide +kernel
  have f19 : Cond.fieldLink RX7 19 "MirrorBench" "history" "LMirrorBench$History;" ∈ wsX7_mirror := by decide +kernel
  have f83 : Cond.fieldLink RX7 83 "MirrorBench$Mirrors" "size" "I" ∈ wsX7_mirror := by decide +kernel
  have w3 : ∀ w ∈ wsX30, w ∈ wsX7_mirror := by decide +kernel
  have w7 : ∀ w ∈ wsX70, w ∈ wsX7_mirror := by decide +kernel
  show Wk E g 3 S 0 [(0, vr g 0 0), (1, vi a)] []
  have hfS : Fr tY S S := Fr.rfl _ S
  have hn := hRS.n
  refine kw_iload_n hC dX7_mirror_0 rfl 1 rfl ?_
  refine kw_callS hC (d_X7_isKind hD (by omega)) gX7_mirror_X7_isKind rfl ⟨rfl, rfl⟩ 1 (by decide +kernel) ⟨by decide, by decide⟩ rfl rfl (Nat.le_of_ble_eq_true rfl) dX7_mirror_1 rfl (kd_ie ?_)
  refine kw_ifne_b (tgt := 9) hC dX7_mirror_4 rfl (by decide) ⟨fun c4 => ?_, fun c4 => ?_⟩
  · refine kw_aload_n hC dX7_mirror_9 rfl 0 rfl ?_
    refine kg_0_0 hC w7 f12 dX7_mirror_10 rfl (by decide) (by decide) ?_
    refine kg_3_2 hC w3 f83 dX7_mirror_13 rfl (by omega) (by omega) ?_
    refine kw_bipush hC dX7_mirror_16 rfl (by decide) ?_
    refine kw_icmp_ne (tgt := 24) hC dX7_mirror_18 rfl (by decide) (by omega) (by omega) ⟨fun c18 => ?_, fun c18 => ?_⟩
    · refine kw_aload_n hC dX7_mirror_24 rfl 0 rfl ?_
      refine kg_0_1 hC w7 f19 dX7_mirror_25 rfl (by decide) (by decide) ?_
      refine kw_aload_n hC dX7_mirror_28 rfl 0 rfl ?_
      refine kg_0_0 hC w7 f12 dX7_mirror_29 rfl (by decide) (by decide) ?_
      refine kw_callV hC (d_X1_keep hD hRS) gX7_mirror_X1_keep ⟨_, rfl⟩ rfl (by decide) (by decide) rfl ⟨rfl, rfl⟩ 1 (by decide +kernel) ⟨by decide, by decide⟩ rfl rfl (Nat.le_of_ble_eq_true rfl) dX7_mirror_32 rfl (kd_v (fun S3 hp3 => ?_))
      obtain ⟨hg3, hp3⟩ := hp3
      have hfS3 : Fr tY S S3 := hfS.trans (hg3.mono (fun k i j h => by unfold fH at h; unfold tY; omega))
      have hK := hp3
      have hgK := hg3
      have k0 : S3 3 16 2 = S 3 16 2 := hg3 3 16 2 (by unfold fH; omega)
      have k4 : ∀ j, S3 4 16 j = S 4 16 j := fun j => hg3 4 16 j (by unfold fH; omega)
      have k5 : ∀ j, S3 5 16 j = S 5 16 j := fun j => hg3 5 16 j (by unfold fH; omega)
      refine kw_aload_n hC dX7_mirror_35 rfl 0 rfl ?_
      refine kg_0_0 hC w7 f12 dX7_mirror_36 rfl (by decide) (by decide) ?_
      refine kw_iload_n hC dX7_mirror_39 rfl 1 rfl ?_
      refine kw_callV hC (d_X3_addMirror hD (by omega) (by omega) (by omega) (by omega)) gX7_mirror_X3_addMirror ⟨_, rfl⟩ rfl (by omega) (show (16 : Int) < 17 by omega) rfl ⟨rfl, rfl⟩ 1 (by decide +kernel) ⟨by decide, by decide⟩ rfl rfl (Nat.le_of_ble_eq_true rfl) dX7_mirror_40 rfl (kd_i (fun r4 S4 hp4 => ?_))
      obtain ⟨hg4, hp4⟩ := hp4
      have hfS4 : Fr tY S S4 := hfS3.trans (hg4.mono (fun k i j h => by unfold fT3 at h; unfold tY; omega))
      obtain ⟨hr9, y2, y3, y4, y5⟩ := hp4
      have hgM := hg4
      refine kw_istore_n (lv' := [(2, _), (0, _), (1, _)]) hC dX7_mirror_43 rfl (by decide) rfl ?_
      refine kw_aload_n hC dX7_mirror_44 rfl 1 rfl ?_
      refine kw_callV hC (d_X7_startAnew hD ) gX7_mirror_X7_startAnew ⟨_, rfl⟩ rfl (by decide) (by decide) rfl ⟨rfl, rfl⟩ 0 (by decide +kernel) ⟨by decide, by decide⟩ rfl rfl (Nat.le_of_ble_eq_true rfl) dX7_mirror_45 rfl (kd_v (fun S5 hp5 => ?_))
      obtain ⟨hg5, hp5⟩ := hp5
      have hfS5 : Fr tY S S5 := hfS4.trans (hg5.mono (fun k i j h => by unfold fN at h; unfold tY; omega))
      obtain ⟨hw1, h12, h16⟩ := hp5
      have z3 : ∀ c j, S5 3 c j = S4 3 c j := fun c j => hg5 3 c j (by unfold fN; omega)
      have z4 : ∀ c j, S5 4 c j = S4 4 c j := fun c j => hg5 4 c j (by unfold fN; omega)
      have z5 : ∀ c j, S5 5 c j = S4 5 c j := fun c j => hg5 5 c j (by unfold fN; omega)
      have z8 : ∀ j, S5 8 0 j = S4 8 0 j := fun j => hg5 8 0 j (by unfold fN; omega)
      have n3 : S5 3 16 2 = S 3 16 2 + 1 := by rw [z3, y2, k0]
      have n4 : S5 4 16 (S 3 16 2) = a := by rw [z4, ← k0]; exact y3
      have n4o : ∀ i, i ≠ S 3 16 2 → S5 4 16 i = S 4 16 i := fun i hi => by rw [z4, y4 i (by omega), k4]
      have n5 : ∀ j, S5 5 16 j = S 5 16 j := fun j => by rw [z5, y5, k5]
      have hK9 : KpC S S5 := hK.tr hRS.hs.1 (fun c hc => by rw [z3]; exact hgM 3 c 2 (by unfold fT3; omega)) (fun c j hc => by rw [z4]; exact hgM 4 c j (by unfold fT3; omega)) (fun c j hc => by rw [z5]; exact hgM 5 c j (by unfold fT3; omega)) (fun j => by rw [z8]; exact hgM 8 0 j (by unfold fT3; omega))
      have hz9 : ∀ j, 0 ≤ j → j < 6 → S5 5 16 (6 * S 3 16 2 + j) = 0 ∧ S5 5 16 (6 * j + S 3 16 2) = 0 := fun j j0 j1 => by rw [n5, n5]; exact ⟨hRS.zb _ j (by omega) (by omega) j0 j1 (by omega), hRS.zb j _ j0 j1 (by omega) (by omega) (by omega)⟩
      have hi8 : CI S5 := hK9.ci hRS ⟨by rw [n3]; exact hRS.set.mirror (by omega) (by omega) n4 n4o hz9 (fun i j _ _ _ _ _ _ => n5 _), fun i j i0 i1 j0 j1 hh => by rw [n5]; rw [n3] at hh; exact hRS.zb i j i0 i1 j0 j1 (by omega)⟩ hfS5 hw1 h12 h16
      refine kw_iload_n hC dX7_mirror_48 rfl 0 rfl ?_
      exact hR9.1 rfl _ _ _ _ dX7_mirror_49 ⟨_, rfl, hi8, hfS5, (cSl_e hw1).trans (if_pos (by first | omega | exact (mAt_r _ _ _ _).1)).symm, fun _ => FLF.new h16.1 h16.2 hi8.fl.2.2.1, fun _ => RLX.new h12.1 h12.2 hi8.rl.2.2.1, fun x hx => by have e := hx.1.1; have hk9 : 0 ≤ a ∧ a ≤ 2 := (by omega); have h6 : ¬ x.1.1 = 6 := (by omega); unfold aMirror rMirror; rw [if_pos hk9, if_pos hk9, if_neg h6, if_neg h6]; exact ⟨hK9.ac hRS hx (by rw [n3]; exact hx.1.mirror (by omega) n4 n4o hz9 (fun i j _ _ _ _ _ _ => n5 _)), by omega⟩⟩
    · refine kw_bipush hC dX7_mirror_21 rfl (by decide) ?_
      exact hR9.1 rfl _ _ _ _ dX7_mirror_23 ⟨_, rfl, hRS, Fr.rfl _ S, (if_neg (by omega)).symm, id, id, fun x hx => by have e := hx.1.1; have e4 := hx.2.1; unfold aMirror rMirror; rw [if_pos (by omega), if_pos (by omega), if_pos (by omega), if_pos (by omega)]; exact ⟨hx, rfl⟩⟩
  · refine kw_iconst hC dX7_mirror_7 rfl ?_
    exact hR9.1 rfl _ _ _ _ dX7_mirror_8 ⟨_, rfl, hRS, Fr.rfl _ S, (if_neg (by omega)).symm, id, id, fun x hx => by have e := hx.1.1; have e4 := hx.2.1; unfold aMirror rMirror; rw [if_neg (by omega), if_neg (by omega)]; exact ⟨hx, rfl⟩⟩
set_option maxHeartbeats 4000000 in
set_option maxRecDepth 100000 in
theorem f_X7_meet {g : wG} (hD : wD g) {S : wSt} {a b c d : Int} (ha : -2147483648 ≤ a ∧ a ≤ 2147483647) (hb : -2147483648 ≤ b ∧ b ≤ 2147483647) (hc : -2147483648 ≤ c ∧ c ≤ 2147483647) (hd : -2147483648 ≤ d ∧ d ≤ 2147483647) (hRS : CI S) (l : Launch) : Kt l yX7_meet wsX7_meet ({ frames := 3, cells := 0, slots := 0, locals := 68 } : Room) g S [vr g 0 0, vi a, vi b, vi c, vi d] (pI (fun r S' => CI S' ∧ Fr tY S S' ∧ (cSl S' = if 0 ≤ r then eW else cSl S) ∧ (FLF S → FLF S') ∧ (RLX S → RLX S') ∧ ∀ x, AC S x → AC S' (aMeet a b c d x) ∧ r = rMeet a b c d x)) := by
  refine Kt.of (cc := cX7_meet) (nL := 5) (ret := (some .int)) (own := RX7) rfl hD (by decide) rfl (Nat.le_of_ble_eq_true rfl) ⟨rfl, rfl⟩ ?_
  intro E hC hR9
  have f12 : Cond.fieldLink RX7 12 "MirrorBench" "set" "LMirrorBench$Mirrors;" ∈ wsX7_meet := by decide +kernel
  have f19 : Cond.fieldLink RX7 19 "MirrorBench" "history" "LMirrorBench$History;" ∈ wsX7_meet := by decide +kernel
  have w7 : ∀ w ∈ wsX70, w ∈ wsX7_meet := by decide +kernel
  show Wk E g 5 S 0 [(0, vr g 0 0), (1, vi a), (2, vi b), (3, vi c), (4, vi d)] []
  have hfS : Fr tY S S := Fr.rfl _ S
  have hn := hRS.n
  refine kw_aload_n hC dX7_meet_0 rfl 0 rfl ?_
  refine kg_0_0 hC w7 f12 dX7_meet_1 rfl (by decide) (by decide) ?_
  refine kw_iload_n hC dX7_meet_4 rfl 1 rfl ?_
  refine kw_callV hC (d_X3_has hD (by omega) (by omega) (by omega) (by omega) (by omega)) gX7_meet_X3_has ⟨_, rfl⟩ rfl (by omega) (show (16 : Int) < 17 by omega) rfl ⟨rfl, rfl⟩ 1 (by decide +kernel) ⟨by decide, by decide⟩ rfl rfl (Nat.le_of_ble_eq_true rfl) dX7_meet_5 rfl (kd_ie ?_)
  refine kw_ifeq_b (tgt := 36) hC dX7_meet_8 rfl (by decide) ⟨fun c8 => ?_, fun c8 => ?_⟩
  · refine kw_iconst hC dX7_meet_36 rfl ?_
    exact hR9.1 rfl _ _ _ _ dX7_meet_37 ⟨_, rfl, hRS, Fr.rfl _ S, (if_neg (by omega)).symm, id, id, fun x hx => by have e := hx.1.1; have hno : ¬ oMeet a b c d x.1.1 := (fun q => by obtain ⟨⟨q1, q2⟩, q3, q4, q5, q6⟩ := q; first | omega | exact c33 ⟨q4, q5, q6⟩); unfold aMeet rMeet; rw [if_neg hno, if_neg hno]; exact ⟨hx, rfl⟩⟩
  · refine kw_aload_n hC dX7_meet_11 rfl 0 rfl ?_
    refine kg_0_0 hC w7 f12 dX7_meet_12 rfl (by decide) (by decide) ?_
    refine kw_iload_n hC dX7_meet_15 rfl 2 rfl ?_
    refine kw_callV hC (d_X3_has hD (by omega) (by omega) (by omega) (by omega) (by omega)) gX7_meet_X3_has ⟨_, rfl⟩ rfl (by omega) (show (16 : Int) < 17 by omega) rfl ⟨rfl, rfl⟩ 1 (by decide +kernel) ⟨by decide, by decide⟩ rfl rfl (Nat.le_of_ble_eq_true rfl) dX7_meet_16 rfl (kd_ie ?_)
    refine kw_ifeq_b (tgt := 36) hC dX7_meet_19 rfl (by decide) ⟨fun c19 => ?_, fun c19 => ?_⟩
    · refine kw_iconst hC dX7_meet_36 rfl ?_
      exact hR9.1 rfl _ _ _ _ dX7_meet_37 ⟨_, rfl, hRS, Fr.rfl _ S, (if_neg (by omega)).symm, id, id, fun x hx => by have e := hx.1.1; have hno : ¬ oMeet a b c d x.1.1 := (fun q => by obtain ⟨⟨q1, q2⟩, q3, q4, q5, q6⟩ := q; first | omega | exact c33 ⟨q4, q5, q6⟩); unfold aMeet rMeet; rw [if_neg hno, if_neg hno]; exact ⟨hx, rfl⟩⟩
    · refine kw_iload_n hC dX7_meet_22 rfl 1 rfl ?_
      refine kw_iload_n hC dX7_meet_23 rfl 2 rfl ?_
      refine kw_icmp_eq (tgt := 36) hC dX7_meet_24 rfl (by decide) (by omega) (by omega) ⟨fun c24 => ?_, fun c24 => ?_⟩
      · refine kw_iconst hC dX7_meet_36 rfl ?_
        exact hR9.1 rfl _ _ _ _ dX7_meet_37 ⟨_, rfl, hRS, Fr.rfl _ S, (if_neg (by omega)).symm, id, id, fun x hx => by have e := hx.1.1; have hno : ¬ oMeet a b c d x.1.1 := (fun q => by obtain ⟨⟨q1, q2⟩, q3, q4, q5, q6⟩ := q; first | omega | exact c33 ⟨q4, q5, q6⟩); unfold aMeet rMeet; rw [if_neg hno, if_neg hno]; exact ⟨hx, rfl⟩⟩
      · refine kw_iload_n hC dX7_meet_27 rfl 3 rfl ?_
        refine kw_iload hC dX7_meet_28 rfl 4 rfl ?_
        refine kw_callS hC (d_X7_areMeetingNumbers hD (by omega) (by omega)) gX7_meet_X7_areMeetingNumbers rfl ⟨rfl, rfl⟩ 2 (by decide +kernel) ⟨by decide, by decide⟩ rfl rfl (Nat.le_of_ble_eq_true rfl) dX7_meet_30 rfl (kd_ie ?_)
        refine kw_ifne_b (tgt := 38) hC dX7_meet_33 rfl (by decide) ⟨fun c33 => ?_, fun c33 => ?_⟩
        · refine kw_aload_n hC dX7_meet_38 rfl 0 rfl ?_
          refine kg_0_1 hC w7 f19 dX7_meet_39 rfl (by decide) (by decide) ?_
          refine kw_aload_n hC dX7_meet_42 rfl 0 rfl ?_
          refine kg_0_0 hC w7 f12 dX7_meet_43 rfl (by decide) (by decide) ?_
          refine kw_callV hC (d_X1_keep hD hRS) gX7_meet_X1_keep ⟨_, rfl⟩ rfl (by decide) (by decide) rfl ⟨rfl, rfl⟩ 1 (by decide +kernel) ⟨by decide, by decide⟩ rfl rfl (Nat.le_of_ble_eq_true rfl) dX7_meet_46 rfl (kd_v (fun S5 hp5 => ?_))
          obtain ⟨hg5, hp5⟩ := hp5
          have hfS5 : Fr tY S S5 := hfS.trans (hg5.mono (fun k i j h => by unfold fH at h; unfold tY; omega))
          have hK := hp5
          have hgK := hg5
          have k0 : S5 3 16 2 = S 3 16 2 := hg5 3 16 2 (by unfold fH; omega)
          have k4 : ∀ j, S5 4 16 j = S 4 16 j := fun j => hg5 4 16 j (by unfold fH; omega)
          have k5 : ∀ j, S5 5 16 j = S 5 16 j := fun j => hg5 5 16 j (by unfold fH; omega)
          refine kw_aload_n hC dX7_meet_49 rfl 0 rfl ?_
          refine kg_0_0 hC w7 f12 dX7_meet_50 rfl (by decide) (by decide) ?_
          refine kw_iload_n hC dX7_meet_53 rfl 1 rfl ?_
          refine kw_iload_n hC dX7_meet_54 rfl 2 rfl ?_
          refine kw_iload_n hC dX7_meet_55 rfl 3 rfl ?_
          refine kw_iload hC dX7_meet_56 rfl 4 rfl ?_
          refine kw_callV hC (d_X3_setNumbers hD (by omega) (by omega) (by omega) (by omega) (by omega) (by omega)) gX7_meet_X3_setNumbers ⟨_, rfl⟩ rfl (by omega) (show (16 : Int) < 17 by omega) rfl ⟨rfl, rfl⟩ 4 (by decide +kernel) ⟨by decide, by decide⟩ rfl rfl (Nat.le_of_ble_eq_true rfl) dX7_meet_58 rfl (kd_v (fun S6 hp6 => ?_))
          obtain ⟨hg6, hp6⟩ := hp6
          have hfS6 : Fr tY S S6 := hfS5.trans (hg6.mono (fun k i j h => by unfold fT3 at h; unfold tY; omega))
          obtain ⟨y1, y2, y3, y4, y5⟩ := hp6
          have hgM := hg6
          refine kw_aload_n hC dX7_meet_61 rfl 0 rfl ?_
          refine kw_callV hC (d_X7_startAnew hD ) gX7_meet_X7_startAnew ⟨_, rfl⟩ rfl (by decide) (by decide) rfl ⟨rfl, rfl⟩ 0 (by decide +kernel) ⟨by decide, by decide⟩ rfl rfl (Nat.le_of_ble_eq_true rfl) dX7_meet_62 rfl (kd_v (fun S7 hp7 => ?_))
          obtain ⟨hg7, hp7⟩ := hp7
          have hfS7 : Fr tY S S7 := hfS6.trans (hg7.mono (fun k i j h => by unfold fN at h; unfold tY; omega))
          obtain ⟨hw1, h12, h16⟩ := hp7
          have z3 : ∀ c j, S7 3 c j = S6 3 c j := fun c j => hg7 3 c j (by unfold fN; omega)
          have z4 : ∀ c j, S7 4 c j = S6 4 c j := fun c j => hg7 4 c j (by unfold fN; omega)
          have z5 : ∀ c j, S7 5 c j = S6 5 c j := fun c j => hg7 5 c j (by unfold fN; omega)
          have z8 : ∀ j, S7 8 0 j = S6 8 0 j := fun j => hg7 8 0 j (by unfold fN; omega)
          have n3 : S7 3 16 2 = S 3 16 2 := by rw [z3, y4, k0]
          have n4 : ∀ j, S7 4 16 j = S 4 16 j := fun j => by rw [z4, y5, k4]
          have m1 : S7 5 16 (6 * a + b) = c := by rw [z5]; exact y2 (Or.inl c24)
          have m2 : S7 5 16 (6 * b + a) = d := by rw [z5]; exact y1
          have m3 : ∀ p, p ≠ 6 * a + b → p ≠ 6 * b + a → S7 5 16 p = S 5 16 p := fun p q1 q2 => by rw [z5, y3 p q1 q2, k5]
          have hK9 : KpC S S7 := hK.tr hRS.hs.1 (fun c hc => by rw [z3]; exact hgM 3 c 2 (by unfold fT3; omega)) (fun c j hc => by rw [z4]; exact hgM 4 c j (by unfold fT3; omega)) (fun c j hc => by rw [z5]; exact hgM 5 c j (by unfold fT3; omega)) (fun j => by rw [z8]; exact hgM 8 0 j (by unfold fT3; omega))
          have hi8 : CI S7 := hK9.ci hRS ⟨by rw [n3]; exact hRS.set.meet (by omega) (by omega) c24 c33.1 c33.2.1 c33.2.2 n4 m1 m2 m3, fun i j i0 i1 j0 j1 hh => by rw [n3] at hh; rw [m3 _ (by omega) (by omega)]; exact hRS.zb i j i0 i1 j0 j1 hh⟩ hfS7 hw1 h12 h16
          refine kw_aload_n hC dX7_meet_65 rfl 0 rfl ?_
          refine kg_0_0 hC w7 f12 dX7_meet_66 rfl (by decide) (by decide) ?_
          refine kw_iload_n hC dX7_meet_69 rfl 1 rfl ?_
          refine kw_iload_n hC dX7_meet_70 rfl 2 rfl ?_
          refine kw_callV hC (d_X3_meetsAt hD (by omega) (by omega) (by omega) (by omega) hi8) gX7_meet_X3_meetsAt ⟨_, rfl⟩ rfl (by omega) (show (16 : Int) < 17 by omega) rfl ⟨rfl, rfl⟩ 2 (by decide +kernel) ⟨by decide, by decide⟩ rfl rfl (Nat.le_of_ble_eq_true rfl) dX7_meet_71 rfl (kd_ie ?_)
          exact hR9.1 rfl _ _ _ _ dX7_meet_74 ⟨_, rfl, hi8, hfS7, (cSl_e hw1).trans (if_pos (by first | omega | exact (mAt_r _ _ _ _).1)).symm, fun _ => FLF.new h16.1 h16.2 hi8.fl.2.2.1, fun _ => RLX.new h12.1 h12.2 hi8.rl.2.2.1, fun x hx => by have e := hx.1.1; have hyes : oMeet a b c d x.1.1 := ⟨⟨by omega, by omega⟩, c24, c33.1, c33.2.1, c33.2.2⟩; unfold aMeet rMeet; rw [if_pos hyes, if_pos hyes, m1, m2]; exact ⟨hK9.ac hRS hx (by rw [n3]; exact hx.1.meet hn.2 (by omega) (by omega) c24 n4 m1 m2 m3), rfl⟩⟩
        · refine kw_iconst hC dX7_meet_36 rfl ?_
          exact hR9.1 rfl _ _ _ _ dX7_meet_37 ⟨_, rfl, hRS, Fr.rfl _ S, (if_neg (by omega)).symm, id, id, fun x hx => by have e := hx.1.1; have hno : ¬ oMeet a b c d x.1.1 := (fun q => by obtain ⟨⟨q1, q2⟩, q3, q4, q5, q6⟩ := q; first | omega | exact c33 ⟨q4, q5, q6⟩); unfold aMeet rMeet; rw [if_neg hno, if_neg hno]; exact ⟨hx, rfl⟩⟩
end
section
set_option maxHeartbeats 4000000 in
set_option maxRecDepth 100000 in
theorem f_X7_wall {g : wG} (hD : wD g) {S : wSt} {a b c d : Int} (ha : -2147483648 ≤ a ∧ a ≤ 2147483647) (hb : -2147483648 ≤ b ∧ b ≤ 2147483647) (hc : -2147483648 ≤ c ∧ c ≤ 2147483647) (hd : -2147483648 ≤ d ∧ d ≤ 2147483647) (hRS : CI S) (l : Launch) : Kt l yX7_wall wsX7_wall ({ frames := 6, cells := 0, slots := 0, locals := 143 } : Room) g S [vr g 0 0, vi a, vi b, vi c, vi d] (pL (fun _ S' => CI S' ∧ Fr tC S S')) := by
  refine Kt.of (cc := cX7_wall) (nL := 5) (ret := (some .long)) (own := RX7) rfl hD (by decide) rfl (Nat.le_of_ble_eq_true rfl) ⟨rfl, rfl⟩ ?_
  intro E hC hR9
  have f12 : Cond.fieldLink RX7 12 "MirrorBench" "set" "LMirrorBench$Mirrors;" ∈ wsX7_wall := by decide +kernel
  have f25 : Cond.fieldLink RX7 25 "MirrorBench" "slots" "[LMirrorBench$Word;" ∈ wsX7_wall := by decide +kernel
  have f40 : Cond.fieldLink RX7 40 "MirrorBench" "shortener" "LMirrorBench$Shortener;" ∈ wsX7_wall := by decide +kernel
  have f59 : Cond.fieldLink RX7 59 "MirrorBench" "made" "LMirrorBench$Word;" ∈ wsX7_wall := by decide +kernel
  have f66 : Cond.fieldLink RX7 66 "MirrorBench" "joined" "LMirrorBench$Word;" ∈ wsX7_wall := by decide +kernel
  have f69 : Cond.fieldLink RX7 69 "MirrorBench" "spare" "[J" ∈ wsX7_wall := by decide +kernel
  have f131 : Cond.fieldLink RX7 131 "MirrorBench$Word" "length" "I" ∈ wsX7_wall := by decide +kernel
  have f157 : Cond.fieldLink RX7 157 "MirrorBench$Word" "mirrors" "[I" ∈ wsX7_wall := by decide +kernel
  have l196 : Cond.constantLong RX7 196 (Int64.ofInt (-10000000000001)) ∈ wsX7_wall := by decide +kernel
  have l206 : Cond.constantLong RX7 206 (Int64.ofInt (-10000000000004)) ∈ wsX7_wall := by decide +kernel
  have w6 : ∀ w ∈ wsX60, w ∈ wsX7_wall := by decide +kernel
  have w7 : ∀ w ∈ wsX70, w ∈ wsX7_wall := by decide +kernel
  show Wk E g 5 S 0 [(0, vr g 0 0), (1, vi a), (2, vi b), (3, vi c), (4, vi d)] []
  have hfS : Fr tC S S := Fr.rfl _ S
  have hRS := hRS.fr hfS
  have hnS := hRS.n
  have enS : S 3 16 2 = S 3 16 2 := hfS 3 16 2 (by unfold tC; omega)
  refine kw_iload_n hC dX7_wall_0 rfl 1 rfl ?_
  refine kw_callS hC (d_X7_isSlot hD (by omega)) gX7_wall_X7_isSlot rfl ⟨rfl, rfl⟩ 1 (by decide +kernel) ⟨by decide, by decide⟩ rfl rfl (Nat.le_of_ble_eq_true rfl) dX7_wall_1 rfl (kd_ie ?_)
  refine kw_ifeq_b (tgt := 39) hC dX7_wall_4 rfl (by decide) ⟨fun c4 => ?_, fun c4 => ?_⟩
  · refine kw_ldc2 (z := -10000000000001) hC dX7_wall_39 rfl l196 ?_
    exact hR9.2.2.1 rfl _ _ _ _ dX7_wall_42 ⟨_, rfl, hRS, hfS⟩
  · refine kw_iload_n hC dX7_wall_7 rfl 2 rfl ?_
    refine kw_callS hC (d_X7_isSlot hD (by omega)) gX7_wall_X7_isSlot rfl ⟨rfl, rfl⟩ 1 (by decide +kernel) ⟨by decide, by decide⟩ rfl rfl (Nat.le_of_ble_eq_true rfl) dX7_wall_8 rfl (kd_ie ?_)
    refine kw_ifeq_b (tgt := 39) hC dX7_wall_11 rfl (by decide) ⟨fun c11 => ?_, fun c11 => ?_⟩
    · refine kw_ldc2 (z := -10000000000001) hC dX7_wall_39 rfl l196 ?_
      exact hR9.2.2.1 rfl _ _ _ _ dX7_wall_42 ⟨_, rfl, hRS, hfS⟩
    · refine kw_iload_n hC dX7_wall_14 rfl 3 rfl ?_
      refine kw_if_lt (tgt := 39) hC dX7_wall_15 rfl (by decide) (by omega) ⟨fun c15 => ?_, fun c15 => ?_⟩
      · refine kw_ldc2 (z := -10000000000001) hC dX7_wall_39 rfl l196 ?_
        exact hR9.2.2.1 rfl _ _ _ _ dX7_wall_42 ⟨_, rfl, hRS, hfS⟩
      · refine kw_aload_n hC dX7_wall_18 rfl 0 rfl ?_
        refine kg_0_0 hC w7 f12 dX7_wall_19 rfl (by decide) (by decide) ?_
        refine kw_iload hC dX7_wall_22 rfl 4 rfl ?_
        refine kw_callV hC (d_X3_has hD (by omega) (by omega) (by omega) (by omega) (by omega)) gX7_wall_X3_has ⟨_, rfl⟩ rfl (by omega) (show (16 : Int) < 17 by omega) rfl ⟨rfl, rfl⟩ 1 (by decide +kernel) ⟨by decide, by decide⟩ rfl rfl (Nat.le_of_ble_eq_true rfl) dX7_wall_24 rfl (kd_ie ?_)
        refine kw_ifeq_b (tgt := 39) hC dX7_wall_27 rfl (by decide) ⟨fun c27 => ?_, fun c27 => ?_⟩
        · refine kw_ldc2 (z := -10000000000001) hC dX7_wall_39 rfl l196 ?_
          exact hR9.2.2.1 rfl _ _ _ _ dX7_wall_42 ⟨_, rfl, hRS, hfS⟩
        · refine kw_aload_n hC dX7_wall_30 rfl 0 rfl ?_
          refine kw_iload_n hC dX7_wall_31 rfl 1 rfl ?_
          refine kw_iload_n hC dX7_wall_32 rfl 2 rfl ?_
          refine kw_callV hC (d_X7_joinWay hD (by omega) (by omega) (by omega) (by omega) hRS) gX7_wall_X7_joinWay ⟨_, rfl⟩ rfl (by decide) (by decide) rfl ⟨rfl, rfl⟩ 2 (by decide +kernel) ⟨by decide, by decide⟩ rfl rfl (Nat.le_of_ble_eq_true rfl) dX7_wall_33 rfl (kd_i (fun r5 S5 hp5 => ?_))
          obtain ⟨hg5, hp5⟩ := hp5
          have hfS5 : Fr tC S S5 := hfS.trans (hg5.mono (fun k i j h => by unfold fWd at h; unfold tC; omega))
          have hRS5 := hRS.fr hfS5
          have hnS5 := hRS5.n
          have enS5 : S5 3 16 2 = S 3 16 2 := hfS5 3 16 2 (by unfold tC; omega)
          obtain ⟨hbJ, hqJ⟩ := hp5
          refine kw_if_ne (tgt := 43) hC dX7_wall_36 rfl (by decide) (by omega) ⟨fun c36 => ?_, fun c36 => ?_⟩
          · obtain ⟨⟨lJ0, lJ1⟩, hvJ⟩ := hqJ (by omega)
            replace hvJ : WV (S5 2 10) (S5 1 10 1) (S5 3 16 2) := hvJ.eq (fun _ _ _ => rfl) rfl (by omega)
            have hla := hRS.ln a (by omega) (by omega)
            have hwa := hRS.wv a (by omega) (by omega)
            refine kw_aload_n hC dX7_wall_43 rfl 0 rfl ?_
            refine kg_0_4 hC w7 f40 dX7_wall_44 rfl (by decide) (by decide) ?_
            refine kw_aload_n hC dX7_wall_47 rfl 0 rfl ?_
            refine kg_0_9 hC w7 f66 dX7_wall_48 rfl (by decide) (by decide) ?_
            refine kw_aload_n hC dX7_wall_51 rfl 0 rfl ?_
            refine kg_0_7 hC w7 f59 dX7_wall_52 rfl (by decide) (by decide) ?_
            refine kw_callV hC (d_X5_makeForm hD (by omega) (by omega) (by omega) (by omega) hRS5 hvJ (by omega) (by omega)) gX7_wall_X5_makeForm ⟨_, rfl⟩ rfl (by decide) (by decide) rfl ⟨rfl, rfl⟩ 2 (by decide +kernel) ⟨by decide, by decide⟩ rfl rfl (Nat.le_of_ble_eq_true rfl) dX7_wall_55 rfl (kd_i (fun r7 S7 hp7 => ?_))
            obtain ⟨hg7, hp7⟩ := hp7
            have hfS7 : Fr tC S S7 := hfS5.trans (hg7.mono (fun k i j h => by unfold fMd at h; unfold tC; omega))
            have hRS7 := hRS.fr hfS7
            have hnS7 := hRS7.n
            have enS7 : S7 3 16 2 = S 3 16 2 := hfS7 3 16 2 (by unfold tC; omega)
            obtain ⟨hb7, hq7⟩ := hp7
            have hqX := hq7
            refine kw_if_ne (tgt := 65) hC dX7_wall_58 rfl (by decide) (by omega) ⟨fun c58 => ?_, fun c58 => ?_⟩
            · obtain ⟨⟨lX0, lX1⟩, hqW⟩ := hqX (by omega)
              have hv8 : WV (S7 2 8) (S7 1 8 1) (S7 3 16 2) := hqW.eq (fun _ _ _ => rfl) rfl (by omega)
              refine kw_iload_n hC dX7_wall_65 rfl 3 rfl ?_
              refine kw_aload_n hC dX7_wall_66 rfl 0 rfl ?_
              refine kg_0_7 hC w7 f59 dX7_wall_67 rfl (by decide) (by decide) ?_
              refine kg_1_1 hC w6 f131 dX7_wall_70 rfl (by omega) (by omega) ?_
              refine kw_icmp_lt (tgt := 80) hC dX7_wall_73 rfl (by decide) (by omega) (by omega) ⟨fun c73 => ?_, fun c73 => ?_⟩
              · refine kw_aload_n hC dX7_wall_80 rfl 0 rfl ?_
                refine kg_0_10 hC w7 f69 dX7_wall_81 rfl (by decide) (by decide) ?_
                refine kw_aload_n hC dX7_wall_84 rfl 0 rfl ?_
                refine kg_0_7 hC w7 f59 dX7_wall_85 rfl (by decide) (by decide) ?_
                refine kg_1_0 hC w6 f157 dX7_wall_88 rfl (by omega) (by omega) ?_
                refine kw_iload_n hC dX7_wall_91 rfl 3 rfl ?_
                refine ka_2 hC dX7_wall_92 rfl (by omega) (by omega) (by omega) (by omega) ?_
                have hlx := hv8 c (by omega) (by omega)
                refine kw_callS hC (d_X7_setOwn hD (c := 22) (w := 0) (fun _ => rfl) (by decide) (by decide) (by omega) (by omega)) gX7_wall_X7_setOwn rfl ⟨rfl, rfl⟩ 2 (by decide +kernel) ⟨by decide, by decide⟩ rfl rfl (Nat.le_of_ble_eq_true rfl) dX7_wall_93 rfl (kd_v (fun S10 hp10 => ?_))
                obtain ⟨hg10, hp10⟩ := hp10
                have hfS10 : Fr tC S S10 := hfS7.trans (hg10.mono (fun k i j h => by unfold fCl at h; unfold tC; omega))
                have hRS10 := hRS.fr hfS10
                have hnS10 := hRS10.n
                have enS10 : S10 3 16 2 = S 3 16 2 := hfS10 3 16 2 (by unfold tC; omega)
                replace hv8 : WV (S10 2 8) (S10 1 8 1) (S10 3 16 2) := hv8.fr hg10 (by unfold fCl; omega) (fun j => by unfold fCl; omega) (by omega)
                have e810 : S10 1 8 1 = S7 1 8 1 := hg10 1 8 1 (by unfold fCl; omega)
                have hvc : WV (S10 2 8) c (S10 3 16 2) := fun j j0 j1 => hv8 j j0 (by omega)
                refine kw_aload_n hC dX7_wall_96 rfl 0 rfl ?_
                refine kg_0_0 hC w7 f12 dX7_wall_97 rfl (by decide) (by decide) ?_
                refine kw_aload_n hC dX7_wall_100 rfl 0 rfl ?_
                refine kg_0_7 hC w7 f59 dX7_wall_101 rfl (by decide) (by decide) ?_
                refine kw_iload_n hC dX7_wall_104 rfl 3 rfl ?_
                refine kw_aload_n hC dX7_wall_105 rfl 0 rfl ?_
                refine kg_0_10 hC w7 f69 dX7_wall_106 rfl (by decide) (by decide) ?_
                refine kw_callV hC (d_X3_turnBy hD (c := 22) (w := 0) (fun _ => rfl) (by decide) (by decide) (by decide) (fun j => by unfold tC; omega) (by omega) (by omega) (by omega) (by omega) hRS10 hvc) gX7_wall_X3_turnBy ⟨_, rfl⟩ rfl (by omega) (show (16 : Int) < 17 by omega) rfl ⟨rfl, rfl⟩ 3 (by decide +kernel) ⟨by decide, by decide⟩ rfl rfl (Nat.le_of_ble_eq_true rfl) dX7_wall_109 rfl (kd_i (fun r11 S11 hp11 => ?_))
                obtain ⟨hg11, hp11⟩ := hp11
                have hfS11 : Fr tC S S11 := hfS10.trans (hg11.mono (fun k i j h => by unfold fCl at h; unfold tC; omega))
                have hRS11 := hRS.fr hfS11
                have hnS11 := hRS11.n
                have enS11 : S11 3 16 2 = S 3 16 2 := hfS11 3 16 2 (by unfold tC; omega)
                obtain ⟨-, hb11⟩ := (⟨trivial, hp11⟩ : True ∧ _)
                refine kw_if_eq (tgt := 144) hC dX7_wall_112 rfl (by decide) (by omega) ⟨fun c112 => ?_, fun c112 => ?_⟩
                · refine kw_ldc2 (z := -10000000000004) hC dX7_wall_144 rfl l206 ?_
                  exact hR9.2.2.1 rfl _ _ _ _ dX7_wall_147 ⟨_, rfl, hRS11, hfS11⟩
                · refine kw_aload_n hC dX7_wall_115 rfl 0 rfl ?_
                  refine kg_0_0 hC w7 f12 dX7_wall_116 rfl (by decide) (by decide) ?_
                  refine kw_aload_n hC dX7_wall_119 rfl 0 rfl ?_
                  refine kg_0_2 hC w7 f25 dX7_wall_120 rfl (by decide) (by decide) ?_
                  refine kw_iload_n hC dX7_wall_123 rfl 1 rfl ?_
                  refine ka_20 hC dX7_wall_124 rfl (by decide) (by decide) (by omega) (by omega) ?_
                  refine kw_aload_n hC dX7_wall_125 rfl 0 rfl ?_
                  refine kg_0_2 hC w7 f25 dX7_wall_126 rfl (by decide) (by decide) ?_
                  refine kw_iload_n hC dX7_wall_129 rfl 1 rfl ?_
                  refine ka_20 hC dX7_wall_130 rfl (by decide) (by decide) (by omega) (by omega) ?_
                  refine kg_1_1 hC w6 f131 dX7_wall_131 rfl (by omega) (by omega) ?_
                  refine kw_chi (z' := S 1 a 1) (hfS11 1 a 1 (by unfold tC; omega)) ?_
                  have hws : WV (S11 2 a) (S 1 a 1) (S11 3 16 2) := hwa.eq (fun j _ _ => hfS11 2 a j (by unfold tC; omega)) rfl (by omega)
                  refine kw_aload_n hC dX7_wall_134 rfl 0 rfl ?_
                  refine kg_0_10 hC w7 f69 dX7_wall_135 rfl (by decide) (by decide) ?_
                  refine kw_callV hC (d_X3_turnBy hD (c := 22) (w := 0) (fun _ => rfl) (by decide) (by decide) (by decide) (fun j => by unfold tC; omega) (by omega) (by omega) (by omega) (by omega) hRS11 hws) gX7_wall_X3_turnBy ⟨_, rfl⟩ rfl (by omega) (show (16 : Int) < 17 by omega) rfl ⟨rfl, rfl⟩ 3 (by decide +kernel) ⟨by decide, by decide⟩ rfl rfl (Nat.le_of_ble_eq_true rfl) dX7_wall_138 rfl (kd_i (fun r13 S13 hp13 => ?_))
                  obtain ⟨hg13, hp13⟩ := hp13
                  have hfS13 : Fr tC S S13 := hfS11.trans (hg13.mono (fun k i j h => by unfold fCl at h; unfold tC; omega))
                  have hRS13 := hRS.fr hfS13
                  have hnS13 := hRS13.n
                  have enS13 : S13 3 16 2 = S 3 16 2 := hfS13 3 16 2 (by unfold tC; omega)
                  obtain ⟨-, hb13⟩ := (⟨trivial, hp13⟩ : True ∧ _)
                  refine kw_if_ne (tgt := 148) hC dX7_wall_141 rfl (by decide) (by omega) ⟨fun c141 => ?_, fun c141 => ?_⟩
                  · refine kw_aload_n hC dX7_wall_148 rfl 0 rfl ?_
                    refine kg_0_10 hC w7 f69 dX7_wall_149 rfl (by decide) (by decide) ?_
                    refine kw_callS hC (d_X7_hasBelowZero hD (c := 22) (w := 0) (fun _ => rfl) (by decide) (by decide) ) gX7_wall_X7_hasBelowZero rfl ⟨rfl, rfl⟩ 1 (by decide +kernel) ⟨by decide, by decide⟩ rfl rfl (Nat.le_of_ble_eq_true rfl) dX7_wall_152 rfl (kd_ie ?_)
                    refine kw_ifeq_b (tgt := 169) hC dX7_wall_155 rfl (by decide) ⟨fun c155 => ?_, fun c155 => ?_⟩
                    · refine kw_aload_n hC dX7_wall_169 rfl 0 rfl ?_
                      refine kg_0_10 hC w7 f69 dX7_wall_170 rfl (by decide) (by decide) ?_
                      refine kw_iload hC dX7_wall_173 rfl 4 rfl ?_
                      refine ka_22 hC dX7_wall_175 rfl (by decide) (by decide) (by omega) (by omega) ?_
                      exact hR9.2.2.1 rfl _ _ _ _ dX7_wall_176 ⟨_, rfl, hRS13, hfS13⟩
                    · refine kw_aload_n hC dX7_wall_158 rfl 0 rfl ?_
                      refine kg_0_10 hC w7 f69 dX7_wall_159 rfl (by decide) (by decide) ?_
                      refine kw_iload hC dX7_wall_162 rfl 4 rfl ?_
                      refine ka_22 hC dX7_wall_164 rfl (by decide) (by decide) (by omega) (by omega) ?_
                      refine kw_lneg hC dX7_wall_165 rfl ?_
                      refine kw_goto (tgt := 176) hC dX7_wall_166 rfl (by decide) ?_
                      exact hR9.2.2.1 rfl _ _ _ _ dX7_wall_176 ⟨_, rfl, hRS13, hfS13⟩
                  · refine kw_ldc2 (z := -10000000000004) hC dX7_wall_144 rfl l206 ?_
                    exact hR9.2.2.1 rfl _ _ _ _ dX7_wall_147 ⟨_, rfl, hRS13, hfS13⟩
              · refine kw_ldc2 (z := -10000000000001) hC dX7_wall_76 rfl l196 ?_
                exact hR9.2.2.1 rfl _ _ _ _ dX7_wall_79 ⟨_, rfl, hRS7, hfS7⟩
            · refine kw_ldc2 (z := -10000000000004) hC dX7_wall_61 rfl l206 ?_
              exact hR9.2.2.1 rfl _ _ _ _ dX7_wall_64 ⟨_, rfl, hRS7, hfS7⟩
          · refine kw_ldc2 (z := -10000000000001) hC dX7_wall_39 rfl l196 ?_
            exact hR9.2.2.1 rfl _ _ _ _ dX7_wall_42 ⟨_, rfl, hRS5, hfS5⟩
end
