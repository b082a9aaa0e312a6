def fK13 (k : Nat) (i j : Int) : Prop := k = 13

set_option maxHeartbeats 4000000 in
set_option maxRecDepth 100000 in
theorem d_X4_pack {g : wG} (hD : wD g) {S : wSt} {a b : Int} (a0 : 0 ≤ a) (a1 : a < 64) (b0 : 0 ≤ b) (b1 : b < 6) (l : Launch) : Kt l yX4_pack wsX4_pack ({ frames := 0, cells := 0, slots := 0, locals := 0 } : Room) g S [vi a, vi b] (pL (fun r S' => r = a * 64 ^ (5 - b).toNat ∧ S' = S)) := by
  refine Kt.of (cc := cX4_pack) (nL := 2) (ret := (some .long)) (own := RX4) rfl hD (by decide) rfl (Nat.le_of_ble_eq_true rfl) ⟨rfl, rfl⟩ ?_
  intro E hC hR9
  show Wk E g 2 S 0 [(0, vi a), (1, vi b)] []
  refine kw_iload_n hC dX4_pack_0 rfl 0 rfl ?_
  refine kw_i2l hC dX4_pack_1 rfl (by omega) ?_
  refine kw_bipush hC dX4_pack_2 rfl (by decide) ?_
  refine kw_iconst hC dX4_pack_4 rfl ?_
  refine kw_iload_n hC dX4_pack_5 rfl 1 rfl ?_
  refine kw_isub hC dX4_pack_6 rfl ?_
  refine kw_imul hC dX4_pack_7 rfl ?_
  refine kw_lshlZ hC dX4_pack_8 rfl ?_
  rw [pk6_shl a0 a1 b0 b1]
  exact hR9.2.2.1 rfl _ _ _ _ dX4_pack_9 ⟨_, rfl, rfl, rfl⟩

set_option maxHeartbeats 4000000 in
set_option maxRecDepth 100000 in
theorem d_X4_unpack {g : wG} (hD : wD g) {S : wSt} {k b : Int} (k0 : 0 ≤ k) (k1 : k < 68719476736) (b0 : 0 ≤ b) (b1 : b < 6) (l : Launch) : Kt l yX4_unpack wsX4_unpack ({ frames := 0, cells := 0, slots := 0, locals := 0 } : Room) g S [vl k, vi b] (pI (fun r S' => r = dg k b ∧ S' = S)) := by
  refine Kt.of (cc := cX4_unpack) (nL := 3) (ret := (some .int)) (own := RX4) rfl hD (by decide) rfl (Nat.le_of_ble_eq_true rfl) ⟨rfl, rfl⟩ ?_
  intro E hC hR9
  show Wk E g 3 S 0 [(0, vl k), (2, vi b)] []
  refine kw_lload_n hC dX4_unpack_0 rfl 0 rfl ?_
  refine kw_bipush hC dX4_unpack_1 rfl (by decide) ?_
  refine kw_iconst hC dX4_unpack_3 rfl ?_
  refine kw_iload_n hC dX4_unpack_4 rfl 1 rfl ?_
  refine kw_isub hC dX4_unpack_5 rfl ?_
  refine kw_imul hC dX4_unpack_6 rfl ?_
  refine kw_lshrZ hC dX4_unpack_7 rfl ?_
  refine kw_l2i hC dX4_unpack_8 rfl ?_
  refine kw_bipush hC dX4_unpack_9 rfl (by decide) ?_
  refine kw_iandX hC dX4_unpack_11 rfl ?_
  rw [unp k0 k1 b0 b1]
  exact hR9.1 rfl _ _ _ _ dX4_unpack_12 ⟨_, rfl, rfl, rfl⟩

set_option maxHeartbeats 4000000 in
set_option maxRecDepth 100000 in
theorem d_X4_insert {g : wG} (hD : wD g) {S : wSt} {k f e : Int} (k0 : 0 ≤ k) (k1 : k < 68719476736) (f0 : 0 ≤ f) (f1 : f ≤ e) (e1 : e ≤ 400) (hK : ∀ x, f ≤ x → x < e → 0 ≤ S 13 0 x ∧ S 13 0 x < 68719476736) (l : Launch) : Kt l yX4_insert wsX4_insert ({ frames := 1, cells := 0, slots := 0, locals := 26 } : Room) g S [vr g 12 0, vl k, vi f, vi e] (pI (fun r S' => Fr fK13 S S' ∧ INS (S 13 0) (S' 13 0) f e r k)) := by
  refine Kt.of (cc := cX4_insert) (nL := 6) (ret := (some .int)) (own := RX4) rfl hD (by decide) rfl (Nat.le_of_ble_eq_true rfl) ⟨rfl, rfl⟩ ?_
  intro E hC hR9
  have f11 : Cond.fieldLink RX4 11 "MirrorBench$RootList" "keys" "[J" ∈ wsX4_insert := by decide +kernel
  have w4 : ∀ w ∈ wsX40, w ∈ wsX4_insert := by decide +kernel
  show Wk E g 6 S 0 [(0, vr g 12 0), (1, vl k), (3, vi f), (4, vi e)] []
  have hfS : Fr fK13 S S := Fr.rfl _ S
  refine kw_iload hC dX4_insert_0 rfl 3 rfl ?_
  refine kw_istore (lv' := [(5, _), (0, _), (1, _), (3, _), (4, _)]) hC dX4_insert_2 rfl (by decide) rfl ?_
  have hL4 : ∀ (n4 : Nat) (p : Int), (f ≤ p) → (p ≤ e) → p < (n4 : Int) → Wk E g 6 S 4 [(0, vr g 12 0), (1, vl k), (3, vi f), (4, vi e), (5, vi p)] [] := by
    intro n4
    induction n4 with
    | zero => intro p p0 p1 hm4; exact absurd hm4 (by omega)
    | succ n4 ih4 =>
      intro p p0 p1 hm4
      refine kw_iload hC dX4_insert_4 rfl 4 rfl ?_
      refine kw_iload_n hC dX4_insert_6 rfl 2 rfl ?_
      refine kw_icmp_le (tgt := 30) hC dX4_insert_7 rfl (by decide) (by omega) (by omega) ⟨fun c7 => ?_, fun c7 => ?_⟩
      · refine kw_iload hC dX4_insert_30 rfl 4 rfl ?_
        refine kw_iload_n hC dX4_insert_32 rfl 2 rfl ?_
        refine kw_icmp_le (tgt := 53) hC dX4_insert_33 rfl (by decide) (by omega) (by omega) ⟨fun c33 => ?_, fun c33 => ?_⟩
        · refine kw_iload hC dX4_insert_53 rfl 3 rfl ?_
          refine kw_sipush hC dX4_insert_55 rfl (by decide) ?_
          refine kw_icmp_ne (tgt := 64) hC dX4_insert_58 rfl (by decide) (by omega) (by omega) ⟨fun c58 => ?_, fun c58 => ?_⟩
          · refine kw_aload_n hC dX4_insert_64 rfl 0 rfl ?_
            refine kg_12_1 hC w4 f11 dX4_insert_65 rfl (by decide) (by decide) ?_
            refine kw_iload hC dX4_insert_68 rfl 4 rfl ?_
            refine kw_aload_n hC dX4_insert_70 rfl 0 rfl ?_
            refine kg_12_1 hC w4 f11 dX4_insert_71 rfl (by decide) (by decide) ?_
            refine kw_iload hC dX4_insert_74 rfl 4 rfl ?_
            refine kw_iconst hC dX4_insert_76 rfl ?_
            refine kw_iadd hC dX4_insert_77 rfl ?_
            refine kw_iload hC dX4_insert_78 rfl 3 rfl ?_
            refine kw_iload hC dX4_insert_80 rfl 4 rfl ?_
            refine kw_isub hC dX4_insert_82 rfl ?_
            refine kw_copyl (k0 := 13) (k1 := 13) (n0 := 400) (n1 := 400) hC (by decide +kernel) (by decide +kernel) (by decide +kernel) (by decide +kernel) (by decide) (Nat.le_of_ble_eq_true rfl) (fun _ => rfl) (fun _ => rfl) (by decide) (by decide) (by decide) (by decide) (by decide) (by decide) (by omega) (by omega) (by omega) (by omega) (by omega) dX4_insert_83 rfl ?_
            refine kw_hc hfS (fun j => by unfold fK13; omega) (fun S4 hfS4 hvC hoC => ?_)
            have hvK := hvC
            have hoK := hoC
            refine kw_aload_n hC dX4_insert_86 rfl 0 rfl ?_
            refine kg_12_1 hC w4 f11 dX4_insert_87 rfl (by decide) (by decide) ?_
            refine kw_iload hC dX4_insert_90 rfl 4 rfl ?_
            refine kw_lload_n hC dX4_insert_92 rfl 1 rfl ?_
            refine ks_13 hC dX4_insert_93 rfl (by decide) (by decide) (by omega) (by omega) ?_
            refine kw_hv hfS4 (by unfold fK13; omega) (fun S5 hfS5 hv5 ho5 => ?_)
            refine kw_iload hC dX4_insert_94 rfl 3 rfl ?_
            refine kw_iconst hC dX4_insert_96 rfl ?_
            refine kw_iadd hC dX4_insert_97 rfl ?_
            exact hR9.1 rfl _ _ _ _ dX4_insert_98 ⟨_, rfl, hfS5, fun j hj => by rw [ho5 13 0 j (by omega), hoK 13 0 j (by omega)], Or.inr ⟨Or.inr rfl, by omega, ⟨p, by omega, by omega, hv5⟩, fun x x0 x1 => by rcases Decidable.em (x < p) with q | q; exact ⟨x, x0, by omega, by rw [ho5 13 0 x (by omega), hoK 13 0 x (by omega)]⟩; exact ⟨x + 1, by omega, by omega, by rw [ho5 13 0 _ (by omega), hvK _ (by omega) (by omega), show p + (x + 1 - (p + 1)) = x by omega]⟩, fun y y0 y1 => by rcases Decidable.em (y < p) with q | q; exact Or.inr ⟨y, y0, by omega, by rw [ho5 13 0 y (by omega), hoK 13 0 y (by omega)]⟩; rcases Decidable.em (y = p) with q2 | q2; exact Or.inl (by rw [q2]; exact hv5); exact Or.inr ⟨y - 1, by omega, by omega, by rw [ho5 13 0 y (by omega), hvK y (by omega) (by omega), show p + (y - (p + 1)) = y - 1 by omega]⟩⟩⟩
          · refine kw_bipush hC dX4_insert_61 rfl (by decide) ?_
            exact hR9.1 rfl _ _ _ _ dX4_insert_63 ⟨_, rfl, hfS, fun _ _ => rfl, Or.inl ⟨rfl, by omega⟩⟩
        · refine kw_aload_n hC dX4_insert_36 rfl 0 rfl ?_
          refine kg_12_1 hC w4 f11 dX4_insert_37 rfl (by decide) (by decide) ?_
          refine kw_iload hC dX4_insert_40 rfl 4 rfl ?_
          refine kw_iconst hC dX4_insert_42 rfl ?_
          refine kw_isub hC dX4_insert_43 rfl ?_
          refine ka_13 hC dX4_insert_44 rfl (by decide) (by decide) (by omega) (by omega) ?_
          have hk9 := hK (p - 1) (by omega) (by omega)
          refine kw_lload_n hC dX4_insert_45 rfl 1 rfl ?_
          refine kw_lcmp hC dX4_insert_46 rfl (by omega) (by omega) ?_
          refine kw_if_ne (tgt := 53) hC dX4_insert_47 rfl (by decide) (cz_r _ _) ⟨fun c47 => ?_, fun c47 => ?_⟩
          · replace c47 := (cz_ne _ _).mp c47
            refine kw_iload hC dX4_insert_53 rfl 3 rfl ?_
            refine kw_sipush hC dX4_insert_55 rfl (by decide) ?_
            refine kw_icmp_ne (tgt := 64) hC dX4_insert_58 rfl (by decide) (by omega) (by omega) ⟨fun c58 => ?_, fun c58 => ?_⟩
            · refine kw_aload_n hC dX4_insert_64 rfl 0 rfl ?_
              refine kg_12_1 hC w4 f11 dX4_insert_65 rfl (by decide) (by decide) ?_
              refine kw_iload hC dX4_insert_68 rfl 4 rfl ?_
              refine kw_aload_n hC dX4_insert_70 rfl 0 rfl ?_
              refine kg_12_1 hC w4 f11 dX4_insert_71 rfl (by decide) (by decide) ?_
              refine kw_iload hC dX4_insert_74 rfl 4 rfl ?_
              refine kw_iconst hC dX4_insert_76 rfl ?_
              refine kw_iadd hC dX4_insert_77 rfl ?_
              refine kw_iload hC dX4_insert_78 rfl 3 rfl ?_
              refine kw_iload hC dX4_insert_80 rfl 4 rfl ?_
              refine kw_isub hC dX4_insert_82 rfl ?_
              refine kw_copyl (k0 := 13) (k1 := 13) (n0 := 400) (n1 := 400) hC (by decide +kernel) (by decide +kernel) (by decide +kernel) (by decide +kernel) (by decide) (Nat.le_of_ble_eq_true rfl) (fun _ => rfl) (fun _ => rfl) (by decide) (by decide) (by decide) (by decide) (by decide) (by decide) (by omega) (by omega) (by omega) (by omega) (by omega) dX4_insert_83 rfl ?_
              refine kw_hc hfS (fun j => by unfold fK13; omega) (fun S8 hfS8 hvC hoC => ?_)
              have hvK := hvC
              have hoK := hoC
              refine kw_aload_n hC dX4_insert_86 rfl 0 rfl ?_
              refine kg_12_1 hC w4 f11 dX4_insert_87 rfl (by decide) (by decide) ?_
              refine kw_iload hC dX4_insert_90 rfl 4 rfl ?_
              refine kw_lload_n hC dX4_insert_92 rfl 1 rfl ?_
              refine ks_13 hC dX4_insert_93 rfl (by decide) (by decide) (by omega) (by omega) ?_
              refine kw_hv hfS8 (by unfold fK13; omega) (fun S9 hfS9 hv9 ho9 => ?_)
              refine kw_iload hC dX4_insert_94 rfl 3 rfl ?_
              refine kw_iconst hC dX4_insert_96 rfl ?_
              refine kw_iadd hC dX4_insert_97 rfl ?_
              exact hR9.1 rfl _ _ _ _ dX4_insert_98 ⟨_, rfl, hfS9, fun j hj => by rw [ho9 13 0 j (by omega), hoK 13 0 j (by omega)], Or.inr ⟨Or.inr rfl, by omega, ⟨p, by omega, by omega, hv9⟩, fun x x0 x1 => by rcases Decidable.em (x < p) with q | q; exact ⟨x, x0, by omega, by rw [ho9 13 0 x (by omega), hoK 13 0 x (by omega)]⟩; exact ⟨x + 1, by omega, by omega, by rw [ho9 13 0 _ (by omega), hvK _ (by omega) (by omega), show p + (x + 1 - (p + 1)) = x by omega]⟩, fun y y0 y1 => by rcases Decidable.em (y < p) with q | q; exact Or.inr ⟨y, y0, by omega, by rw [ho9 13 0 y (by omega), hoK 13 0 y (by omega)]⟩; rcases Decidable.em (y = p) with q2 | q2; exact Or.inl (by rw [q2]; exact hv9); exact Or.inr ⟨y - 1, by omega, by omega, by rw [ho9 13 0 y (by omega), hvK y (by omega) (by omega), show p + (y - (p + 1)) = y - 1 by omega]⟩⟩⟩
            · refine kw_bipush hC dX4_insert_61 rfl (by decide) ?_
              exact hR9.1 rfl _ _ _ _ dX4_insert_63 ⟨_, rfl, hfS, fun _ _ => rfl, Or.inl ⟨rfl, by omega⟩⟩
          · replace c47 := (not_congr (cz_ne _ _)).mp c47
            refine kw_iload hC dX4_insert_50 rfl 3 rfl ?_
            exact hR9.1 rfl _ _ _ _ dX4_insert_52 ⟨_, rfl, hfS, fun _ _ => rfl, Or.inr ⟨Or.inl rfl, e1, ⟨p - 1, by omega, by omega, by omega⟩, fun x x0 x1 => ⟨x, x0, x1, rfl⟩, fun y y0 y1 => Or.inr ⟨y, y0, y1, rfl⟩⟩⟩
      · refine kw_aload_n hC dX4_insert_10 rfl 0 rfl ?_
        refine kg_12_1 hC w4 f11 dX4_insert_11 rfl (by decide) (by decide) ?_
        refine kw_iload hC dX4_insert_14 rfl 4 rfl ?_
        refine kw_iconst hC dX4_insert_16 rfl ?_
        refine kw_isub hC dX4_insert_17 rfl ?_
        refine ka_13 hC dX4_insert_18 rfl (by decide) (by decide) (by omega) (by omega) ?_
        have hk9 := hK (p - 1) (by omega) (by omega)
        refine kw_lload_n hC dX4_insert_19 rfl 1 rfl ?_
        refine kw_lcmp hC dX4_insert_20 rfl (by omega) (by omega) ?_
        refine kw_if_ge (tgt := 30) hC dX4_insert_21 rfl (by decide) (cz_r _ _) ⟨fun c21 => ?_, fun c21 => ?_⟩
        · replace c21 := (cz_ge _ _).mp c21
          refine kw_iload hC dX4_insert_30 rfl 4 rfl ?_
          refine kw_iload_n hC dX4_insert_32 rfl 2 rfl ?_
          refine kw_icmp_le (tgt := 53) hC dX4_insert_33 rfl (by decide) (by omega) (by omega) ⟨fun c33 => ?_, fun c33 => ?_⟩
          · refine kw_iload hC dX4_insert_53 rfl 3 rfl ?_
            refine kw_sipush hC dX4_insert_55 rfl (by decide) ?_
            refine kw_icmp_ne (tgt := 64) hC dX4_insert_58 rfl (by decide) (by omega) (by omega) ⟨fun c58 => ?_, fun c58 => ?_⟩
            · refine kw_aload_n hC dX4_insert_64 rfl 0 rfl ?_
              refine kg_12_1 hC w4 f11 dX4_insert_65 rfl (by decide) (by decide) ?_
              refine kw_iload hC dX4_insert_68 rfl 4 rfl ?_
              refine kw_aload_n hC dX4_insert_70 rfl 0 rfl ?_
              refine kg_12_1 hC w4 f11 dX4_insert_71 rfl (by decide) (by decide) ?_
              refine kw_iload hC dX4_insert_74 rfl 4 rfl ?_
              refine kw_iconst hC dX4_insert_76 rfl ?_
              refine kw_iadd hC dX4_insert_77 rfl ?_
              refine kw_iload hC dX4_insert_78 rfl 3 rfl ?_
              refine kw_iload hC dX4_insert_80 rfl 4 rfl ?_
              refine kw_isub hC dX4_insert_82 rfl ?_
              refine kw_copyl (k0 := 13) (k1 := 13) (n0 := 400) (n1 := 400) hC (by decide +kernel) (by decide +kernel) (by decide +kernel) (by decide +kernel) (by decide) (Nat.le_of_ble_eq_true rfl) (fun _ => rfl) (fun _ => rfl) (by decide) (by decide) (by decide) (by decide) (by decide) (by decide) (by omega) (by omega) (by omega) (by omega) (by omega) dX4_insert_83 rfl ?_
              refine kw_hc hfS (fun j => by unfold fK13; omega) (fun S13 hfS13 hvC hoC => ?_)
              have hvK := hvC
              have hoK := hoC
              refine kw_aload_n hC dX4_insert_86 rfl 0 rfl ?_
              refine kg_12_1 hC w4 f11 dX4_insert_87 rfl (by decide) (by decide) ?_
              refine kw_iload hC dX4_insert_90 rfl 4 rfl ?_
              refine kw_lload_n hC dX4_insert_92 rfl 1 rfl ?_
              refine ks_13 hC dX4_insert_93 rfl (by decide) (by decide) (by omega) (by omega) ?_
              refine kw_hv hfS13 (by unfold fK13; omega) (fun S14 hfS14 hv14 ho14 => ?_)
              refine kw_iload hC dX4_insert_94 rfl 3 rfl ?_
              refine kw_iconst hC dX4_insert_96 rfl ?_
              refine kw_iadd hC dX4_insert_97 rfl ?_
              exact hR9.1 rfl _ _ _ _ dX4_insert_98 ⟨_, rfl, hfS14, fun j hj => by rw [ho14 13 0 j (by omega), hoK 13 0 j (by omega)], Or.inr ⟨Or.inr rfl, by omega, ⟨p, by omega, by omega, hv14⟩, fun x x0 x1 => by rcases Decidable.em (x < p) with q | q; exact ⟨x, x0, by omega, by rw [ho14 13 0 x (by omega), hoK 13 0 x (by omega)]⟩; exact ⟨x + 1, by omega, by omega, by rw [ho14 13 0 _ (by omega), hvK _ (by omega) (by omega), show p + (x + 1 - (p + 1)) = x by omega]⟩, fun y y0 y1 => by rcases Decidable.em (y < p) with q | q; exact Or.inr ⟨y, y0, by omega, by rw [ho14 13 0 y (by omega), hoK 13 0 y (by omega)]⟩; rcases Decidable.em (y = p) with q2 | q2; exact Or.inl (by rw [q2]; exact hv14); exact Or.inr ⟨y - 1, by omega, by omega, by rw [ho14 13 0 y (by omega), hvK y (by omega) (by omega), show p + (y - (p + 1)) = y - 1 by omega]⟩⟩⟩
            · refine kw_bipush hC dX4_insert_61 rfl (by decide) ?_
              exact hR9.1 rfl _ _ _ _ dX4_insert_63 ⟨_, rfl, hfS, fun _ _ => rfl, Or.inl ⟨rfl, by omega⟩⟩
          · refine kw_aload_n hC dX4_insert_36 rfl 0 rfl ?_
            refine kg_12_1 hC w4 f11 dX4_insert_37 rfl (by decide) (by decide) ?_
            refine kw_iload hC dX4_insert_40 rfl 4 rfl ?_
            refine kw_iconst hC dX4_insert_42 rfl ?_
            refine kw_isub hC dX4_insert_43 rfl ?_
            refine ka_13 hC dX4_insert_44 rfl (by decide) (by decide) (by omega) (by omega) ?_
            have hk9 := hK (p - 1) (by omega) (by omega)
            refine kw_lload_n hC dX4_insert_45 rfl 1 rfl ?_
            refine kw_lcmp hC dX4_insert_46 rfl (by omega) (by omega) ?_
            refine kw_if_ne (tgt := 53) hC dX4_insert_47 rfl (by decide) (cz_r _ _) ⟨fun c47 => ?_, fun c47 => ?_⟩
            · replace c47 := (cz_ne _ _).mp c47
              refine kw_iload hC dX4_insert_53 rfl 3 rfl ?_
              refine kw_sipush hC dX4_insert_55 rfl (by decide) ?_
              refine kw_icmp_ne (tgt := 64) hC dX4_insert_58 rfl (by decide) (by omega) (by omega) ⟨fun c58 => ?_, fun c58 => ?_⟩
              · refine kw_aload_n hC dX4_insert_64 rfl 0 rfl ?_
                refine kg_12_1 hC w4 f11 dX4_insert_65 rfl (by decide) (by decide) ?_
                refine kw_iload hC dX4_insert_68 rfl 4 rfl ?_
                refine kw_aload_n hC dX4_insert_70 rfl 0 rfl ?_
                refine kg_12_1 hC w4 f11 dX4_insert_71 rfl (by decide) (by decide) ?_
                refine kw_iload hC dX4_insert_74 rfl 4 rfl ?_
                refine kw_iconst hC dX4_insert_76 rfl ?_
                refine kw_iadd hC dX4_insert_77 rfl ?_
                refine kw_iload hC dX4_insert_78 rfl 3 rfl ?_
                refine kw_iload hC dX4_insert_80 rfl 4 rfl ?_
                refine kw_isub hC dX4_insert_82 rfl ?_
                refine kw_copyl (k0 := 13) (k1 := 13) (n0 := 400) (n1 := 400) hC (by decide +kernel) (by decide +kernel) (by decide +kernel) (by decide +kernel) (by decide) (Nat.le_of_ble_eq_true rfl) (fun _ => rfl) (fun _ => rfl) (by decide) (by decide) (by decide) (by decide) (by decide) (by decide) (by omega) (by omega) (by omega) (by omega) (by omega) dX4_insert_83 rfl ?_
                refine kw_hc hfS (fun j => by unfold fK13; omega) (fun S17 hfS17 hvC hoC => ?_)
                have hvK := hvC
                have hoK := hoC
                refine kw_aload_n hC dX4_insert_86 rfl 0 rfl ?_
                refine kg_12_1 hC w4 f11 dX4_insert_87 rfl (by decide) (by decide) ?_
                refine kw_iload hC dX4_insert_90 rfl 4 rfl ?_
                refine kw_lload_n hC dX4_insert_92 rfl 1 rfl ?_
                refine ks_13 hC dX4_insert_93 rfl (by decide) (by decide) (by omega) (by omega) ?_
                refine kw_hv hfS17 (by unfold fK13; omega) (fun S18 hfS18 hv18 ho18 => ?_)
                refine kw_iload hC dX4_insert_94 rfl 3 rfl ?_
                refine kw_iconst hC dX4_insert_96 rfl ?_
                refine kw_iadd hC dX4_insert_97 rfl ?_
                exact hR9.1 rfl _ _ _ _ dX4_insert_98 ⟨_, rfl, hfS18, fun j hj => by rw [ho18 13 0 j (by omega), hoK 13 0 j (by omega)], Or.inr ⟨Or.inr rfl, by omega, ⟨p, by omega, by omega, hv18⟩, fun x x0 x1 => by rcases Decidable.em (x < p) with q | q; exact ⟨x, x0, by omega, by rw [ho18 13 0 x (by omega), hoK 13 0 x (by omega)]⟩; exact ⟨x + 1, by omega, by omega, by rw [ho18 13 0 _ (by omega), hvK _ (by omega) (by omega), show p + (x + 1 - (p + 1)) = x by omega]⟩, fun y y0 y1 => by rcases Decidable.em (y < p) with q | q; exact Or.inr ⟨y, y0, by omega, by rw [ho18 13 0 y (by omega), hoK 13 0 y (by omega)]⟩; rcases Decidable.em (y = p) with q2 | q2; exact Or.inl (by rw [q2]; exact hv18); exact Or.inr ⟨y - 1, by omega, by omega, by rw [ho18 13 0 y (by omega), hvK y (by omega) (by omega), show p + (y - (p + 1)) = y - 1 by omega]⟩⟩⟩
              · refine kw_bipush hC dX4_insert_61 rfl (by decide) ?_
                exact hR9.1 rfl _ _ _ _ dX4_insert_63 ⟨_, rfl, hfS, fun _ _ => rfl, Or.inl ⟨rfl, by omega⟩⟩
            · replace c47 := (not_congr (cz_ne _ _)).mp c47
              refine kw_iload hC dX4_insert_50 rfl 3 rfl ?_
              exact hR9.1 rfl _ _ _ _ dX4_insert_52 ⟨_, rfl, hfS, fun _ _ => rfl, Or.inr ⟨Or.inl rfl, e1, ⟨p - 1, by omega, by omega, by omega⟩, fun x x0 x1 => ⟨x, x0, x1, rfl⟩, fun y y0 y1 => Or.inr ⟨y, y0, y1, rfl⟩⟩⟩
        · replace c21 := (not_congr (cz_ge _ _)).mp c21
          refine kw_iinc (lv' := [(5, _), (0, _), (1, _), (3, _), (4, _)]) hC dX4_insert_24 rfl 4 rfl (by decide) rfl ?_
          refine kw_goto (tgt := 4) hC dX4_insert_27 rfl (by decide) ?_
          refine kw_lv [1, 2, 3, 4, 0] rfl ?_
          exact ih4 (p + -1) (by omega) (by omega) (by omega)
  refine kw_lv [1, 2, 3, 4, 0] rfl ?_
  exact hL4 401 e (by omega) (by omega) (by omega)

theorem upv_r (mt : Int → Int) (n key q i : Int) (hq : 0 ≤ q) : 0 ≤ upv mt n key q i ∧ upv mt n key q i ≤ 63 := by unfold upv; split <;> omega
/-- how much a mirror turns a root up, by the first x mirrors -/
def rsx (mt : Int → Int) (key i x : Int) : Int := -2 * dg key i + sm x.toNat (fun j => mt (6 * i + (j : Int)) * dg key (j : Int))
theorem rsx_s (mt : Int → Int) (key i : Int) {x : Int} (hx : 0 ≤ x) : rsx mt key i (x + 1) = rsx mt key i x + mt (6 * i + x) * dg key x := by
  unfold rsx
  rw [show (x + 1).toNat = x.toNat + 1 by omega, sm, Int.toNat_of_nonneg hx]
  omega
theorem rsx_r {S : wSt} (hR : CI S) {key i x : Int} (i0 : 0 ≤ i) (i1 : i < 6) (x0 : 0 ≤ x) (x1 : x ≤ 6) : -126 ≤ rsx (S 5 16) key i x ∧ rsx (S 5 16) key i x ≤ 1512 := by
  have h : ∀ m : Nat, m ≤ 6 → 0 ≤ sm m (fun j => S 5 16 (6 * i + (j : Int)) * dg key (j : Int)) ∧ sm m (fun j => S 5 16 (6 * i + (j : Int)) * dg key (j : Int)) ≤ 252 * (m : Int) := by
    intro m
    induction m with
    | zero => intro _; simp [sm]
    | succ m ih =>
      intro hm
      have h1 := ih (by omega)
      have h2 := hR.mt i (m : Int) i0 i1 (by omega) (by omega)
      have h3 := dg_r key (m : Int)
      have h4 := Int.mul_nonneg h2.1 h3.1
      have h5 := Int.mul_le_mul h2.2 h3.2 h3.1 (by omega)
      simp only [sm]
      omega
  have h1 := h x.toNat (by omega)
  have h2 := dg_r key i
  unfold rsx
  omega

set_option maxHeartbeats 4000000 in
set_option maxRecDepth 100000 in
theorem d_X4_findUps {g : wG} (hD : wD g) {S : wSt} {k q : Int} (hRS : CI S) (k0 : 0 ≤ k) (k1 : k < 68719476736) (q0 : 0 ≤ q) (q1 : q ≤ 40) (l : Launch) : Kt l yX4_findUps wsX4_findUps ({ frames := 1, cells := 0, slots := 0, locals := 26 } : Room) g S [vr g 12 0, vl k, vi q] (pL (fun r S' => (0 ≤ r ∧ r < 68719476736) ∧ (∀ i, 0 ≤ i → i < S 3 16 2 → dg r i = upv (S 5 16) (S 3 16 2) k q i) ∧ S' = S)) := by
  refine Kt.of (cc := cX4_findUps) (nL := 9) (ret := (some .long)) (own := RX4) rfl hD (by decide) rfl (Nat.le_of_ble_eq_true rfl) ⟨rfl, rfl⟩ ?_
  intro E hC hR9
  have f22 : Cond.fieldLink RX4 22 "MirrorBench$RootList" "set" "LMirrorBench$Mirrors;" ∈ wsX4_findUps := by decide +kernel
  have f46 : Cond.fieldLink RX4 46 "MirrorBench$Mirrors" "size" "I" ∈ wsX4_findUps := by decide +kernel
  have w3 : ∀ w ∈ wsX30, w ∈ wsX4_findUps := by decide +kernel
  have w4 : ∀ w ∈ wsX40, w ∈ wsX4_findUps := by decide +kernel
  show Wk E g 9 S 0 [(0, vr g 12 0), (1, vl k), (3, vi q)] []
  have hn := hRS.n
  refine kw_lconst (z := 0) hC dX4_findUps_0 rfl rfl ?_
  refine kw_lstore (lv' := [(4, _), (0, _), (1, _), (3, _)]) hC dX4_findUps_1 rfl (by decide) rfl ?_
  refine kw_iconst hC dX4_findUps_3 rfl ?_
  refine kw_istore (lv' := [(6, _), (4, _), (0, _), (1, _), (3, _)]) hC dX4_findUps_4 rfl (by decide) rfl ?_
  have hL6 : ∀ (n6 : Nat) (i : Int) (u : Int), (0 ≤ i) → (i ≤ S 3 16 2) → (0 ≤ u) → (u < 68719476736) → (∀ b, 0 ≤ b → b < 6 → dg u b = if b < i then upv (S 5 16) (S 3 16 2) k q b else 0) → S 3 16 2 - i < (n6 : Int) → Wk E g 9 S 6 [(0, vr g 12 0), (1, vl k), (3, vi q), (4, vl u), (6, vi i)] [] := by
    intro n6
    induction n6 with
    | zero => intro i u i0 i1 u0 u1 hu hm6; exact absurd hm6 (by omega)
    | succ n6 ih6 =>
      intro i u i0 i1 u0 u1 hu hm6
      refine kw_iload hC dX4_findUps_6 rfl 4 rfl ?_
      refine kw_aload_n hC dX4_findUps_8 rfl 0 rfl ?_
      refine kg_12_0 hC w4 f22 dX4_findUps_9 rfl (by decide) (by decide) ?_
      refine kg_3_2 hC w3 f46 dX4_findUps_12 rfl (by omega) (by omega) ?_
      refine kw_icmp_ge (tgt := 103) hC dX4_findUps_15 rfl (by decide) (by omega) (by omega) ⟨fun c15 => ?_, fun c15 => ?_⟩
      · refine kw_lload hC dX4_findUps_103 rfl 3 rfl ?_
        exact hR9.2.2.1 rfl _ _ _ _ dX4_findUps_105 ⟨_, rfl, ⟨u0, u1⟩, fun b b0 b1 => by rw [hu b b0 (by omega), if_pos (by omega)], rfl⟩
      · refine kw_bipush hC dX4_findUps_18 rfl (by decide) ?_
        refine kw_lload_n hC dX4_findUps_20 rfl 1 rfl ?_
        refine kw_iload hC dX4_findUps_21 rfl 4 rfl ?_
        refine kw_callS hC (d_X4_unpack hD (by omega) (by omega) (by omega) (by omega)) gX4_findUps_X4_unpack rfl ⟨rfl, rfl⟩ 2 (by decide +kernel) ⟨by decide, by decide⟩ rfl rfl (Nat.le_of_ble_eq_true rfl) dX4_findUps_23 rfl (kd_ie ?_)
        refine kw_imul hC dX4_findUps_26 rfl ?_
        refine kw_chi (z' := rsx (S 5 16) k i 0) (by unfold rsx; simp [sm]) ?_
        refine kw_istore (lv' := [(7, _), (0, _), (1, _), (3, _), (4, _), (6, _)]) hC dX4_findUps_27 rfl (by decide) rfl ?_
        refine kw_iconst hC dX4_findUps_29 rfl ?_
        refine kw_istore (lv' := [(8, _), (7, _), (0, _), (1, _), (3, _), (4, _), (6, _)]) hC dX4_findUps_30 rfl (by decide) rfl ?_
        have hL32 : ∀ (n32 : Nat) (j : Int), (0 ≤ j) → (j ≤ S 3 16 2) → S 3 16 2 - j < (n32 : Int) → Wk E g 9 S 32 [(0, vr g 12 0), (1, vl k), (3, vi q), (4, vl u), (6, vi i), (7, vi (rsx (S 5 16) k i j)), (8, vi j)] [] := by
          intro n32
          induction n32 with
          | zero => intro j j0 j1 hm32; exact absurd hm32 (by omega)
          | succ n32 ih32 =>
            intro j j0 j1 hm32
            refine kw_iload hC dX4_findUps_32 rfl 6 rfl ?_
            refine kw_aload_n hC dX4_findUps_34 rfl 0 rfl ?_
            refine kg_12_0 hC w4 f22 dX4_findUps_35 rfl (by decide) (by decide) ?_
            refine kg_3_2 hC w3 f46 dX4_findUps_38 rfl (by omega) (by omega) ?_
            refine kw_icmp_ge (tgt := 73) hC dX4_findUps_41 rfl (by decide) (by omega) (by omega) ⟨fun c41 => ?_, fun c41 => ?_⟩
            · obtain rfl : j = S 3 16 2 := by omega
              have hrr := rsx_r hRS (key := k) (i := i) (x := S 3 16 2) (by omega) (by omega) (by omega) (by omega)
              have hup : upv (S 5 16) (S 3 16 2) k q i = if 0 < rsx (S 5 16) k i (S 3 16 2) then min (q + rsx (S 5 16) k i (S 3 16 2)) 63 else 0 := rfl
              refine kw_iload hC dX4_findUps_73 rfl 5 rfl ?_
              refine kw_if_le (tgt := 97) hC dX4_findUps_75 rfl (by decide) (by omega) ⟨fun c75 => ?_, fun c75 => ?_⟩
              · have hu8 : ∀ b, 0 ≤ b → b < 6 → dg u b = if b < i + 1 then upv (S 5 16) (S 3 16 2) k q b else 0 := fun b b0 b1 => by rw [hu b b0 b1]; rcases Decidable.em (b = i) with e | e; exact (by rw [e, if_neg (by omega), if_pos (by omega), hup, if_neg (by omega)]); exact (by (repeat' split) <;> first | rfl | omega)
                refine kw_iinc (lv' := [(6, _), (0, _), (1, _), (3, _), (4, _), (7, _), (8, _)]) hC dX4_findUps_97 rfl 4 rfl (by decide) rfl ?_
                refine kw_goto (tgt := 6) hC dX4_findUps_100 rfl (by decide) ?_
                refine kw_lv [1, 2, 3, 4, 0] rfl ?_
                exact ih6 (i + 1) _ (by omega) (by omega) (by first | exact hu9.1 | exact u0) (by first | exact hu9.2 | exact u1) hu8 (by omega)
              · refine kw_lload hC dX4_findUps_78 rfl 3 rfl ?_
                refine kw_iload_n hC dX4_findUps_80 rfl 2 rfl ?_
                refine kw_iload hC dX4_findUps_81 rfl 5 rfl ?_
                refine kw_iadd hC dX4_findUps_83 rfl ?_
                refine kw_bipush hC dX4_findUps_84 rfl (by decide) ?_
                refine kw_min hC (by decide +kernel) (by decide +kernel) (by decide +kernel) (by decide +kernel) (by decide) (Nat.le_of_ble_eq_true rfl) dX4_findUps_86 rfl (by omega) (by omega) ?_
                refine kw_iload hC dX4_findUps_89 rfl 4 rfl ?_
                refine kw_callS hC (d_X4_pack hD (by omega) (by omega) (by omega) (by omega)) gX4_findUps_X4_pack rfl ⟨rfl, rfl⟩ 2 (by decide +kernel) ⟨by decide, by decide⟩ rfl rfl (Nat.le_of_ble_eq_true rfl) dX4_findUps_91 rfl (kd_le ?_)
                refine kw_ladd hC dX4_findUps_94 rfl ?_
                have hd0 : dg u i = 0 := by rw [hu i (by omega) (by omega), if_neg (by omega)]
                have hu9 := dg_top (k := u) (m := min (q + rsx (S 5 16) k i (S 3 16 2)) 63) (c := i) u0 u1 (by omega) i0 (by omega) (by omega)
                have hu8 : ∀ b, 0 ≤ b → b < 6 → dg (u + min (q + rsx (S 5 16) k i (S 3 16 2)) 63 * 64 ^ (5 - i).toNat) b = if b < i + 1 then upv (S 5 16) (S 3 16 2) k q b else 0 := fun b b0 b1 => by rw [dg_add u0 (by omega) i0 (by omega) b0 b1 (by omega), hu b b0 b1]; rcases Decidable.em (b = i) with e | e; exact (by rw [e, if_neg (by omega), if_pos rfl, if_pos (by omega), hup, if_pos (by omega)]; omega); exact (by rw [if_neg e]; (repeat' split) <;> omega)
                refine kw_lstore (lv' := [(4, _), (0, _), (1, _), (3, _), (6, _), (7, _), (8, _)]) hC dX4_findUps_95 rfl (by decide) rfl ?_
                refine kw_iinc (lv' := [(6, _), (4, _), (0, _), (1, _), (3, _), (7, _), (8, _)]) hC dX4_findUps_97 rfl 4 rfl (by decide) rfl ?_
                refine kw_goto (tgt := 6) hC dX4_findUps_100 rfl (by decide) ?_
                refine kw_lv [2, 3, 4, 1, 0] rfl ?_
                exact ih6 (i + 1) _ (by omega) (by omega) (by first | exact hu9.1 | exact u0) (by first | exact hu9.2 | exact u1) hu8 (by omega)
            · refine kw_iload hC dX4_findUps_44 rfl 5 rfl ?_
              refine kw_aload_n hC dX4_findUps_46 rfl 0 rfl ?_
              refine kg_12_0 hC w4 f22 dX4_findUps_47 rfl (by decide) (by decide) ?_
              refine kw_iload hC dX4_findUps_50 rfl 4 rfl ?_
              refine kw_iload hC dX4_findUps_52 rfl 6 rfl ?_
              refine kw_callV hC (d_X3_number hD (by omega) (by omega) (by omega) (by omega) (by omega) (by omega)) gX4_findUps_X3_number ⟨_, rfl⟩ rfl (by omega) (show (16 : Int) < 17 by omega) rfl ⟨rfl, rfl⟩ 2 (by decide +kernel) ⟨by decide, by decide⟩ rfl rfl (Nat.le_of_ble_eq_true rfl) dX4_findUps_54 rfl (kd_ie ?_)
              refine kw_lload_n hC dX4_findUps_57 rfl 1 rfl ?_
              refine kw_iload hC dX4_findUps_58 rfl 6 rfl ?_
              refine kw_callS hC (d_X4_unpack hD (by omega) (by omega) (by omega) (by omega)) gX4_findUps_X4_unpack rfl ⟨rfl, rfl⟩ 2 (by decide +kernel) ⟨by decide, by decide⟩ rfl rfl (Nat.le_of_ble_eq_true rfl) dX4_findUps_60 rfl (kd_ie ?_)
              refine kw_imul hC dX4_findUps_63 rfl ?_
              refine kw_iadd hC dX4_findUps_64 rfl ?_
              refine kw_chi (z' := rsx (S 5 16) k i (j + 1)) (rsx_s _ _ _ j0).symm ?_
              refine kw_istore (lv' := [(7, _), (0, _), (1, _), (3, _), (4, _), (6, _), (8, _)]) hC dX4_findUps_65 rfl (by decide) rfl ?_
              refine kw_iinc (lv' := [(8, _), (7, _), (0, _), (1, _), (3, _), (4, _), (6, _)]) hC dX4_findUps_67 rfl 6 rfl (by decide) rfl ?_
              refine kw_goto (tgt := 32) hC dX4_findUps_70 rfl (by decide) ?_
              refine kw_lv [2, 3, 4, 5, 6, 1, 0] rfl ?_
              exact ih32 (j + 1) (by omega) (by omega) (by omega)
        refine kw_lv [2, 3, 4, 5, 6, 1, 0] rfl ?_
        exact hL32 7 0 (by omega) (by omega) (by omega)
  refine kw_lv [2, 3, 4, 1, 0] rfl ?_
  exact hL6 7 0 _ (by omega) (by omega) (by omega) (by omega) (fun b _ _ => by rw [dg_0]; split <;> omega) (by omega)
