section
set_option maxHeartbeats 4000000 in
set_option maxRecDepth 100000 in
theorem law_757 {E : wE} {g : wG} (hC : Cx E g cL_law RL wsL_law 14 room_1) (hD : wD g) {MM : Nat → Nat → Int} {n : Nat} {d : Nat → Int} {R : List (Nat → Int)} {u v F G : List Nat} {w : wS} (hQ : Q39 MM n d R u v F G w) (hend : ∀ (S2 : wSt) (lv : List (Nat × Value)), Wk E g 14 S2 813 lv [vi 1]) {S : wSt} (hI : L39 MM n w S) : Wk E g 14 S 757 [(1, vr g 0 0), (3, vi (n : Int)), (4, vi 1), (8, vi (F.length : Int))] [] := by
  have hn9 := hQ.1.2.2.2
  have hF9 := hQ.lF
  refine kw_iload hC dL_law_757 rfl 2 rfl ?_
  refine kw_if_eq (tgt := 812) hC dL_law_759 rfl (by decide) (by omega) ⟨fun c759 => False.elim (by omega), fun _ => ?_⟩
  refine kw_aload_n hC dL_law_762 rfl 0 rfl ?_
  refine kw_iconst hC dL_law_763 rfl ?_
  refine kw_iconst hC dL_law_764 rfl ?_
  refine kw_iload hC dL_law_765 rfl 3 rfl ?_
  refine kw_iconst hC dL_law_767 rfl ?_
  refine kw_callV hC (e_X7_wall hD (by omega) (by omega) (by omega) (by omega) hI.1 (L := R) (by rw [hI.2.1, hI.2.2.1]; exact hQ.1.1)) gL_law_X7_wall ⟨_, rfl⟩ rfl (by decide) (by decide) rfl ⟨rfl, rfl⟩ 4 (by decide +kernel) ⟨by decide, by decide⟩ rfl rfl (Nat.le_of_ble_eq_true rfl) dL_law_768 rfl (kd_l ?_)
  rintro r S2 ⟨q1, q2, q3, q4⟩
  rw [hI.2.1, hI.2.2.1, hI.2.2.2] at q4
  obtain ⟨hI2, er⟩ := hI.wl q1 q2 q3 q4
  rw [hQ.wk ⟨by omega, by omega⟩] at er
  subst er
  replace hI := hI2
  clear hI2 q1 q2 q3 q4
  refine kw_ldc2 (z := -10000000000001) hC dL_law_771 rfl (by decide +kernel) ?_
  refine kw_lcmp hC dL_law_774 rfl (by omega) (by omega) ?_
  refine kw_if_ne (tgt := 812) hC dL_law_775 rfl (by decide) (cz_r _ _) ⟨fun c775 => False.elim (by have h9 := (cz_ne _ _).mp c775; omega), fun _ => ?_⟩
  refine kw_aload_n hC dL_law_778 rfl 0 rfl ?_
  refine kw_iconst hC dL_law_779 rfl ?_
  refine kw_iconst hC dL_law_780 rfl ?_
  refine kw_iconst hC dL_law_781 rfl ?_
  refine kw_iconst hC dL_law_782 rfl ?_
  refine kw_callV hC (e_X7_wall hD (by omega) (by omega) (by omega) (by omega) hI.1 (L := R) (by rw [hI.2.1, hI.2.2.1]; exact hQ.1.1)) gL_law_X7_wall ⟨_, rfl⟩ rfl (by decide) (by decide) rfl ⟨rfl, rfl⟩ 4 (by decide +kernel) ⟨by decide, by decide⟩ rfl rfl (Nat.le_of_ble_eq_true rfl) dL_law_783 rfl (kd_l ?_)
  rintro r S2 ⟨q1, q2, q3, q4⟩
  rw [hI.2.1, hI.2.2.1, hI.2.2.2] at q4
  obtain ⟨hI2, er⟩ := hI.wl q1 q2 q3 q4
  rw [fWal_b (by omega)] at er
  subst er
  replace hI := hI2
  clear hI2 q1 q2 q3 q4
  refine kw_ldc2 (z := -10000000000001) hC dL_law_786 rfl (by decide +kernel) ?_
  refine kw_lcmp hC dL_law_789 rfl (by omega) (by omega) ?_
  refine kw_if_ne (tgt := 812) hC dL_law_790 rfl (by decide) (cz_r _ _) ⟨fun c790 => False.elim (by have h9 := (cz_ne _ _).mp c790; omega), fun _ => ?_⟩
  refine kw_aload_n hC dL_law_793 rfl 0 rfl ?_
  refine kw_iconst hC dL_law_794 rfl ?_
  refine kw_iconst hC dL_law_795 rfl ?_
  refine kw_iconst hC dL_law_796 rfl ?_
  refine kw_iload_n hC dL_law_797 rfl 1 rfl ?_
  refine kw_callV hC (e_X7_wall hD (by omega) (by omega) (by omega) (by omega) hI.1 (L := R) (by rw [hI.2.1, hI.2.2.1]; exact hQ.1.1)) gL_law_X7_wall ⟨_, rfl⟩ rfl (by decide) (by decide) rfl ⟨rfl, rfl⟩ 4 (by decide +kernel) ⟨by decide, by decide⟩ rfl rfl (Nat.le_of_ble_eq_true rfl) dL_law_798 rfl (kd_l ?_)
  rintro r S2 ⟨q1, q2, q3, q4⟩
  rw [hI.2.1, hI.2.2.1, hI.2.2.2] at q4
  obtain ⟨hI2, er⟩ := hI.wl q1 q2 q3 q4
  rw [fWal_b (by omega)] at er
  subst er
  replace hI := hI2
  clear hI2 q1 q2 q3 q4
  refine kw_ldc2 (z := -10000000000001) hC dL_law_801 rfl (by decide +kernel) ?_
  refine kw_lcmp hC dL_law_804 rfl (by omega) (by omega) ?_
  refine kw_if_ne (tgt := 812) hC dL_law_805 rfl (by decide) (cz_r _ _) ⟨fun c805 => False.elim (by have h9 := (cz_ne _ _).mp c805; omega), fun _ => ?_⟩
  refine kw_iconst hC dL_law_808 rfl ?_
  refine kw_goto (tgt := 813) hC dL_law_809 rfl (by decide) ?_
  exact hend _ _
set_option maxHeartbeats 4000000 in
set_option maxRecDepth 100000 in
theorem law_650 {E : wE} {g : wG} (hC : Cx E g cL_law RL wsL_law 14 room_1) (hD : wD g) {MM : Nat → Nat → Int} {n : Nat} {d : Nat → Int} {R : List (Nat → Int)} {u v F G : List Nat} {w : wS} (hQ : Q39 MM n d R u v F G w) (hend : ∀ (S2 : wSt) (lv : List (Nat × Value)), Wk E g 14 S2 813 lv [vi 1]) : ∀ (f : Nat) (i : Int) (S : wSt), 0 ≤ i → i ≤ F.length → L39 MM n w S → (F.length : Int) - i < (f : Int) → Wk E g 14 S 650 [(1, vr g 0 0), (3, vi (n : Int)), (4, vi 1), (8, vi (F.length : Int)), (9, vi i)] [] := by
  have hn9 := hQ.1.2.2.2
  have hF9 := hQ.lF
  have hGF := hQ.len
  intro f
  induction f with
  | zero => intro i S i0 i1 hI hf; exact absurd hf (by omega)
  | succ f ih =>
    intro i S i0 i1 hI hf
    refine kw_iload hC dL_law_650 rfl 4 rfl ?_
    refine kw_iload hC dL_law_652 rfl 3 rfl ?_
    refine kw_icmp_ge (tgt := 757) hC dL_law_654 rfl (by decide) (by omega) (by omega) ⟨fun c654 => ?_, fun c654 => ?_⟩
    · refine kw_lv [0, 1, 2, 3] rfl ?_
      exact law_757 hC hD hQ hend hI
    · refine kw_iload hC dL_law_657 rfl 4 rfl ?_
      refine kw_bipush hC dL_law_659 rfl (by decide) ?_
      refine kw_icmp_ge (tgt := 757) hC dL_law_661 rfl (by decide) (by omega) (by omega) ⟨fun c661 => ?_, fun c661 => ?_⟩
      · refine kw_lv [0, 1, 2, 3] rfl ?_
        exact law_757 hC hD hQ hend hI
      · have k675 : ∀ (f2 : Nat) (c met : Int) (S : wSt), 0 ≤ c → c ≤ F.length → met = 0 ∨ met = 1 → (met = 0 → ∀ c' : Int, 0 ≤ c' → c' < c → ∃ j : Int, (0 ≤ j ∧ j < n) ∧ wab (bta MM n v G c'.toNat) j.toNat ≠ wab (bta MM n u F i.toNat) j.toNat) → L39 MM n w S → (F.length : Int) - c < (f2 : Int) → Wk E g 14 S 675 [(1, vr g 0 0), (3, vi (n : Int)), (4, vi 1), (8, vi (F.length : Int)), (9, vi i), (10, vi met), (11, vi c)] [] := by
          intro f2
          induction f2 with
          | zero => intro c met S c0 c1 hmt hno hI hf; exact absurd hf (by omega)
          | succ f2 ih2 =>
            intro c met S c0 c1 hmt hno hI hf2
            refine kw_iload hC dL_law_675 rfl 6 rfl ?_
            refine kw_iload hC dL_law_677 rfl 3 rfl ?_
            refine kw_icmp_ge (tgt := 747) hC dL_law_679 rfl (by decide) (by omega) (by omega) ⟨fun c679 => ?_, fun c679 => ?_⟩
            · have hm0 : met ≠ 0 := fun q => hQ.met ⟨i0, by omega⟩ (fun c' a a2 => hno q c' a (by omega))
              obtain rfl : met = 1 := by omega
              refine kw_iload hC dL_law_747 rfl 5 rfl ?_
              refine kw_istore (lv' := [(4, _), (1, _), (3, _), (8, _), (9, _), (10, _), (11, _)]) hC dL_law_749 rfl (by decide) rfl ?_
              refine kw_iinc (lv' := [(9, _), (4, _), (1, _), (3, _), (8, _), (10, _), (11, _)]) hC dL_law_751 rfl 4 rfl (by decide) rfl ?_
              refine kw_goto (tgt := 650) hC dL_law_754 rfl (by decide) ?_
              refine kw_lv [2, 3, 1, 4, 0] rfl ?_
              exact ih (i + 1) S (by omega) (by omega) hI (by omega)
            · refine kw_iload hC dL_law_682 rfl 5 rfl ?_
              refine kw_if_ne (tgt := 747) hC dL_law_684 rfl (by decide) (by omega) ⟨fun c684 => ?_, fun c684 => ?_⟩
              · obtain rfl : met = 1 := by omega
                refine kw_iload hC dL_law_747 rfl 5 rfl ?_
                refine kw_istore (lv' := [(4, _), (1, _), (3, _), (8, _), (9, _), (10, _), (11, _)]) hC dL_law_749 rfl (by decide) rfl ?_
                refine kw_iinc (lv' := [(9, _), (4, _), (1, _), (3, _), (8, _), (10, _), (11, _)]) hC dL_law_751 rfl 4 rfl (by decide) rfl ?_
                refine kw_goto (tgt := 650) hC dL_law_754 rfl (by decide) ?_
                refine kw_lv [2, 3, 1, 4, 0] rfl ?_
                exact ih (i + 1) S (by omega) (by omega) hI (by omega)
              · have hr2 := fun j : Nat => hQ.r2 (i := c) ⟨c0, by omega⟩ j
                have hr1 := fun j : Nat => hQ.r1 (i := i) ⟨i0, by omega⟩ j
                have hno0 := hno (by omega)
                have k693 : ∀ (f3 : Nat) (j met : Int) (S : wSt), 0 ≤ j → j ≤ n → met = 0 ∨ met = 1 → (∀ q : Int, q = 0 → met = q → ∃ j : Int, (0 ≤ j ∧ j < n) ∧ wab (bta MM n v G c.toNat) j.toNat ≠ wab (bta MM n u F i.toNat) j.toNat) → L39 MM n w S → (n : Int) - j < (f3 : Int) → Wk E g 14 S 693 [(1, vr g 0 0), (3, vi (n : Int)), (4, vi 1), (8, vi (F.length : Int)), (9, vi i), (10, vi met), (11, vi c), (12, vi j)] [] := by
                  intro f3
                  induction f3 with
                  | zero => intro j met S j0 j1 hmt hne hI hf; exact absurd hf (by omega)
                  | succ f3 ih3 =>
                    intro j met S j0 j1 hmt hne hI hf3
                    refine kw_iload hC dL_law_693 rfl 7 rfl ?_
                    refine kw_iload_n hC dL_law_695 rfl 1 rfl ?_
                    refine kw_icmp_ge (tgt := 741) hC dL_law_696 rfl (by decide) (by omega) (by omega) ⟨fun c696 => ?_, fun c696 => ?_⟩
                    · refine kw_iinc (lv' := [(11, _), (1, _), (3, _), (4, _), (8, _), (9, _), (10, _), (12, _)]) hC dL_law_741 rfl 6 rfl (by decide) rfl ?_
                      refine kw_goto (tgt := 675) hC dL_law_744 rfl (by decide) ?_
                      refine kw_lv [1, 2, 3, 4, 5, 6, 0] rfl ?_
                      exact ih2 (c + 1) met S (by omega) (by omega) hmt (fun q c' a a2 => by by_cases e9 : c' = c; (rw [e9]; exact hne 0 rfl q); exact hno0 c' a (by omega)) hI (by omega)
                    · refine kw_iload hC dL_law_699 rfl 5 rfl ?_
                      refine kw_if_eq (tgt := 741) hC dL_law_701 rfl (by decide) (by omega) ⟨fun c701 => ?_, fun c701 => ?_⟩
                      · refine kw_iinc (lv' := [(11, _), (1, _), (3, _), (4, _), (8, _), (9, _), (10, _), (12, _)]) hC dL_law_741 rfl 6 rfl (by decide) rfl ?_
                        refine kw_goto (tgt := 675) hC dL_law_744 rfl (by decide) ?_
                        refine kw_lv [1, 2, 3, 4, 5, 6, 0] rfl ?_
                        exact ih2 (c + 1) met S (by omega) (by omega) hmt (fun q c' a a2 => by by_cases e9 : c' = c; (rw [e9]; exact hne 0 rfl q); exact hno0 c' a (by omega)) hI (by omega)
                      · have hj2 := hr2 j.toNat
                        have hj1 := hr1 j.toNat
                        refine kw_aload_n hC dL_law_704 rfl 0 rfl ?_
                        refine kw_iconst hC dL_law_705 rfl ?_
                        refine kw_iconst hC dL_law_706 rfl ?_
                        refine kw_iload hC dL_law_707 rfl 6 rfl ?_
                        refine kw_iload hC dL_law_709 rfl 7 rfl ?_
                        refine kw_callV hC (e_X7_wall hD (by omega) (by omega) (by omega) (by omega) hI.1 (L := R) (by rw [hI.2.1, hI.2.2.1]; exact hQ.1.1)) gL_law_X7_wall ⟨_, rfl⟩ rfl (by decide) (by decide) rfl ⟨rfl, rfl⟩ 4 (by decide +kernel) ⟨by decide, by decide⟩ rfl rfl (Nat.le_of_ble_eq_true rfl) dL_law_711 rfl (kd_l ?_)
                        rintro r S2 ⟨q1, q2, q3, q4⟩
                        rw [hI.2.1, hI.2.2.1, hI.2.2.2] at q4
                        obtain ⟨hI2, er⟩ := hI.wl q1 q2 q3 q4
                        rw [hQ.w2 ⟨c0, by omega⟩ ⟨j0, by omega⟩] at er
                        subst er
                        replace hI := hI2
                        clear hI2 q1 q2 q3 q4
                        refine kw_aload_n hC dL_law_714 rfl 0 rfl ?_
                        refine kw_iconst hC dL_law_715 rfl ?_
                        refine kw_iconst hC dL_law_716 rfl ?_
                        refine kw_iload hC dL_law_717 rfl 4 rfl ?_
                        refine kw_iload hC dL_law_719 rfl 7 rfl ?_
                        refine kw_callV hC (e_X7_wall hD (by omega) (by omega) (by omega) (by omega) hI.1 (L := R) (by rw [hI.2.1, hI.2.2.1]; exact hQ.1.1)) gL_law_X7_wall ⟨_, rfl⟩ rfl (by decide) (by decide) rfl ⟨rfl, rfl⟩ 4 (by decide +kernel) ⟨by decide, by decide⟩ rfl rfl (Nat.le_of_ble_eq_true rfl) dL_law_721 rfl (kd_l ?_)
                        rintro r S2 ⟨q1, q2, q3, q4⟩
                        rw [hI.2.1, hI.2.2.1, hI.2.2.2] at q4
                        obtain ⟨hI2, er⟩ := hI.wl q1 q2 q3 q4
                        rw [hQ.w1 ⟨i0, by omega⟩ ⟨j0, by omega⟩] at er
                        subst er
                        replace hI := hI2
                        clear hI2 q1 q2 q3 q4
                        refine kw_lcmp hC dL_law_724 rfl (by omega) (by omega) ?_
                        refine kw_if_ne (tgt := 732) hC dL_law_725 rfl (by decide) (cz_r _ _) ⟨fun c725 => ?_, fun c725 => ?_⟩
                        · replace c725 := (cz_ne _ _).mp c725
                          refine kw_iconst hC dL_law_732 rfl ?_
                          refine kw_istore (lv' := [(10, _), (1, _), (3, _), (4, _), (8, _), (9, _), (11, _), (12, _)]) hC dL_law_733 rfl (by decide) rfl ?_
                          refine kw_iinc (lv' := [(12, _), (10, _), (1, _), (3, _), (4, _), (8, _), (9, _), (11, _)]) hC dL_law_735 rfl 7 rfl (by decide) rfl ?_
                          refine kw_goto (tgt := 693) hC dL_law_738 rfl (by decide) ?_
                          refine kw_lv [2, 3, 4, 5, 6, 1, 7, 0] rfl ?_
                          exact ih3 (j + 1) 0 S2 (by omega) (by omega) (by omega) (fun _ _ _ => ⟨j, ⟨j0, by omega⟩, c725⟩) hI (by omega)
                        · replace c725 := (not_congr (cz_ne _ _)).mp c725
                          refine kw_iconst hC dL_law_728 rfl ?_
                          refine kw_goto (tgt := 733) hC dL_law_729 rfl (by decide) ?_
                          refine kw_istore (lv' := [(10, _), (1, _), (3, _), (4, _), (8, _), (9, _), (11, _), (12, _)]) hC dL_law_733 rfl (by decide) rfl ?_
                          refine kw_iinc (lv' := [(12, _), (10, _), (1, _), (3, _), (4, _), (8, _), (9, _), (11, _)]) hC dL_law_735 rfl 7 rfl (by decide) rfl ?_
                          refine kw_goto (tgt := 693) hC dL_law_738 rfl (by decide) ?_
                          refine kw_lv [2, 3, 4, 5, 6, 1, 7, 0] rfl ?_
                          exact ih3 (j + 1) 1 S2 (by omega) (by omega) (by omega) (fun q q0 q1 => absurd (q1.trans q0) (by decide)) hI (by omega)
                refine kw_iconst hC dL_law_687 rfl ?_
                refine kw_istore (lv' := [(10, _), (1, _), (3, _), (4, _), (8, _), (9, _), (11, _)]) hC dL_law_688 rfl (by decide) rfl ?_
                refine kw_iconst hC dL_law_690 rfl ?_
                refine kw_istore (lv' := [(12, _), (10, _), (1, _), (3, _), (4, _), (8, _), (9, _), (11, _)]) hC dL_law_691 rfl (by decide) rfl ?_
                refine kw_lv [2, 3, 4, 5, 6, 1, 7, 0] rfl ?_
                exact k693 (n + 1) 0 1 S (by omega) (by omega) (by omega) (fun q q0 q1 => absurd (q1.trans q0) (by decide)) hI (by omega)
        refine kw_iload hC dL_law_664 rfl 2 rfl ?_
        refine kw_if_eq (tgt := 757) hC dL_law_666 rfl (by decide) (by omega) ⟨fun c666 => False.elim (by omega), fun _ => ?_⟩
        refine kw_iconst hC dL_law_669 rfl ?_
        refine kw_istore (lv' := [(10, _), (1, _), (3, _), (4, _), (8, _), (9, _)]) hC dL_law_670 rfl (by decide) rfl ?_
        refine kw_iconst hC dL_law_672 rfl ?_
        refine kw_istore (lv' := [(11, _), (10, _), (1, _), (3, _), (4, _), (8, _), (9, _)]) hC dL_law_673 rfl (by decide) rfl ?_
        refine kw_lv [2, 3, 4, 5, 6, 1, 0] rfl ?_
        exact k675 (F.length + 1) 0 0 S (by omega) (by omega) (by omega) (fun _ c' a a2 => by omega) hI (by omega)
set_option maxHeartbeats 4000000 in
set_option maxRecDepth 100000 in
theorem law_457 {E : wE} {g : wG} (hC : Cx E g cL_law RL wsL_law 14 room_1) (hD : wD g) {MM : Nat → Nat → Int} {n : Nat} {d : Nat → Int} {R : List (Nat → Int)} {u v F G : List Nat} {w : wS} (hQ : Q39 MM n d R u v F G w) (hend : ∀ (S2 : wSt) (lv : List (Nat × Value)), Wk E g 14 S2 813 lv [vi 1]) : ∀ (f : Nat) (i : Int) (S : wSt), 0 ≤ i → i ≤ F.length → L39 MM n w S → (F.length : Int) - i < (f : Int) → Wk E g 14 S 457 [(1, vr g 0 0), (3, vi (n : Int)), (4, vi 1), (8, vi (F.length : Int)), (9, vi i)] [] := by
  have hn9 := hQ.1.2.2.2
  have hF9 := hQ.lF
  intro f
  induction f with
  | zero => intro i S i0 i1 hI hf; exact absurd hf (by omega)
  | succ f ih =>
    intro i S i0 i1 hI hf
    refine kw_iload hC dL_law_457 rfl 4 rfl ?_
    refine kw_iload hC dL_law_459 rfl 3 rfl ?_
    refine kw_icmp_ge (tgt := 647) hC dL_law_461 rfl (by decide) (by omega) (by omega) ⟨fun c461 => ?_, fun c461 => ?_⟩
    · refine kw_iconst hC dL_law_647 rfl ?_
      refine kw_istore (lv' := [(9, _), (1, _), (3, _), (4, _), (8, _)]) hC dL_law_648 rfl (by decide) rfl ?_
      refine kw_lv [1, 2, 3, 4, 0] rfl ?_
      exact law_650 hC hD hQ hend (F.length + 1) 0 S (by omega) (by omega) hI (by omega)
    · have hr1 := fun j : Nat => hQ.r1 (i := i) ⟨i0, by omega⟩ j
      have k557 : ∀ (f2 : Nat) (c : Int) (S : wSt), 0 ≤ c → c ≤ i → L39 MM n w S → i - c < (f2 : Int) → Wk E g 14 S 557 [(1, vr g 0 0), (3, vi (n : Int)), (4, vi 1), (8, vi (F.length : Int)), (9, vi i), (11, vi c)] [] := by
        intro f2
        induction f2 with
        | zero => intro c S c0 c1 hI hf; exact absurd hf (by omega)
        | succ f2 ih2 =>
          intro c S c0 c1 hI hf2
          refine kw_iload hC dL_law_557 rfl 5 rfl ?_
          refine kw_iload hC dL_law_559 rfl 4 rfl ?_
          refine kw_icmp_ge (tgt := 641) hC dL_law_561 rfl (by decide) (by omega) (by omega) ⟨fun c561 => ?_, fun c561 => ?_⟩
          · refine kw_iinc (lv' := [(9, _), (1, _), (3, _), (4, _), (8, _), (11, _)]) hC dL_law_641 rfl 4 rfl (by decide) rfl ?_
            refine kw_goto (tgt := 457) hC dL_law_644 rfl (by decide) ?_
            refine kw_lv [1, 2, 3, 4, 0] rfl ?_
            exact ih (i + 1) S (by omega) (by omega) hI (by omega)
          · have hrc := fun j : Nat => hQ.r1 (i := c) ⟨c0, by omega⟩ j
            have k575 : ∀ (f3 : Nat) (j lk : Int) (S : wSt), 0 ≤ j → j ≤ n → lk = 0 ∨ lk = 1 → (lk = 1 → ∀ j' : Int, 0 ≤ j' → j' < j → wab (bta MM n u F c.toNat) j'.toNat = wab (bta MM n u F i.toNat) j'.toNat) → L39 MM n w S → (n : Int) - j < (f3 : Int) → Wk E g 14 S 575 [(1, vr g 0 0), (3, vi (n : Int)), (4, vi 1), (8, vi (F.length : Int)), (9, vi i), (11, vi c), (12, vi lk), (13, vi j)] [] := by
              intro f3
              induction f3 with
              | zero => intro j lk S j0 j1 hlk heq hI hf; exact absurd hf (by omega)
              | succ f3 ih3 =>
                intro j lk S j0 j1 hlk heq hI hf3
                refine kw_iload hC dL_law_575 rfl 7 rfl ?_
                refine kw_iload_n hC dL_law_577 rfl 1 rfl ?_
                refine kw_icmp_ge (tgt := 623) hC dL_law_578 rfl (by decide) (by omega) (by omega) ⟨fun c578 => ?_, fun c578 => ?_⟩
                · have hl0 : lk ≠ 1 := fun q => hQ.two c0 (by omega) (by omega) (fun j' a a2 => heq q j' a (by omega))
                  obtain rfl : lk = 0 := by omega
                  refine kw_iload hC dL_law_623 rfl 6 rfl ?_
                  refine kw_if_ne (tgt := 632) hC dL_law_625 rfl (by decide) (by omega) ⟨fun c625 => False.elim (by omega), fun _ => ?_⟩
                  refine kw_iconst hC dL_law_628 rfl ?_
                  refine kw_goto (tgt := 633) hC dL_law_629 rfl (by decide) ?_
                  refine kw_istore (lv' := [(4, _), (1, _), (3, _), (8, _), (9, _), (11, _), (12, _), (13, _)]) hC dL_law_633 rfl (by decide) rfl ?_
                  refine kw_iinc (lv' := [(11, _), (4, _), (1, _), (3, _), (8, _), (9, _), (12, _), (13, _)]) hC dL_law_635 rfl 5 rfl (by decide) rfl ?_
                  refine kw_goto (tgt := 557) hC dL_law_638 rfl (by decide) ?_
                  refine kw_lv [2, 3, 1, 4, 5, 0] rfl ?_
                  exact ih2 (c + 1) S (by omega) (by omega) hI (by omega)
                · refine kw_iload hC dL_law_581 rfl 6 rfl ?_
                  refine kw_if_eq (tgt := 614) hC dL_law_583 rfl (by decide) (by omega) ⟨fun c583 => ?_, fun c583 => ?_⟩
                  · refine kw_iconst hC dL_law_614 rfl ?_
                    refine kw_istore (lv' := [(12, _), (1, _), (3, _), (4, _), (8, _), (9, _), (11, _), (13, _)]) hC dL_law_615 rfl (by decide) rfl ?_
                    refine kw_iinc (lv' := [(13, _), (12, _), (1, _), (3, _), (4, _), (8, _), (9, _), (11, _)]) hC dL_law_617 rfl 7 rfl (by decide) rfl ?_
                    refine kw_goto (tgt := 575) hC dL_law_620 rfl (by decide) ?_
                    refine kw_lv [2, 3, 4, 5, 6, 7, 1, 0] rfl ?_
                    exact ih3 (j + 1) 0 S (by omega) (by omega) (by omega) (fun q => absurd q (by decide)) hI (by omega)
                  · have hjc := hrc j.toNat
                    have hj1 := hr1 j.toNat
                    refine kw_aload_n hC dL_law_586 rfl 0 rfl ?_
                    refine kw_iconst hC dL_law_587 rfl ?_
                    refine kw_iconst hC dL_law_588 rfl ?_
                    refine kw_iload hC dL_law_589 rfl 5 rfl ?_
                    refine kw_iload hC dL_law_591 rfl 7 rfl ?_
                    refine kw_callV hC (e_X7_wall hD (by omega) (by omega) (by omega) (by omega) hI.1 (L := R) (by rw [hI.2.1, hI.2.2.1]; exact hQ.1.1)) gL_law_X7_wall ⟨_, rfl⟩ rfl (by decide) (by decide) rfl ⟨rfl, rfl⟩ 4 (by decide +kernel) ⟨by decide, by decide⟩ rfl rfl (Nat.le_of_ble_eq_true rfl) dL_law_593 rfl (kd_l ?_)
                    rintro r S2 ⟨q1, q2, q3, q4⟩
                    rw [hI.2.1, hI.2.2.1, hI.2.2.2] at q4
                    obtain ⟨hI2, er⟩ := hI.wl q1 q2 q3 q4
                    rw [hQ.w1 ⟨c0, by omega⟩ ⟨j0, by omega⟩] at er
                    subst er
                    replace hI := hI2
                    clear hI2 q1 q2 q3 q4
                    refine kw_aload_n hC dL_law_596 rfl 0 rfl ?_
                    refine kw_iconst hC dL_law_597 rfl ?_
                    refine kw_iconst hC dL_law_598 rfl ?_
                    refine kw_iload hC dL_law_599 rfl 4 rfl ?_
                    refine kw_iload hC dL_law_601 rfl 7 rfl ?_
                    refine kw_callV hC (e_X7_wall hD (by omega) (by omega) (by omega) (by omega) hI.1 (L := R) (by rw [hI.2.1, hI.2.2.1]; exact hQ.1.1)) gL_law_X7_wall ⟨_, rfl⟩ rfl (by decide) (by decide) rfl ⟨rfl, rfl⟩ 4 (by decide +kernel) ⟨by decide, by decide⟩ rfl rfl (Nat.le_of_ble_eq_true rfl) dL_law_603 rfl (kd_l ?_)
                    rintro r S2 ⟨q1, q2, q3, q4⟩
                    rw [hI.2.1, hI.2.2.1, hI.2.2.2] at q4
                    obtain ⟨hI2, er⟩ := hI.wl q1 q2 q3 q4
                    rw [hQ.w1 ⟨i0, by omega⟩ ⟨j0, by omega⟩] at er
                    subst er
                    replace hI := hI2
                    clear hI2 q1 q2 q3 q4
                    refine kw_lcmp hC dL_law_606 rfl (by omega) (by omega) ?_
                    refine kw_if_ne (tgt := 614) hC dL_law_607 rfl (by decide) (cz_r _ _) ⟨fun c607 => ?_, fun c607 => ?_⟩
                    · replace c607 := (cz_ne _ _).mp c607
                      refine kw_iconst hC dL_law_614 rfl ?_
                      refine kw_istore (lv' := [(12, _), (1, _), (3, _), (4, _), (8, _), (9, _), (11, _), (13, _)]) hC dL_law_615 rfl (by decide) rfl ?_
                      refine kw_iinc (lv' := [(13, _), (12, _), (1, _), (3, _), (4, _), (8, _), (9, _), (11, _)]) hC dL_law_617 rfl 7 rfl (by decide) rfl ?_
                      refine kw_goto (tgt := 575) hC dL_law_620 rfl (by decide) ?_
                      refine kw_lv [2, 3, 4, 5, 6, 7, 1, 0] rfl ?_
                      exact ih3 (j + 1) 0 S2 (by omega) (by omega) (by omega) (fun q => absurd q (by decide)) hI (by omega)
                    · replace c607 := (not_congr (cz_ne _ _)).mp c607
                      refine kw_iconst hC dL_law_610 rfl ?_
                      refine kw_goto (tgt := 615) hC dL_law_611 rfl (by decide) ?_
                      refine kw_istore (lv' := [(12, _), (1, _), (3, _), (4, _), (8, _), (9, _), (11, _), (13, _)]) hC dL_law_615 rfl (by decide) rfl ?_
                      refine kw_iinc (lv' := [(13, _), (12, _), (1, _), (3, _), (4, _), (8, _), (9, _), (11, _)]) hC dL_law_617 rfl 7 rfl (by decide) rfl ?_
                      refine kw_goto (tgt := 575) hC dL_law_620 rfl (by decide) ?_
                      refine kw_lv [2, 3, 4, 5, 6, 7, 1, 0] rfl ?_
                      exact ih3 (j + 1) 1 S2 (by omega) (by omega) (by omega) (fun _ j' a a2 => by by_cases e9 : j' = j; (rw [e9]; omega); exact heq (by omega) j' a (by omega)) hI (by omega)
            refine kw_iload hC dL_law_564 rfl 2 rfl ?_
            refine kw_if_eq (tgt := 641) hC dL_law_566 rfl (by decide) (by omega) ⟨fun c566 => False.elim (by omega), fun _ => ?_⟩
            refine kw_iconst hC dL_law_569 rfl ?_
            refine kw_istore (lv' := [(12, _), (1, _), (3, _), (4, _), (8, _), (9, _), (11, _)]) hC dL_law_570 rfl (by decide) rfl ?_
            refine kw_iconst hC dL_law_572 rfl ?_
            refine kw_istore (lv' := [(13, _), (12, _), (1, _), (3, _), (4, _), (8, _), (9, _), (11, _)]) hC dL_law_573 rfl (by decide) rfl ?_
            refine kw_lv [2, 3, 4, 5, 6, 7, 1, 0] rfl ?_
            exact k575 (n + 1) 0 1 S (by omega) (by omega) (by omega) (fun _ j' a a2 => by omega) hI (by omega)
      have k475 : ∀ (f2 : Nat) (j ab : Int) (S : wSt), 0 ≤ j → j ≤ n → ab = 0 ∨ ab = 1 → (ab = 0 → ∀ j' : Int, 0 ≤ j' → j' < j → wab (bta MM n u F i.toNat) j'.toNat ≤ 0) → L39 MM n w S → (n : Int) - j < (f2 : Int) → Wk E g 14 S 475 [(1, vr g 0 0), (3, vi (n : Int)), (4, vi 1), (8, vi (F.length : Int)), (9, vi i), (10, vi ab), (11, vi j)] [] := by
        intro f2
        induction f2 with
        | zero => intro j ab S j0 j1 hab hz hI hf; exact absurd hf (by omega)
        | succ f2 ih2 =>
          intro j ab S j0 j1 hab hz hI hf2
          refine kw_iload hC dL_law_475 rfl 6 rfl ?_
          refine kw_iload_n hC dL_law_477 rfl 1 rfl ?_
          refine kw_icmp_ge (tgt := 537) hC dL_law_478 rfl (by decide) (by omega) (by omega) ⟨fun c478 => ?_, fun c478 => ?_⟩
          · have ha0 : ab ≠ 0 := fun q => hQ.pos ⟨i0, by omega⟩ (fun j' a a2 => hz q j' a (by omega))
            refine kw_iload hC dL_law_537 rfl 2 rfl ?_
            refine kw_if_eq (tgt := 551) hC dL_law_539 rfl (by decide) (by omega) ⟨fun c539 => False.elim (by omega), fun _ => ?_⟩
            refine kw_iload hC dL_law_542 rfl 5 rfl ?_
            refine kw_if_eq (tgt := 551) hC dL_law_544 rfl (by decide) (by omega) ⟨fun c544 => False.elim (by omega), fun _ => ?_⟩
            refine kw_iconst hC dL_law_547 rfl ?_
            refine kw_goto (tgt := 552) hC dL_law_548 rfl (by decide) ?_
            refine kw_istore (lv' := [(4, _), (1, _), (3, _), (8, _), (9, _), (10, _), (11, _)]) hC dL_law_552 rfl (by decide) rfl ?_
            refine kw_iconst hC dL_law_554 rfl ?_
            refine kw_istore (lv' := [(11, _), (4, _), (1, _), (3, _), (8, _), (9, _), (10, _)]) hC dL_law_555 rfl (by decide) rfl ?_
            refine kw_lv [2, 3, 1, 4, 5, 0] rfl ?_
            exact k557 (i.toNat + 1) 0 S (by omega) (by omega) hI (by omega)
          · have hj1 := hr1 j.toNat
            refine kw_aload_n hC dL_law_481 rfl 0 rfl ?_
            refine kw_iconst hC dL_law_482 rfl ?_
            refine kw_iconst hC dL_law_483 rfl ?_
            refine kw_iload hC dL_law_484 rfl 4 rfl ?_
            refine kw_iload hC dL_law_486 rfl 6 rfl ?_
            refine kw_callV hC (e_X7_wall hD (by omega) (by omega) (by omega) (by omega) hI.1 (L := R) (by rw [hI.2.1, hI.2.2.1]; exact hQ.1.1)) gL_law_X7_wall ⟨_, rfl⟩ rfl (by decide) (by decide) rfl ⟨rfl, rfl⟩ 4 (by decide +kernel) ⟨by decide, by decide⟩ rfl rfl (Nat.le_of_ble_eq_true rfl) dL_law_488 rfl (kd_l ?_)
            rintro r S2 ⟨q1, q2, q3, q4⟩
            rw [hI.2.1, hI.2.2.1, hI.2.2.2] at q4
            obtain ⟨hI2, er⟩ := hI.wl q1 q2 q3 q4
            rw [hQ.w1 ⟨i0, by omega⟩ ⟨j0, by omega⟩] at er
            subst er
            replace hI := hI2
            clear hI2 q1 q2 q3 q4
            refine kw_lstore (lv' := [(12, _), (1, _), (3, _), (4, _), (8, _), (9, _), (10, _), (11, _)]) hC dL_law_491 rfl (by decide) rfl ?_
            refine kw_iload hC dL_law_493 rfl 3 rfl ?_
            refine kw_if_eq (tgt := 509) hC dL_law_495 rfl (by decide) (by omega) ⟨fun c495 => False.elim (by omega), fun _ => ?_⟩
            refine kw_lload hC dL_law_498 rfl 0 rfl ?_
            refine kw_lconst (z := 0) hC dL_law_500 rfl rfl ?_
            refine kw_lcmp hC dL_law_501 rfl (by omega) (by omega) ?_
            refine kw_if_lt (tgt := 509) hC dL_law_502 rfl (by decide) (cz_r _ _) ⟨fun c502 => False.elim (by have h9 := (cz_lt _ _).mp c502; omega), fun _ => ?_⟩
            refine kw_iconst hC dL_law_505 rfl ?_
            refine kw_goto (tgt := 510) hC dL_law_506 rfl (by decide) ?_
            refine kw_istore (lv' := [(4, _), (12, _), (1, _), (3, _), (8, _), (9, _), (10, _), (11, _)]) hC dL_law_510 rfl (by decide) rfl ?_
            refine kw_iload hC dL_law_512 rfl 6 rfl ?_
            refine kw_if_ne (tgt := 524) hC dL_law_514 rfl (by decide) (by omega) ⟨fun c514 => ?_, fun c514 => ?_⟩
            · refine kw_iconst hC dL_law_524 rfl ?_
              refine kw_goto (tgt := 529) hC dL_law_525 rfl (by decide) ?_
              refine kw_istore (lv' := [(10, _), (4, _), (12, _), (1, _), (3, _), (8, _), (9, _), (11, _)]) hC dL_law_529 rfl (by decide) rfl ?_
              refine kw_iinc (lv' := [(11, _), (10, _), (4, _), (12, _), (1, _), (3, _), (8, _), (9, _)]) hC dL_law_531 rfl 7 rfl (by decide) rfl ?_
              refine kw_goto (tgt := 475) hC dL_law_534 rfl (by decide) ?_
              refine kw_lv [4, 5, 2, 6, 7, 1, 0] rfl ?_
              exact ih2 (j + 1) 1 S2 (by omega) (by omega) (by omega) (fun q => absurd q (by decide)) hI (by omega)
            · refine kw_lload hC dL_law_517 rfl 1 rfl ?_
              refine kw_lconst (z := 0) hC dL_law_519 rfl rfl ?_
              refine kw_lcmp hC dL_law_520 rfl (by omega) (by omega) ?_
              refine kw_if_le (tgt := 528) hC dL_law_521 rfl (by decide) (cz_r _ _) ⟨fun c521 => ?_, fun c521 => ?_⟩
              · replace c521 := (cz_le _ _).mp c521
                refine kw_iconst hC dL_law_528 rfl ?_
                refine kw_istore (lv' := [(10, _), (4, _), (12, _), (1, _), (3, _), (8, _), (9, _), (11, _)]) hC dL_law_529 rfl (by decide) rfl ?_
                refine kw_iinc (lv' := [(11, _), (10, _), (4, _), (12, _), (1, _), (3, _), (8, _), (9, _)]) hC dL_law_531 rfl 7 rfl (by decide) rfl ?_
                refine kw_goto (tgt := 475) hC dL_law_534 rfl (by decide) ?_
                refine kw_lv [4, 5, 2, 6, 7, 1, 0] rfl ?_
                exact ih2 (j + 1) 0 S2 (by omega) (by omega) (by omega) (fun _ j' a a2 => by by_cases e9 : j' = j; (rw [e9]; omega); exact hz (by omega) j' a (by omega)) hI (by omega)
              · replace c521 := (not_congr (cz_le _ _)).mp c521
                refine kw_iconst hC dL_law_524 rfl ?_
                refine kw_goto (tgt := 529) hC dL_law_525 rfl (by decide) ?_
                refine kw_istore (lv' := [(10, _), (4, _), (12, _), (1, _), (3, _), (8, _), (9, _), (11, _)]) hC dL_law_529 rfl (by decide) rfl ?_
                refine kw_iinc (lv' := [(11, _), (10, _), (4, _), (12, _), (1, _), (3, _), (8, _), (9, _)]) hC dL_law_531 rfl 7 rfl (by decide) rfl ?_
                refine kw_goto (tgt := 475) hC dL_law_534 rfl (by decide) ?_
                refine kw_lv [4, 5, 2, 6, 7, 1, 0] rfl ?_
                exact ih2 (j + 1) 1 S2 (by omega) (by omega) (by omega) (fun q => absurd q (by decide)) hI (by omega)
      refine kw_iload hC dL_law_464 rfl 2 rfl ?_
      refine kw_if_eq (tgt := 647) hC dL_law_466 rfl (by decide) (by omega) ⟨fun c466 => False.elim (by omega), fun _ => ?_⟩
      refine kw_iconst hC dL_law_469 rfl ?_
      refine kw_istore (lv' := [(10, _), (1, _), (3, _), (4, _), (8, _), (9, _)]) hC dL_law_470 rfl (by decide) rfl ?_
      refine kw_iconst hC dL_law_472 rfl ?_
      refine kw_istore (lv' := [(11, _), (10, _), (1, _), (3, _), (4, _), (8, _), (9, _)]) hC dL_law_473 rfl (by decide) rfl ?_
      refine kw_lv [2, 3, 4, 5, 6, 1, 0] rfl ?_
      exact k475 (n + 1) 0 0 S (by omega) (by omega) (by omega) (fun _ j' a a2 => by omega) hI (by omega)
set_option maxHeartbeats 4000000 in
set_option maxRecDepth 100000 in
theorem law_411 {E : wE} {g : wG} (hC : Cx E g cL_law RL wsL_law 14 room_1) (hD : wD g) {MM : Nat → Nat → Int} {n : Nat} {d : Nat → Int} {R : List (Nat → Int)} {u v F G : List Nat} {w : wS} (hQ : Q39 MM n d R u v F G w) (hend : ∀ (S2 : wSt) (lv : List (Nat × Value)), Wk E g 14 S2 813 lv [vi 1]) (h7 : w 7 = F) (h3 : w 3 = F) : ∀ (f : Nat) (i : Int) (S : wSt), 0 ≤ i → i ≤ F.length → L39 MM n w S → (F.length : Int) - i < (f : Int) → Wk E g 14 S 411 [(1, vr g 0 0), (3, vi (n : Int)), (4, vi 1), (8, vi (F.length : Int)), (9, vi i)] [] := by
  have hn9 := hQ.1.2.2.2
  have hF9 := hQ.lF
  intro f
  induction f with
  | zero => intro i S i0 i1 hI hf; exact absurd hf (by omega)
  | succ f ih =>
    intro i S i0 i1 hI hf
    refine kw_iload hC dL_law_411 rfl 4 rfl ?_
    refine kw_iload hC dL_law_413 rfl 3 rfl ?_
    refine kw_icmp_ge (tgt := 454) hC dL_law_415 rfl (by decide) (by omega) (by omega) ⟨fun c415 => ?_, fun c415 => ?_⟩
    · refine kw_iconst hC dL_law_454 rfl ?_
      refine kw_istore (lv' := [(9, _), (1, _), (3, _), (4, _), (8, _)]) hC dL_law_455 rfl (by decide) rfl ?_
      refine kw_lv [1, 2, 3, 4, 0] rfl ?_
      exact law_457 hC hD hQ hend (F.length + 1) 0 S (by omega) (by omega) hI (by omega)
    · refine kw_iload hC dL_law_418 rfl 2 rfl ?_
      refine kw_if_eq (tgt := 454) hC dL_law_420 rfl (by decide) (by omega) ⟨fun c420 => False.elim (by omega), fun _ => ?_⟩
      have hlt : F.getD i.toNat 0 < n := hQ.2.2.2.1.2.1.1 _ (getD_mem (by omega))
      refine kw_aload_n hC dL_law_423 rfl 0 rfl ?_
      refine kw_bipush hC dL_law_424 rfl (by decide) ?_
      refine kw_iload hC dL_law_426 rfl 4 rfl ?_
      refine kw_callV hC (f_X7_at hD (by omega) (by omega) hI.1) gL_law_X7_at ⟨_, rfl⟩ rfl (by decide) (by decide) rfl ⟨rfl, rfl⟩ 2 (by decide +kernel) ⟨by decide, by decide⟩ rfl rfl (Nat.le_of_ble_eq_true rfl) dL_law_428 rfl (kd_i ?_)
      rintro r S2 ⟨q1, q2, q3⟩
      rw [hI.2.2.2] at q3
      obtain ⟨hI2, er⟩ := hI.pr q1 q2 q3
      replace hI2 : L39 MM n _ S2 := hI2
      replace er : r = fAt 7 i w := er
      rw [at_k (by omega) h7 ⟨i0, by omega⟩] at er
      subst er
      replace hI := hI2
      clear hI2 q1 q2 q3
      refine kw_aload_n hC dL_law_431 rfl 0 rfl ?_
      refine kw_iconst hC dL_law_432 rfl ?_
      refine kw_iload hC dL_law_433 rfl 4 rfl ?_
      refine kw_callV hC (f_X7_at hD (by omega) (by omega) hI.1) gL_law_X7_at ⟨_, rfl⟩ rfl (by decide) (by decide) rfl ⟨rfl, rfl⟩ 2 (by decide +kernel) ⟨by decide, by decide⟩ rfl rfl (Nat.le_of_ble_eq_true rfl) dL_law_435 rfl (kd_i ?_)
      rintro r S2 ⟨q1, q2, q3⟩
      rw [hI.2.2.2] at q3
      obtain ⟨hI2, er⟩ := hI.pr q1 q2 q3
      replace hI2 : L39 MM n _ S2 := hI2
      replace er : r = fAt 3 i w := er
      rw [at_k (by omega) h3 ⟨i0, by omega⟩] at er
      subst er
      replace hI := hI2
      clear hI2 q1 q2 q3
      refine kw_icmp_ne (tgt := 445) hC dL_law_438 rfl (by decide) (by omega) (by omega) ⟨fun c438 => False.elim (by omega), fun _ => ?_⟩
      refine kw_iconst hC dL_law_441 rfl ?_
      refine kw_goto (tgt := 446) hC dL_law_442 rfl (by decide) ?_
      refine kw_istore (lv' := [(4, _), (1, _), (3, _), (8, _), (9, _)]) hC dL_law_446 rfl (by decide) rfl ?_
      refine kw_iinc (lv' := [(9, _), (4, _), (1, _), (3, _), (8, _)]) hC dL_law_448 rfl 4 rfl (by decide) rfl ?_
      refine kw_goto (tgt := 411) hC dL_law_451 rfl (by decide) ?_
      refine kw_lv [2, 3, 1, 4, 0] rfl ?_
      exact ih (i + 1) S2 (by omega) (by omega) hI (by omega)
set_option maxHeartbeats 4000000 in
set_option maxRecDepth 100000 in
theorem law_230 {E : wE} {g : wG} (hC : Cx E g cL_law RL wsL_law 14 room_1) (hD : wD g) {MM : Nat → Nat → Int} {n : Nat} {d : Nat → Int} {R : List (Nat → Int)} (hE : EndL MM n R) (hd : Evn d MM n) (hB : mB MM) (hn : 1 ≤ n ∧ n ≤ 6) (hend : ∀ (S2 : wSt) (lv : List (Nat × Value)), Wk E g 14 S2 813 lv [vi 1]) {u v t : List Nat} (hu : ∀ i, i ∈ u → i < n) (hv : ∀ i, i ∈ v → i < n) (ht : ∀ i, i ∈ t → i < n) (lu : u.length ≤ 13) (lv9 : v.length ≤ 13) (lt : t.length ≤ 13) {S : wSt} (hI : L39 MM n (W3 u v t) S) : Wk E g 14 S 230 [(1, vr g 0 0), (3, vi (n : Int)), (4, vi 1), (5, vi (u.length : Int)), (6, vi (v.length : Int)), (7, vi (t.length : Int))] [] := by
  obtain ⟨F, hF, mF, sF, cF⟩ := fwP_mn hB hd hE (W := u.reverse ++ v) (fun i hi => by rcases List.mem_append.mp hi with z | z; exact hu i (List.mem_reverse.mp z); exact hv i z)
  obtain ⟨G, hG, mG, sG, cG⟩ := fwP_mn hB hd hE (W := v.reverse ++ u) (fun i hi => by rcases List.mem_append.mp hi with z | z; exact hv i (List.mem_reverse.mp z); exact hu i z)
  obtain ⟨F2, hF2, -⟩ := fwP_mn hB hd hE (W := F) mF.1
  obtain ⟨V, hV, -, -, cV⟩ := fwP_mn hB hd hE (W := v) hv
  have hUF : fwP MM n (u ++ F) = some V := cV _ (fun i hi => by rcases List.mem_append.mp hi with z | z; exact hu i z; exact mF.1 i z) (there_w hB sF)
  obtain ⟨N, hN, mN, sN, cN⟩ := fwP_mn hB hd hE (W := []) (fun i hi => (by cases hi))
  have hN0 : N.length = 0 := by have := mN.2 [] (fun i hi => (by cases hi)) (fun x => (sN x).symm); simp only [List.length_nil] at this; omega
  have hUU : fwP MM n (u.reverse ++ u) = some N := cN _ (fun i hi => by rcases List.mem_append.mp hi with z | z; exact hu i (List.mem_reverse.mp z); exact hu i z) (here_w hB)
  have hTU : fwP MM n ((t ++ u).reverse ++ (t ++ v)) = some F := cF _ (fun i hi => by rcases List.mem_append.mp hi with z | z; (rcases List.mem_append.mp (List.mem_reverse.mp z) with y | y; exact ht i y; exact hu i y); (rcases List.mem_append.mp z with y | y; exact ht i y; exact hv i y)) (third_w hB)
  have lF : F.length ≤ u.length + v.length := by have := mF.2 (u.reverse ++ v) (fun i hi => by rcases List.mem_append.mp hi with z | z; exact hu i (List.mem_reverse.mp z); exact hv i z) (fun x => (sF x).symm); simp only [List.length_append, List.length_reverse] at this; exact this
  have lG : G.length = F.length := (back_len hB mF sF mG sG).1
  obtain ⟨w, hw⟩ : ∃ w, w = W3 u v t := ⟨_, rfl⟩
  have h0 : w 0 = u := by rw [hw]; rfl
  have h1 : w 1 = v := by rw [hw]; rfl
  have h2 : w 2 = t := by rw [hw]; rfl
  rw [← hw] at hI
  refine kw_aload_n hC dL_law_230 rfl 0 rfl ?_
  refine kw_iconst hC dL_law_231 rfl ?_
  refine kw_iconst hC dL_law_232 rfl ?_
  refine kw_iconst hC dL_law_233 rfl ?_
  refine kw_callV hC (f_X7_way hD (by omega) (by omega) (by omega) hI.1) gL_law_X7_way ⟨_, rfl⟩ rfl (by decide) (by decide) rfl ⟨rfl, rfl⟩ 3 (by decide +kernel) ⟨by decide, by decide⟩ rfl rfl (Nat.le_of_ble_eq_true rfl) dL_law_234 rfl (kd_i ?_)
  rintro r S2 ⟨q1, q2, q3⟩
  rw [hI.2.1, hI.2.2.1, hI.2.2.2] at q3
  rw [way_e (by omega) (by omega) (by omega) h0 h1 (by omega) hF] at q3
  obtain ⟨hI2, er⟩ := hI.pr q1 q2 q3
  obtain ⟨w1, hw9⟩ : ∃ z, z = upw w 3 (F) := ⟨_, rfl⟩
  replace hI2 : L39 MM n w1 S2 := by rw [hw9]; exact hI2
  replace er : r = (F.length : Int) := er
  subst er
  replace h0 : w1 0 = u := by rw [hw9, upw_n _ _ (by decide)]; exact h0
  replace h1 : w1 1 = v := by rw [hw9, upw_n _ _ (by decide)]; exact h1
  replace h2 : w1 2 = t := by rw [hw9, upw_n _ _ (by decide)]; exact h2
  have h3 : w1 3 = F := by rw [hw9]; exact upw_s _ _ _
  replace hI := hI2
  clear hI2 q1 q2 q3 hw9
  refine kw_istore (lv' := [(8, _), (1, _), (3, _), (4, _), (5, _), (6, _), (7, _)]) hC dL_law_237 rfl (by decide) rfl ?_
  refine kw_iload hC dL_law_239 rfl 3 rfl ?_
  refine kw_if_eq (tgt := 405) hC dL_law_241 rfl (by decide) (by omega) ⟨fun c241 => False.elim (by omega), fun _ => ?_⟩
  refine kw_iload hC dL_law_244 rfl 0 rfl ?_
  refine kw_if_lt (tgt := 405) hC dL_law_246 rfl (by decide) (by omega) ⟨fun c246 => False.elim (by omega), fun _ => ?_⟩
  refine kw_iload hC dL_law_249 rfl 0 rfl ?_
  refine kw_aload_n hC dL_law_251 rfl 1 rfl ?_
  refine kw_iconst hC dL_law_252 rfl ?_
  refine kw_iconst hC dL_law_253 rfl ?_
  refine kw_callV hC (f_X7_at hD (by omega) (by omega) hI.1) gL_law_X7_at ⟨_, rfl⟩ rfl (by decide) (by decide) rfl ⟨rfl, rfl⟩ 2 (by decide +kernel) ⟨by decide, by decide⟩ rfl rfl (Nat.le_of_ble_eq_true rfl) dL_law_254 rfl (kd_i ?_)
  rintro r S2 ⟨q1, q2, q3⟩
  rw [hI.2.2.2] at q3
  rw [at_l (by omega) h3] at q3
  obtain ⟨hI2, er⟩ := hI.pr q1 q2 q3
  replace hI2 : L39 MM n w1 S2 := hI2
  replace er : r = (F.length : Int) := er
  subst er
  replace hI := hI2
  clear hI2 q1 q2 q3
  refine kw_icmp_ne (tgt := 405) hC dL_law_257 rfl (by decide) (by omega) (by omega) ⟨fun c257 => False.elim (by omega), fun _ => ?_⟩
  refine kw_aload_n hC dL_law_260 rfl 1 rfl ?_
  refine kw_iconst hC dL_law_261 rfl ?_
  refine kw_iconst hC dL_law_262 rfl ?_
  refine kw_callV hC (f_X7_back hD (by omega) (by omega) hI.1) gL_law_X7_back ⟨_, rfl⟩ rfl (by decide) (by decide) rfl ⟨rfl, rfl⟩ 2 (by decide +kernel) ⟨by decide, by decide⟩ rfl rfl (Nat.le_of_ble_eq_true rfl) dL_law_263 rfl (kd_i ?_)
  rintro r S2 ⟨q1, q2, q3⟩
  rw [hI.2.2.2] at q3
  rw [back_e (by omega) (by omega) h0] at q3
  obtain ⟨hI2, er⟩ := hI.pr q1 q2 q3
  obtain ⟨w3, hw9⟩ : ∃ z, z = upw w1 4 (u.reverse) := ⟨_, rfl⟩
  replace hI2 : L39 MM n w3 S2 := by rw [hw9]; exact hI2
  replace er : r = (u.reverse.length : Int) := er
  subst er
  replace h0 : w3 0 = u := by rw [hw9, upw_n _ _ (by decide)]; exact h0
  replace h1 : w3 1 = v := by rw [hw9, upw_n _ _ (by decide)]; exact h1
  replace h2 : w3 2 = t := by rw [hw9, upw_n _ _ (by decide)]; exact h2
  replace h3 : w3 3 = F := by rw [hw9, upw_n _ _ (by decide)]; exact h3
  have h4 : w3 4 = u.reverse := by rw [hw9]; exact upw_s _ _ _
  replace hI := hI2
  clear hI2 q1 q2 q3 hw9
  have lur : (u.reverse.length : Int) = u.length := by rw [List.length_reverse]
  refine kw_iload hC dL_law_266 rfl 4 rfl ?_
  refine kw_icmp_ne (tgt := 405) hC dL_law_268 rfl (by decide) (by omega) (by omega) ⟨fun c268 => False.elim (by omega), fun _ => ?_⟩
  refine kw_aload_n hC dL_law_271 rfl 1 rfl ?_
  refine kw_iconst hC dL_law_272 rfl ?_
  refine kw_iconst hC dL_law_273 rfl ?_
  refine kw_iconst hC dL_law_274 rfl ?_
  refine kw_callV hC (f_X7_times hD (by omega) (by omega) (by omega) hI.1) gL_law_X7_times ⟨_, rfl⟩ rfl (by decide) (by decide) rfl ⟨rfl, rfl⟩ 3 (by decide +kernel) ⟨by decide, by decide⟩ rfl rfl (Nat.le_of_ble_eq_true rfl) dL_law_275 rfl (kd_i ?_)
  rintro r S2 ⟨q1, q2, q3⟩
  rw [hI.2.2.2] at q3
  rw [times_e (by omega) (by omega) (by omega) h4 h1 (by rw [List.length_reverse]; omega)] at q3
  obtain ⟨hI2, er⟩ := hI.pr q1 q2 q3
  obtain ⟨w4, hw9⟩ : ∃ z, z = upw w3 4 (u.reverse ++ v) := ⟨_, rfl⟩
  replace hI2 : L39 MM n w4 S2 := by rw [hw9]; exact hI2
  replace er : r = ((u.reverse ++ v).length : Int) := er
  subst er
  replace h0 : w4 0 = u := by rw [hw9, upw_n _ _ (by decide)]; exact h0
  replace h1 : w4 1 = v := by rw [hw9, upw_n _ _ (by decide)]; exact h1
  replace h2 : w4 2 = t := by rw [hw9, upw_n _ _ (by decide)]; exact h2
  replace h3 : w4 3 = F := by rw [hw9, upw_n _ _ (by decide)]; exact h3
  have h4 : w4 4 = u.reverse ++ v := by rw [hw9]; exact upw_s _ _ _
  replace hI := hI2
  clear hI2 q1 q2 q3 hw9
  have luv : ((u.reverse ++ v).length : Int) = u.length + v.length := by rw [List.length_append, List.length_reverse]; omega
  refine kw_iload hC dL_law_278 rfl 4 rfl ?_
  refine kw_iload hC dL_law_280 rfl 5 rfl ?_
  refine kw_iadd hC dL_law_282 rfl ?_
  refine kw_icmp_ne (tgt := 405) hC dL_law_283 rfl (by decide) (by omega) (by omega) ⟨fun c283 => False.elim (by omega), fun _ => ?_⟩
  refine kw_aload_n hC dL_law_286 rfl 1 rfl ?_
  refine kw_iconst hC dL_law_287 rfl ?_
  refine kw_iconst hC dL_law_288 rfl ?_
  refine kw_callV hC (f_X7_form hD (by omega) (by omega) hI.1) gL_law_X7_form ⟨_, rfl⟩ rfl (by decide) (by decide) rfl ⟨rfl, rfl⟩ 2 (by decide +kernel) ⟨by decide, by decide⟩ rfl rfl (Nat.le_of_ble_eq_true rfl) dL_law_289 rfl (kd_i ?_)
  rintro r S2 ⟨q1, q2, q3⟩
  rw [hI.2.1, hI.2.2.1, hI.2.2.2] at q3
  rw [form_e (by omega) (by omega) h4 hF] at q3
  obtain ⟨hI2, er⟩ := hI.pr q1 q2 q3
  obtain ⟨w5, hw9⟩ : ∃ z, z = upw w4 4 (F) := ⟨_, rfl⟩
  replace hI2 : L39 MM n w5 S2 := by rw [hw9]; exact hI2
  replace er : r = (F.length : Int) := er
  subst er
  replace h0 : w5 0 = u := by rw [hw9, upw_n _ _ (by decide)]; exact h0
  replace h1 : w5 1 = v := by rw [hw9, upw_n _ _ (by decide)]; exact h1
  replace h2 : w5 2 = t := by rw [hw9, upw_n _ _ (by decide)]; exact h2
  replace h3 : w5 3 = F := by rw [hw9, upw_n _ _ (by decide)]; exact h3
  have h4 : w5 4 = F := by rw [hw9]; exact upw_s _ _ _
  replace hI := hI2
  clear hI2 q1 q2 q3 hw9
  refine kw_iload hC dL_law_292 rfl 0 rfl ?_
  refine kw_icmp_ne (tgt := 405) hC dL_law_294 rfl (by decide) (by omega) (by omega) ⟨fun c294 => False.elim (by omega), fun _ => ?_⟩
  refine kw_aload_n hC dL_law_297 rfl 1 rfl ?_
  refine kw_iconst hC dL_law_298 rfl ?_
  refine kw_iconst hC dL_law_299 rfl ?_
  refine kw_callV hC (f_X7_same hD (by omega) (by omega) hI.1) gL_law_X7_same ⟨_, rfl⟩ rfl (by decide) (by decide) rfl ⟨rfl, rfl⟩ 2 (by decide +kernel) ⟨by decide, by decide⟩ rfl rfl (Nat.le_of_ble_eq_true rfl) dL_law_300 rfl (kd_i ?_)
  rintro r S2 ⟨q1, q2, q3⟩
  rw [hI.2.1, hI.2.2.1, hI.2.2.2] at q3
  rw [same_e (by omega) (by omega) h3 h4 hF2 hF2] at q3
  obtain ⟨hI2, er⟩ := hI.pr q1 q2 q3
  replace hI2 : L39 MM n w5 S2 := hI2
  replace er : r = (1 : Int) := er
  subst er
  replace hI := hI2
  clear hI2 q1 q2 q3
  refine kw_iconst hC dL_law_303 rfl ?_
  refine kw_icmp_ne (tgt := 405) hC dL_law_304 rfl (by decide) (by omega) (by omega) ⟨fun c304 => False.elim (by omega), fun _ => ?_⟩
  refine kw_aload_n hC dL_law_307 rfl 1 rfl ?_
  refine kw_iconst hC dL_law_308 rfl ?_
  refine kw_iconst hC dL_law_309 rfl ?_
  refine kw_iconst hC dL_law_310 rfl ?_
  refine kw_callV hC (f_X7_times hD (by omega) (by omega) (by omega) hI.1) gL_law_X7_times ⟨_, rfl⟩ rfl (by decide) (by decide) rfl ⟨rfl, rfl⟩ 3 (by decide +kernel) ⟨by decide, by decide⟩ rfl rfl (Nat.le_of_ble_eq_true rfl) dL_law_311 rfl (kd_i ?_)
  rintro r S2 ⟨q1, q2, q3⟩
  rw [hI.2.2.2] at q3
  rw [times_e (by omega) (by omega) (by omega) h0 h3 (by omega)] at q3
  obtain ⟨hI2, er⟩ := hI.pr q1 q2 q3
  obtain ⟨w7, hw9⟩ : ∃ z, z = upw w5 5 (u ++ F) := ⟨_, rfl⟩
  replace hI2 : L39 MM n w7 S2 := by rw [hw9]; exact hI2
  replace er : r = ((u ++ F).length : Int) := er
  subst er
  replace h0 : w7 0 = u := by rw [hw9, upw_n _ _ (by decide)]; exact h0
  replace h1 : w7 1 = v := by rw [hw9, upw_n _ _ (by decide)]; exact h1
  replace h2 : w7 2 = t := by rw [hw9, upw_n _ _ (by decide)]; exact h2
  replace h3 : w7 3 = F := by rw [hw9, upw_n _ _ (by decide)]; exact h3
  replace h4 : w7 4 = F := by rw [hw9, upw_n _ _ (by decide)]; exact h4
  have h5 : w7 5 = u ++ F := by rw [hw9]; exact upw_s _ _ _
  replace hI := hI2
  clear hI2 q1 q2 q3 hw9
  have luF : ((u ++ F).length : Int) = u.length + F.length := by rw [List.length_append]; omega
  refine kw_iload hC dL_law_314 rfl 4 rfl ?_
  refine kw_iload hC dL_law_316 rfl 0 rfl ?_
  refine kw_iadd hC dL_law_318 rfl ?_
  refine kw_icmp_ne (tgt := 405) hC dL_law_319 rfl (by decide) (by omega) (by omega) ⟨fun c319 => False.elim (by omega), fun _ => ?_⟩
  refine kw_aload_n hC dL_law_322 rfl 1 rfl ?_
  refine kw_iconst hC dL_law_323 rfl ?_
  refine kw_iconst hC dL_law_324 rfl ?_
  refine kw_callV hC (f_X7_same hD (by omega) (by omega) hI.1) gL_law_X7_same ⟨_, rfl⟩ rfl (by decide) (by decide) rfl ⟨rfl, rfl⟩ 2 (by decide +kernel) ⟨by decide, by decide⟩ rfl rfl (Nat.le_of_ble_eq_true rfl) dL_law_325 rfl (kd_i ?_)
  rintro r S2 ⟨q1, q2, q3⟩
  rw [hI.2.1, hI.2.2.1, hI.2.2.2] at q3
  rw [same_e (by omega) (by omega) h5 h1 hUF hV] at q3
  obtain ⟨hI2, er⟩ := hI.pr q1 q2 q3
  replace hI2 : L39 MM n w7 S2 := hI2
  replace er : r = (1 : Int) := er
  subst er
  replace hI := hI2
  clear hI2 q1 q2 q3
  refine kw_iconst hC dL_law_328 rfl ?_
  refine kw_icmp_ne (tgt := 405) hC dL_law_329 rfl (by decide) (by omega) (by omega) ⟨fun c329 => False.elim (by omega), fun _ => ?_⟩
  refine kw_aload_n hC dL_law_332 rfl 1 rfl ?_
  refine kw_iconst hC dL_law_333 rfl ?_
  refine kw_iconst hC dL_law_334 rfl ?_
  refine kw_bipush hC dL_law_335 rfl (by decide) ?_
  refine kw_callV hC (f_X7_way hD (by omega) (by omega) (by omega) hI.1) gL_law_X7_way ⟨_, rfl⟩ rfl (by decide) (by decide) rfl ⟨rfl, rfl⟩ 3 (by decide +kernel) ⟨by decide, by decide⟩ rfl rfl (Nat.le_of_ble_eq_true rfl) dL_law_337 rfl (kd_i ?_)
  rintro r S2 ⟨q1, q2, q3⟩
  rw [hI.2.1, hI.2.2.1, hI.2.2.2] at q3
  rw [way_e (by omega) (by omega) (by omega) h1 h0 (by omega) hG] at q3
  obtain ⟨hI2, er⟩ := hI.pr q1 q2 q3
  obtain ⟨w9, hw9⟩ : ∃ z, z = upw w7 6 (G) := ⟨_, rfl⟩
  replace hI2 : L39 MM n w9 S2 := by rw [hw9]; exact hI2
  replace er : r = (G.length : Int) := er
  subst er
  replace h0 : w9 0 = u := by rw [hw9, upw_n _ _ (by decide)]; exact h0
  replace h1 : w9 1 = v := by rw [hw9, upw_n _ _ (by decide)]; exact h1
  replace h2 : w9 2 = t := by rw [hw9, upw_n _ _ (by decide)]; exact h2
  replace h3 : w9 3 = F := by rw [hw9, upw_n _ _ (by decide)]; exact h3
  replace h4 : w9 4 = F := by rw [hw9, upw_n _ _ (by decide)]; exact h4
  replace h5 : w9 5 = u ++ F := by rw [hw9, upw_n _ _ (by decide)]; exact h5
  have h6 : w9 6 = G := by rw [hw9]; exact upw_s _ _ _
  replace hI := hI2
  clear hI2 q1 q2 q3 hw9
  refine kw_iload hC dL_law_340 rfl 0 rfl ?_
  refine kw_icmp_ne (tgt := 405) hC dL_law_342 rfl (by decide) (by omega) (by omega) ⟨fun c342 => False.elim (by omega), fun _ => ?_⟩
  refine kw_aload_n hC dL_law_345 rfl 1 rfl ?_
  refine kw_iconst hC dL_law_346 rfl ?_
  refine kw_iconst hC dL_law_347 rfl ?_
  refine kw_bipush hC dL_law_348 rfl (by decide) ?_
  refine kw_callV hC (f_X7_way hD (by omega) (by omega) (by omega) hI.1) gL_law_X7_way ⟨_, rfl⟩ rfl (by decide) (by decide) rfl ⟨rfl, rfl⟩ 3 (by decide +kernel) ⟨by decide, by decide⟩ rfl rfl (Nat.le_of_ble_eq_true rfl) dL_law_350 rfl (kd_i ?_)
  rintro r S2 ⟨q1, q2, q3⟩
  rw [hI.2.1, hI.2.2.1, hI.2.2.2] at q3
  rw [way_e (by omega) (by omega) (by omega) h0 h0 (by omega) hUU] at q3
  obtain ⟨hI2, er⟩ := hI.pr q1 q2 q3
  obtain ⟨w10, hw9⟩ : ∃ z, z = upw w9 7 (N) := ⟨_, rfl⟩
  replace hI2 : L39 MM n w10 S2 := by rw [hw9]; exact hI2
  replace er : r = (N.length : Int) := er
  subst er
  replace h0 : w10 0 = u := by rw [hw9, upw_n _ _ (by decide)]; exact h0
  replace h1 : w10 1 = v := by rw [hw9, upw_n _ _ (by decide)]; exact h1
  replace h2 : w10 2 = t := by rw [hw9, upw_n _ _ (by decide)]; exact h2
  replace h3 : w10 3 = F := by rw [hw9, upw_n _ _ (by decide)]; exact h3
  replace h4 : w10 4 = F := by rw [hw9, upw_n _ _ (by decide)]; exact h4
  replace h5 : w10 5 = u ++ F := by rw [hw9, upw_n _ _ (by decide)]; exact h5
  replace h6 : w10 6 = G := by rw [hw9, upw_n _ _ (by decide)]; exact h6
  have h7 : w10 7 = N := by rw [hw9]; exact upw_s _ _ _
  replace hI := hI2
  clear hI2 q1 q2 q3 hw9
  refine kw_if_ne (tgt := 405) hC dL_law_353 rfl (by decide) (by omega) ⟨fun c353 => False.elim (by omega), fun _ => ?_⟩
  refine kw_aload_n hC dL_law_356 rfl 1 rfl ?_
  refine kw_iconst hC dL_law_357 rfl ?_
  refine kw_iconst hC dL_law_358 rfl ?_
  refine kw_iconst hC dL_law_359 rfl ?_
  refine kw_callV hC (f_X7_times hD (by omega) (by omega) (by omega) hI.1) gL_law_X7_times ⟨_, rfl⟩ rfl (by decide) (by decide) rfl ⟨rfl, rfl⟩ 3 (by decide +kernel) ⟨by decide, by decide⟩ rfl rfl (Nat.le_of_ble_eq_true rfl) dL_law_360 rfl (kd_i ?_)
  rintro r S2 ⟨q1, q2, q3⟩
  rw [hI.2.2.2] at q3
  rw [times_e (by omega) (by omega) (by omega) h2 h0 (by omega)] at q3
  obtain ⟨hI2, er⟩ := hI.pr q1 q2 q3
  obtain ⟨w11, hw9⟩ : ∃ z, z = upw w10 5 (t ++ u) := ⟨_, rfl⟩
  replace hI2 : L39 MM n w11 S2 := by rw [hw9]; exact hI2
  replace er : r = ((t ++ u).length : Int) := er
  subst er
  replace h0 : w11 0 = u := by rw [hw9, upw_n _ _ (by decide)]; exact h0
  replace h1 : w11 1 = v := by rw [hw9, upw_n _ _ (by decide)]; exact h1
  replace h2 : w11 2 = t := by rw [hw9, upw_n _ _ (by decide)]; exact h2
  replace h3 : w11 3 = F := by rw [hw9, upw_n _ _ (by decide)]; exact h3
  replace h4 : w11 4 = F := by rw [hw9, upw_n _ _ (by decide)]; exact h4
  replace h6 : w11 6 = G := by rw [hw9, upw_n _ _ (by decide)]; exact h6
  replace h7 : w11 7 = N := by rw [hw9, upw_n _ _ (by decide)]; exact h7
  have h5 : w11 5 = t ++ u := by rw [hw9]; exact upw_s _ _ _
  replace hI := hI2
  clear hI2 q1 q2 q3 hw9
  have ltu : ((t ++ u).length : Int) = t.length + u.length := by rw [List.length_append]; omega
  refine kw_iload hC dL_law_363 rfl 6 rfl ?_
  refine kw_iload hC dL_law_365 rfl 4 rfl ?_
  refine kw_iadd hC dL_law_367 rfl ?_
  refine kw_icmp_ne (tgt := 405) hC dL_law_368 rfl (by decide) (by omega) (by omega) ⟨fun c368 => False.elim (by omega), fun _ => ?_⟩
  refine kw_aload_n hC dL_law_371 rfl 1 rfl ?_
  refine kw_iconst hC dL_law_372 rfl ?_
  refine kw_iconst hC dL_law_373 rfl ?_
  refine kw_bipush hC dL_law_374 rfl (by decide) ?_
  refine kw_callV hC (f_X7_times hD (by omega) (by omega) (by omega) hI.1) gL_law_X7_times ⟨_, rfl⟩ rfl (by decide) (by decide) rfl ⟨rfl, rfl⟩ 3 (by decide +kernel) ⟨by decide, by decide⟩ rfl rfl (Nat.le_of_ble_eq_true rfl) dL_law_376 rfl (kd_i ?_)
  rintro r S2 ⟨q1, q2, q3⟩
  rw [hI.2.2.2] at q3
  rw [times_e (by omega) (by omega) (by omega) h2 h1 (by omega)] at q3
  obtain ⟨hI2, er⟩ := hI.pr q1 q2 q3
  obtain ⟨w12, hw9⟩ : ∃ z, z = upw w11 6 (t ++ v) := ⟨_, rfl⟩
  replace hI2 : L39 MM n w12 S2 := by rw [hw9]; exact hI2
  replace er : r = ((t ++ v).length : Int) := er
  subst er
  replace h0 : w12 0 = u := by rw [hw9, upw_n _ _ (by decide)]; exact h0
  replace h1 : w12 1 = v := by rw [hw9, upw_n _ _ (by decide)]; exact h1
  replace h2 : w12 2 = t := by rw [hw9, upw_n _ _ (by decide)]; exact h2
  replace h3 : w12 3 = F := by rw [hw9, upw_n _ _ (by decide)]; exact h3
  replace h4 : w12 4 = F := by rw [hw9, upw_n _ _ (by decide)]; exact h4
  replace h5 : w12 5 = t ++ u := by rw [hw9, upw_n _ _ (by decide)]; exact h5
  replace h7 : w12 7 = N := by rw [hw9, upw_n _ _ (by decide)]; exact h7
  have h6 : w12 6 = t ++ v := by rw [hw9]; exact upw_s _ _ _
  replace hI := hI2
  clear hI2 q1 q2 q3 hw9
  have ltv : ((t ++ v).length : Int) = t.length + v.length := by rw [List.length_append]; omega
  refine kw_iload hC dL_law_379 rfl 6 rfl ?_
  refine kw_iload hC dL_law_381 rfl 5 rfl ?_
  refine kw_iadd hC dL_law_383 rfl ?_
  refine kw_icmp_ne (tgt := 405) hC dL_law_384 rfl (by decide) (by omega) (by omega) ⟨fun c384 => False.elim (by omega), fun _ => ?_⟩
  refine kw_aload_n hC dL_law_387 rfl 1 rfl ?_
  refine kw_iconst hC dL_law_388 rfl ?_
  refine kw_bipush hC dL_law_389 rfl (by decide) ?_
  refine kw_bipush hC dL_law_391 rfl (by decide) ?_
  refine kw_callV hC (f_X7_way hD (by omega) (by omega) (by omega) hI.1) gL_law_X7_way ⟨_, rfl⟩ rfl (by decide) (by decide) rfl ⟨rfl, rfl⟩ 3 (by decide +kernel) ⟨by decide, by decide⟩ rfl rfl (Nat.le_of_ble_eq_true rfl) dL_law_393 rfl (kd_i ?_)
  rintro r S2 ⟨q1, q2, q3⟩
  rw [hI.2.1, hI.2.2.1, hI.2.2.2] at q3
  rw [way_e (by omega) (by omega) (by omega) h5 h6 (by simp only [List.length_append]; omega) hTU] at q3
  obtain ⟨hI2, er⟩ := hI.pr q1 q2 q3
  obtain ⟨w13, hw9⟩ : ∃ z, z = upw w12 7 (F) := ⟨_, rfl⟩
  replace hI2 : L39 MM n w13 S2 := by rw [hw9]; exact hI2
  replace er : r = (F.length : Int) := er
  subst er
  replace h0 : w13 0 = u := by rw [hw9, upw_n _ _ (by decide)]; exact h0
  replace h1 : w13 1 = v := by rw [hw9, upw_n _ _ (by decide)]; exact h1
  replace h2 : w13 2 = t := by rw [hw9, upw_n _ _ (by decide)]; exact h2
  replace h3 : w13 3 = F := by rw [hw9, upw_n _ _ (by decide)]; exact h3
  replace h4 : w13 4 = F := by rw [hw9, upw_n _ _ (by decide)]; exact h4
  replace h5 : w13 5 = t ++ u := by rw [hw9, upw_n _ _ (by decide)]; exact h5
  replace h6 : w13 6 = t ++ v := by rw [hw9, upw_n _ _ (by decide)]; exact h6
  have h7 : w13 7 = F := by rw [hw9]; exact upw_s _ _ _
  replace hI := hI2
  clear hI2 q1 q2 q3 hw9
  refine kw_iload hC dL_law_396 rfl 0 rfl ?_
  refine kw_icmp_ne (tgt := 405) hC dL_law_398 rfl (by decide) (by omega) (by omega) ⟨fun c398 => False.elim (by omega), fun _ => ?_⟩
  refine kw_iconst hC dL_law_401 rfl ?_
  refine kw_goto (tgt := 406) hC dL_law_402 rfl (by decide) ?_
  refine kw_istore (lv' := [(4, _), (8, _), (1, _), (3, _), (5, _), (6, _), (7, _)]) hC dL_law_406 rfl (by decide) rfl ?_
  refine kw_iconst hC dL_law_408 rfl ?_
  refine kw_istore (lv' := [(9, _), (4, _), (8, _), (1, _), (3, _), (5, _), (6, _), (7, _)]) hC dL_law_409 rfl (by decide) rfl ?_
  refine kw_lv [3, 4, 1, 2, 0] rfl ?_
  exact law_411 hC hD (u := u) (v := v) (F := F) (G := G) (w := w13) ⟨⟨hE, hd, hB, hn⟩, ⟨hu, hv, by omega⟩, ⟨h0, h1⟩, ⟨hF, mF, sF⟩, ⟨hG, mG, sG⟩⟩ hend h7 h3 (F.length + 1) 0 S2 (by omega) (by omega) hI (by omega)
set_option maxHeartbeats 4000000 in
set_option maxRecDepth 100000 in
theorem law_186 {E : wE} {g : wG} (hC : Cx E g cL_law RL wsL_law 14 room_1) {b L : Nat} {xs : Nat → Int32} (hX : Lx E b L xs) (hLs : L < 2147483648) (hD : wD g) {MM : Nat → Nat → Int} {n : Nat} {d : Nat → Int} {R : List (Nat → Int)} (hE : EndL MM n R) (hd : Evn d MM n) (hB : mB MM) (hn : 1 ≤ n ∧ n ≤ 6) (hend : ∀ (S2 : wSt) (lv : List (Nat × Value)), Wk E g 14 S2 813 lv [vi 1]) {N K T : Int} (hN : 0 ≤ N ∧ N ≤ 13) (hK : 0 ≤ K ∧ K ≤ 13) (hT : 0 ≤ T ∧ T ≤ 13) {u v : List Nat} (hu : ∀ j, j ∈ u → j < n) (hv : ∀ j, j ∈ v → j < n) (hu1 : (u.length : Int) = N) (hv1 : (v.length : Int) = K) : ∀ (f : Nat) (i : Int) (z : List Nat) (S : wSt), (z.length : Int) = i → i ≤ T → (∀ j, j ∈ z → j < n) → L39 MM n (W3 u v z) S → T - i < (f : Int) → Wk E g 14 S 186 [(0, .ref b), (1, vr g 0 0), (3, vi (n : Int)), (4, vi 1), (5, vi N), (6, vi K), (7, vi T), (8, vi i)] [] := by
  intro f
  induction f with
  | zero => intro i z S hz i1 hl hI hf; exact absurd hf (by omega)
  | succ f ih =>
    intro i z S hz i1 hl hI hf
    refine kw_iload hC dL_law_186 rfl 7 rfl ?_
    refine kw_iload hC dL_law_188 rfl 6 rfl ?_
    refine kw_icmp_ge (tgt := 230) hC dL_law_190 rfl (by decide) (by omega) (by omega) ⟨fun c190 => ?_, fun c190 => ?_⟩
    · obtain rfl : i = T := by omega
      refine kw_lv [1, 2, 3, 4, 5, 6] rfl ?_
      subst hu1 hv1 hz
      exact law_230 hC hD hE hd hB hn hend hu hv hl (by omega) (by omega) (by omega) hI
    · refine kw_iload hC dL_law_193 rfl 3 rfl ?_
      refine kw_if_eq (tgt := 221) hC dL_law_195 rfl (by decide) (by omega) ⟨fun c195 => False.elim (by omega), fun _ => ?_⟩
      refine kw_aload_n hC dL_law_198 rfl 1 rfl ?_
      refine kw_iconst hC dL_law_199 rfl ?_
      refine kw_rload_n hC dL_law_200 rfl 0 rfl ?_
      refine kw_bipush hC dL_law_201 rfl (by decide) ?_
      refine kw_iload hC dL_law_203 rfl 7 rfl ?_
      refine kw_iadd hC dL_law_205 rfl ?_
      refine kw_callSS hC hX (d_L_cell hD hLs (by omega)) gL_law_L_cell rfl ⟨rfl, rfl⟩ 2 (by decide +kernel) ⟨by decide, by decide⟩ rfl rfl (Nat.le_of_ble_eq_true rfl) dL_law_206 rfl (kd_i ?_)
      rintro r S2 ⟨hr9, rfl⟩
      have hmo : 0 ≤ r % (n : Int) ∧ r % (n : Int) < n := ⟨Int.emod_nonneg _ (by omega), Int.emod_lt_of_pos _ (by omega)⟩
      refine kw_iload_n hC dL_law_209 rfl 2 rfl ?_
      refine kw_irem hC dL_law_210 rfl (by omega) (by omega) ?_
      refine kw_callV hC (f_X7_put hD (by omega) (by omega) hI.1) gL_law_X7_put ⟨_, rfl⟩ rfl (by decide) (by decide) rfl ⟨rfl, rfl⟩ 2 (by decide +kernel) ⟨by decide, by decide⟩ rfl rfl (Nat.le_of_ble_eq_true rfl) dL_law_211 rfl (kd_i ?_)
      rintro r2 S3 ⟨q1, q2, q3⟩
      rw [hI.2.2.1, hI.2.2.2] at q3
      rw [put_e (by omega) ⟨by omega, by omega⟩ (by show z.length < 100; omega)] at q3
      obtain ⟨hI2, er⟩ := hI.pr q1 q2 q3
      replace er : r2 = (z.length : Int) + 1 := er
      subst er
      replace hI2 : L39 MM n (W3 u v (z ++ [(r % (n : Int)).toNat])) S3 := by rw [← W3_2 u v z _]; exact hI2
      refine kw_if_le (tgt := 221) hC dL_law_214 rfl (by decide) (by omega) ⟨fun c214 => False.elim (by omega), fun _ => ?_⟩
      refine kw_iconst hC dL_law_217 rfl ?_
      refine kw_goto (tgt := 222) hC dL_law_218 rfl (by decide) ?_
      refine kw_istore (lv' := [(4, _), (0, _), (1, _), (3, _), (5, _), (6, _), (7, _), (8, _)]) hC dL_law_222 rfl (by decide) rfl ?_
      refine kw_iinc (lv' := [(8, _), (4, _), (0, _), (1, _), (3, _), (5, _), (6, _), (7, _)]) hC dL_law_224 rfl 7 rfl (by decide) rfl ?_
      refine kw_goto (tgt := 186) hC dL_law_227 rfl (by decide) ?_
      refine kw_lv [2, 3, 4, 1, 5, 6, 7, 0] rfl ?_
      exact ih (i + 1) (z ++ [(r % (n : Int)).toNat]) S3 (by rw [List.length_append, List.length_cons, List.length_nil]; omega) (by omega) (fun j hj => by rcases List.mem_append.mp hj with q | q; exact hl j q; (rw [List.mem_singleton.mp q]; omega)) hI2 (by omega)
set_option maxHeartbeats 4000000 in
set_option maxRecDepth 100000 in
theorem law_139 {E : wE} {g : wG} (hC : Cx E g cL_law RL wsL_law 14 room_1) {b L : Nat} {xs : Nat → Int32} (hX : Lx E b L xs) (hLs : L < 2147483648) (hD : wD g) {MM : Nat → Nat → Int} {n : Nat} {d : Nat → Int} {R : List (Nat → Int)} (hE : EndL MM n R) (hd : Evn d MM n) (hB : mB MM) (hn : 1 ≤ n ∧ n ≤ 6) (hend : ∀ (S2 : wSt) (lv : List (Nat × Value)), Wk E g 14 S2 813 lv [vi 1]) {N K T : Int} (hN : 0 ≤ N ∧ N ≤ 13) (hK : 0 ≤ K ∧ K ≤ 13) (hT : 0 ≤ T ∧ T ≤ 13) {u : List Nat} (hu : ∀ j, j ∈ u → j < n) (hu1 : (u.length : Int) = N) : ∀ (f : Nat) (i : Int) (z : List Nat) (S : wSt), (z.length : Int) = i → i ≤ K → (∀ j, j ∈ z → j < n) → L39 MM n (W3 u z []) S → K - i < (f : Int) → Wk E g 14 S 139 [(0, .ref b), (1, vr g 0 0), (3, vi (n : Int)), (4, vi 1), (5, vi N), (6, vi K), (7, vi T), (8, vi i)] [] := by
  intro f
  induction f with
  | zero => intro i z S hz i1 hl hI hf; exact absurd hf (by omega)
  | succ f ih =>
    intro i z S hz i1 hl hI hf
    refine kw_iload hC dL_law_139 rfl 7 rfl ?_
    refine kw_iload hC dL_law_141 rfl 5 rfl ?_
    refine kw_icmp_ge (tgt := 183) hC dL_law_143 rfl (by decide) (by omega) (by omega) ⟨fun c143 => ?_, fun c143 => ?_⟩
    · obtain rfl : i = K := by omega
      refine kw_iconst hC dL_law_183 rfl ?_
      refine kw_istore (lv' := [(8, _), (0, _), (1, _), (3, _), (4, _), (5, _), (6, _), (7, _)]) hC dL_law_184 rfl (by decide) rfl ?_
      refine kw_lv [1, 2, 3, 4, 5, 6, 7, 0] rfl ?_
      exact law_186 hC hX hLs hD hE hd hB hn hend hN hK hT hu hl hu1 hz 14 0 [] S rfl (by omega) (fun j hj => (by cases hj)) hI (by omega)
    · refine kw_iload hC dL_law_146 rfl 3 rfl ?_
      refine kw_if_eq (tgt := 174) hC dL_law_148 rfl (by decide) (by omega) ⟨fun c148 => False.elim (by omega), fun _ => ?_⟩
      refine kw_aload_n hC dL_law_151 rfl 1 rfl ?_
      refine kw_iconst hC dL_law_152 rfl ?_
      refine kw_rload_n hC dL_law_153 rfl 0 rfl ?_
      refine kw_bipush hC dL_law_154 rfl (by decide) ?_
      refine kw_iload hC dL_law_156 rfl 7 rfl ?_
      refine kw_iadd hC dL_law_158 rfl ?_
      refine kw_callSS hC hX (d_L_cell hD hLs (by omega)) gL_law_L_cell rfl ⟨rfl, rfl⟩ 2 (by decide +kernel) ⟨by decide, by decide⟩ rfl rfl (Nat.le_of_ble_eq_true rfl) dL_law_159 rfl (kd_i ?_)
      rintro r S2 ⟨hr9, rfl⟩
      have hmo : 0 ≤ r % (n : Int) ∧ r % (n : Int) < n := ⟨Int.emod_nonneg _ (by omega), Int.emod_lt_of_pos _ (by omega)⟩
      refine kw_iload_n hC dL_law_162 rfl 2 rfl ?_
      refine kw_irem hC dL_law_163 rfl (by omega) (by omega) ?_
      refine kw_callV hC (f_X7_put hD (by omega) (by omega) hI.1) gL_law_X7_put ⟨_, rfl⟩ rfl (by decide) (by decide) rfl ⟨rfl, rfl⟩ 2 (by decide +kernel) ⟨by decide, by decide⟩ rfl rfl (Nat.le_of_ble_eq_true rfl) dL_law_164 rfl (kd_i ?_)
      rintro r2 S3 ⟨q1, q2, q3⟩
      rw [hI.2.2.1, hI.2.2.2] at q3
      rw [put_e (by omega) ⟨by omega, by omega⟩ (by show z.length < 100; omega)] at q3
      obtain ⟨hI2, er⟩ := hI.pr q1 q2 q3
      replace er : r2 = (z.length : Int) + 1 := er
      subst er
      replace hI2 : L39 MM n (W3 u (z ++ [(r % (n : Int)).toNat]) []) S3 := by rw [← W3_1 u z [] _]; exact hI2
      refine kw_if_le (tgt := 174) hC dL_law_167 rfl (by decide) (by omega) ⟨fun c167 => False.elim (by omega), fun _ => ?_⟩
      refine kw_iconst hC dL_law_170 rfl ?_
      refine kw_goto (tgt := 175) hC dL_law_171 rfl (by decide) ?_
      refine kw_istore (lv' := [(4, _), (0, _), (1, _), (3, _), (5, _), (6, _), (7, _), (8, _)]) hC dL_law_175 rfl (by decide) rfl ?_
      refine kw_iinc (lv' := [(8, _), (4, _), (0, _), (1, _), (3, _), (5, _), (6, _), (7, _)]) hC dL_law_177 rfl 7 rfl (by decide) rfl ?_
      refine kw_goto (tgt := 139) hC dL_law_180 rfl (by decide) ?_
      refine kw_lv [2, 3, 4, 1, 5, 6, 7, 0] rfl ?_
      exact ih (i + 1) (z ++ [(r % (n : Int)).toNat]) S3 (by rw [List.length_append, List.length_cons, List.length_nil]; omega) (by omega) (fun j hj => by rcases List.mem_append.mp hj with q | q; exact hl j q; (rw [List.mem_singleton.mp q]; omega)) hI2 (by omega)
set_option maxHeartbeats 4000000 in
set_option maxRecDepth 100000 in
theorem law_93 {E : wE} {g : wG} (hC : Cx E g cL_law RL wsL_law 14 room_1) {b L : Nat} {xs : Nat → Int32} (hX : Lx E b L xs) (hLs : L < 2147483648) (hD : wD g) {MM : Nat → Nat → Int} {n : Nat} {d : Nat → Int} {R : List (Nat → Int)} (hE : EndL MM n R) (hd : Evn d MM n) (hB : mB MM) (hn : 1 ≤ n ∧ n ≤ 6) (hend : ∀ (S2 : wSt) (lv : List (Nat × Value)), Wk E g 14 S2 813 lv [vi 1]) {N K T : Int} (hN : 0 ≤ N ∧ N ≤ 13) (hK : 0 ≤ K ∧ K ≤ 13) (hT : 0 ≤ T ∧ T ≤ 13) : ∀ (f : Nat) (i : Int) (z : List Nat) (S : wSt), (z.length : Int) = i → i ≤ N → (∀ j, j ∈ z → j < n) → L39 MM n (W3 z [] []) S → N - i < (f : Int) → Wk E g 14 S 93 [(0, .ref b), (1, vr g 0 0), (3, vi (n : Int)), (4, vi 1), (5, vi N), (6, vi K), (7, vi T), (8, vi i)] [] := by
  intro f
  induction f with
  | zero => intro i z S hz i1 hl hI hf; exact absurd hf (by omega)
  | succ f ih =>
    intro i z S hz i1 hl hI hf
    refine kw_iload hC dL_law_93 rfl 7 rfl ?_
    refine kw_iload hC dL_law_95 rfl 4 rfl ?_
    refine kw_icmp_ge (tgt := 136) hC dL_law_97 rfl (by decide) (by omega) (by omega) ⟨fun c97 => ?_, fun c97 => ?_⟩
    · obtain rfl : i = N := by omega
      refine kw_iconst hC dL_law_136 rfl ?_
      refine kw_istore (lv' := [(8, _), (0, _), (1, _), (3, _), (4, _), (5, _), (6, _), (7, _)]) hC dL_law_137 rfl (by decide) rfl ?_
      refine kw_lv [1, 2, 3, 4, 5, 6, 7, 0] rfl ?_
      exact law_139 hC hX hLs hD hE hd hB hn hend hN hK hT hl hz 14 0 [] S rfl (by omega) (fun j hj => (by cases hj)) hI (by omega)
    · refine kw_iload hC dL_law_100 rfl 3 rfl ?_
      refine kw_if_eq (tgt := 127) hC dL_law_102 rfl (by decide) (by omega) ⟨fun c102 => False.elim (by omega), fun _ => ?_⟩
      refine kw_aload_n hC dL_law_105 rfl 1 rfl ?_
      refine kw_iconst hC dL_law_106 rfl ?_
      refine kw_rload_n hC dL_law_107 rfl 0 rfl ?_
      refine kw_iconst hC dL_law_108 rfl ?_
      refine kw_iload hC dL_law_109 rfl 7 rfl ?_
      refine kw_iadd hC dL_law_111 rfl ?_
      refine kw_callSS hC hX (d_L_cell hD hLs (by omega)) gL_law_L_cell rfl ⟨rfl, rfl⟩ 2 (by decide +kernel) ⟨by decide, by decide⟩ rfl rfl (Nat.le_of_ble_eq_true rfl) dL_law_112 rfl (kd_i ?_)
      rintro r S2 ⟨hr9, rfl⟩
      have hmo : 0 ≤ r % (n : Int) ∧ r % (n : Int) < n := ⟨Int.emod_nonneg _ (by omega), Int.emod_lt_of_pos _ (by omega)⟩
      refine kw_iload_n hC dL_law_115 rfl 2 rfl ?_
      refine kw_irem hC dL_law_116 rfl (by omega) (by omega) ?_
      refine kw_callV hC (f_X7_put hD (by omega) (by omega) hI.1) gL_law_X7_put ⟨_, rfl⟩ rfl (by decide) (by decide) rfl ⟨rfl, rfl⟩ 2 (by decide +kernel) ⟨by decide, by decide⟩ rfl rfl (Nat.le_of_ble_eq_true rfl) dL_law_117 rfl (kd_i ?_)
      rintro r2 S3 ⟨q1, q2, q3⟩
      rw [hI.2.2.1, hI.2.2.2] at q3
      rw [put_e (by omega) ⟨by omega, by omega⟩ (by show z.length < 100; omega)] at q3
      obtain ⟨hI2, er⟩ := hI.pr q1 q2 q3
      replace er : r2 = (z.length : Int) + 1 := er
      subst er
      replace hI2 : L39 MM n (W3 (z ++ [(r % (n : Int)).toNat]) [] []) S3 := by rw [← W3_0 z [] [] _]; exact hI2
      refine kw_if_le (tgt := 127) hC dL_law_120 rfl (by decide) (by omega) ⟨fun c120 => False.elim (by omega), fun _ => ?_⟩
      refine kw_iconst hC dL_law_123 rfl ?_
      refine kw_goto (tgt := 128) hC dL_law_124 rfl (by decide) ?_
      refine kw_istore (lv' := [(4, _), (0, _), (1, _), (3, _), (5, _), (6, _), (7, _), (8, _)]) hC dL_law_128 rfl (by decide) rfl ?_
      refine kw_iinc (lv' := [(8, _), (4, _), (0, _), (1, _), (3, _), (5, _), (6, _), (7, _)]) hC dL_law_130 rfl 7 rfl (by decide) rfl ?_
      refine kw_goto (tgt := 93) hC dL_law_133 rfl (by decide) ?_
      refine kw_lv [2, 3, 4, 1, 5, 6, 7, 0] rfl ?_
      exact ih (i + 1) (z ++ [(r % (n : Int)).toNat]) S3 (by rw [List.length_append, List.length_cons, List.length_nil]; omega) (by omega) (fun j hj => by rcases List.mem_append.mp hj with q | q; exact hl j q; (rw [List.mem_singleton.mp q]; omega)) hI2 (by omega)
set_option maxHeartbeats 4000000 in
set_option maxRecDepth 100000 in
theorem law_8 {E : wE} {g : wG} {b L : Nat} {xs : Nat → Int32} (hC : Cx E g cL_law RL wsL_law 14 room_1) (hX : Lx E b L xs) (hLs : L < 2147483648) (hD : wD g) {S : wSt} (h0 : SX 0 (fun _ _ => 0) S) (hend : ∀ (S2 : wSt) (lv : List (Nat × Value)), Wk E g 14 S2 813 lv [vi 1]) : Wk E g 14 S 8 [(1, vr g 0 0), (0, .ref b)] [] := by
  have k45 : ∀ s x : Int, (0 ≤ s ∧ s ≤ 5) → (1 ≤ x ∧ x ≤ 5) → (s = 2 → 3 ≤ x) → Wk E g 14 S 45 [(0, .ref b), (1, vr g 0 0), (2, vi s)] [vi x, vi s, vr g 0 0] := by
    intro s x hs hx h2
    refine kw_callS hC (d_L_sets hD hs hx h2 h0) gL_law_L_sets rfl ⟨rfl, rfl⟩ 3 (by decide +kernel) ⟨by decide, by decide⟩ rfl rfl (Nat.le_of_ble_eq_true rfl) dL_law_45 rfl (kd_i ?_)
    rintro r S1 ⟨rfl, hS⟩
    have hok := OkS.of hs hx h2
    obtain ⟨hk, d, R, hd, hE⟩ := hS.end' hok
    have hm1 := hok.2.1
    rw [← hk] at hm1 ⊢
    have hI : L39 (kM S1) (kn S1) (W3 [] [] []) S1 := ⟨hS.1, rfl, rfl, hS.2.1.trans W3_e⟩
    have hB := hS.1.mB
    generalize kM S1 = MM at *
    generalize kn S1 = n at *
    refine kw_istore_n (lv' := [(3, _), (0, _), (1, _), (2, _)]) hC dL_law_48 rfl (by decide) rfl ?_
    refine kw_iload_n hC dL_law_49 rfl 0 rfl ?_
    refine kw_if_le (tgt := 57) hC dL_law_50 rfl (by decide) (by omega) ⟨fun c50 => False.elim (by omega), fun _ => ?_⟩
    refine kw_iconst hC dL_law_53 rfl ?_
    refine kw_goto (tgt := 58) hC dL_law_54 rfl (by decide) ?_
    refine kw_istore (lv' := [(4, _), (3, _), (0, _), (1, _), (2, _)]) hC dL_law_58 rfl (by decide) rfl ?_
    refine kw_rload_n hC dL_law_60 rfl 2 rfl ?_
    refine kw_iconst hC dL_law_61 rfl ?_
    refine kw_callSS hC hX (d_L_cell hD hLs (by omega)) gL_law_L_cell rfl ⟨rfl, rfl⟩ 2 (by decide +kernel) ⟨by decide, by decide⟩ rfl rfl (Nat.le_of_ble_eq_true rfl) dL_law_62 rfl (kd_i ?_)
    rintro a S9 ⟨ha, rfl⟩
    have hma : 0 ≤ a % 14 ∧ a % 14 < 14 := ⟨Int.emod_nonneg _ (by omega), Int.emod_lt_of_pos _ (by omega)⟩
    refine kw_bipush hC dL_law_65 rfl (by decide) ?_
    refine kw_irem hC dL_law_67 rfl (by omega) (by omega) ?_
    refine kw_istore (lv' := [(5, _), (4, _), (3, _), (0, _), (1, _), (2, _)]) hC dL_law_68 rfl (by decide) rfl ?_
    refine kw_rload_n hC dL_law_70 rfl 3 rfl ?_
    refine kw_iconst hC dL_law_71 rfl ?_
    refine kw_callSS hC hX (d_L_cell hD hLs (by omega)) gL_law_L_cell rfl ⟨rfl, rfl⟩ 2 (by decide +kernel) ⟨by decide, by decide⟩ rfl rfl (Nat.le_of_ble_eq_true rfl) dL_law_72 rfl (kd_i ?_)
    rintro c S9 ⟨hc, rfl⟩
    have hmc : 0 ≤ c % 14 ∧ c % 14 < 14 := ⟨Int.emod_nonneg _ (by omega), Int.emod_lt_of_pos _ (by omega)⟩
    refine kw_bipush hC dL_law_75 rfl (by decide) ?_
    refine kw_irem hC dL_law_77 rfl (by omega) (by omega) ?_
    refine kw_istore (lv' := [(6, _), (5, _), (4, _), (3, _), (0, _), (1, _), (2, _)]) hC dL_law_78 rfl (by decide) rfl ?_
    refine kw_rload_n hC dL_law_80 rfl 4 rfl ?_
    refine kw_iconst hC dL_law_81 rfl ?_
    refine kw_callSS hC hX (d_L_cell hD hLs (by omega)) gL_law_L_cell rfl ⟨rfl, rfl⟩ 2 (by decide +kernel) ⟨by decide, by decide⟩ rfl rfl (Nat.le_of_ble_eq_true rfl) dL_law_82 rfl (kd_i ?_)
    rintro e S9 ⟨he, rfl⟩
    have hme : 0 ≤ e % 14 ∧ e % 14 < 14 := ⟨Int.emod_nonneg _ (by omega), Int.emod_lt_of_pos _ (by omega)⟩
    refine kw_bipush hC dL_law_85 rfl (by decide) ?_
    refine kw_irem hC dL_law_87 rfl (by omega) (by omega) ?_
    refine kw_istore (lv' := [(7, _), (6, _), (5, _), (4, _), (3, _), (0, _), (1, _), (2, _)]) hC dL_law_88 rfl (by decide) rfl ?_
    refine kw_iconst hC dL_law_90 rfl ?_
    refine kw_istore (lv' := [(8, _), (7, _), (6, _), (5, _), (4, _), (3, _), (0, _), (1, _), (2, _)]) hC dL_law_91 rfl (by decide) rfl ?_
    refine kw_lv [6, 7, 5, 4, 3, 2, 1, 0] rfl ?_
    exact law_93 hC hX hLs hD hE hd hB (by omega) hend (by omega) (by omega) (by omega) 14 0 [] _ rfl (by omega) (fun j hj => (by cases hj)) hI (by omega)
  refine kw_rload_n hC dL_law_8 rfl 1 rfl ?_
  refine kw_iconst hC dL_law_9 rfl ?_
  refine kw_callSS hC hX (d_L_cell hD hLs (by omega)) gL_law_L_cell rfl ⟨rfl, rfl⟩ 2 (by decide +kernel) ⟨by decide, by decide⟩ rfl rfl (Nat.le_of_ble_eq_true rfl) dL_law_10 rfl (kd_i ?_)
  rintro s S9 ⟨hs, rfl⟩
  have hms : 0 ≤ s % 6 ∧ s % 6 < 6 := ⟨Int.emod_nonneg _ (by omega), Int.emod_lt_of_pos _ (by omega)⟩
  refine kw_bipush hC dL_law_13 rfl (by decide) ?_
  refine kw_irem hC dL_law_15 rfl (by omega) (by omega) ?_
  refine kw_istore_n (lv' := [(2, _), (1, _), (0, _)]) hC dL_law_16 rfl (by decide) rfl ?_
  refine kw_aload_n hC dL_law_17 rfl 1 rfl ?_
  refine kw_iload_n hC dL_law_18 rfl 0 rfl ?_
  refine kw_iload_n hC dL_law_19 rfl 0 rfl ?_
  refine kw_iconst hC dL_law_20 rfl ?_
  refine kw_icmp_ne (tgt := 36) hC dL_law_21 rfl (by decide) (by omega) (by omega) ⟨fun c21 => ?_, fun c21 => ?_⟩
  · refine kw_iconst hC dL_law_36 rfl ?_
    refine kw_rload_n hC dL_law_37 rfl 2 rfl ?_
    refine kw_iconst hC dL_law_38 rfl ?_
    refine kw_callSS hC hX (d_L_cell hD hLs (by omega)) gL_law_L_cell rfl ⟨rfl, rfl⟩ 2 (by decide +kernel) ⟨by decide, by decide⟩ rfl rfl (Nat.le_of_ble_eq_true rfl) dL_law_39 rfl (kd_i ?_)
    rintro x S9 ⟨hx, rfl⟩
    have hmx : 0 ≤ x % 5 ∧ x % 5 < 5 := ⟨Int.emod_nonneg _ (by omega), Int.emod_lt_of_pos _ (by omega)⟩
    refine kw_iconst hC dL_law_42 rfl ?_
    refine kw_irem hC dL_law_43 rfl (by omega) (by omega) ?_
    refine kw_iadd hC dL_law_44 rfl ?_
    refine kw_lv [2, 1, 0] rfl ?_
    exact k45 _ _ (by omega) (by omega) (fun q => by omega)
  · refine kw_iconst hC dL_law_24 rfl ?_
    refine kw_rload_n hC dL_law_25 rfl 2 rfl ?_
    refine kw_iconst hC dL_law_26 rfl ?_
    refine kw_callSS hC hX (d_L_cell hD hLs (by omega)) gL_law_L_cell rfl ⟨rfl, rfl⟩ 2 (by decide +kernel) ⟨by decide, by decide⟩ rfl rfl (Nat.le_of_ble_eq_true rfl) dL_law_27 rfl (kd_i ?_)
    rintro x S9 ⟨hx, rfl⟩
    have hmx : 0 ≤ x % 3 ∧ x % 3 < 3 := ⟨Int.emod_nonneg _ (by omega), Int.emod_lt_of_pos _ (by omega)⟩
    refine kw_iconst hC dL_law_30 rfl ?_
    refine kw_irem hC dL_law_31 rfl (by omega) (by omega) ?_
    refine kw_iadd hC dL_law_32 rfl ?_
    refine kw_goto (tgt := 45) hC dL_law_33 rfl (by decide) ?_
    refine kw_lv [2, 1, 0] rfl ?_
    exact k45 _ _ (by omega) (by omega) (fun q => by omega)
end
