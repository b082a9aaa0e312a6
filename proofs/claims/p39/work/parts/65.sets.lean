section
set_option maxHeartbeats 4000000 in
set_option maxRecDepth 100000 in
theorem d_L_sets {g : wG} (hD : wD g) {S : wSt} {s n : Int} (hs : 0 ≤ s ∧ s ≤ 5) (hn : 1 ≤ n ∧ n ≤ 5) (h2 : s = 2 → 3 ≤ n) (h0 : SX 0 (fun _ _ => 0) S) (l : Launch) : Kt l yL_sets wsL_sets ({ frames := 4, cells := 0, slots := 0, locals := 96 } : Room) g S [vr g 0 0, vi s, vi n] (pI (fun r S' => r = mS s n ∧ SX (mS s n) (MS s (mS s n)) S')) := by
  refine Kt.of (cc := cL_sets) (nL := 9) (ret := some .int) (own := RL) rfl hD (by decide) rfl (Nat.le_of_ble_eq_true rfl) ⟨rfl, rfl⟩ ?_
  intro E hC hR9
  show Wk E g 9 S 0 [(0, vr g 0 0), (1, vi s), (2, vi n)] []
  have hok := OkS.of hs hn h2
  obtain ⟨m, hm⟩ : ∃ m, m = mS s n := ⟨_, rfl⟩
  rw [← hm] at hok
  rw [← hm] at hR9
  have hok9 := hok
  obtain ⟨-, hm1, ho1, ho2, ho3, ho4, ho5⟩ := hok9
  have hch : 1 ≤ chS s m ∧ chS s m ≤ m := by unfold chS; split; omega; split <;> omega
  have k284 : ∀ S1, SX m (MS s m) S1 → Wk E g 9 S1 284 [(3, vi m), (4, vi 1)] [] := by
    intro S1 hI
    refine kw_iload hC dL_sets_284 rfl 1 rfl ?_
    refine kw_if_eq (tgt := 293) hC dL_sets_286 rfl (by decide) (by omega) ⟨fun c286 => False.elim (by omega), fun _ => ?_⟩
    refine kw_iload_n hC dL_sets_289 rfl 0 rfl ?_
    refine kw_goto (tgt := 294) hC dL_sets_290 rfl (by decide) ?_
    exact hR9.1 rfl _ _ _ _ dL_sets_294 ⟨_, rfl, rfl, hI⟩
  have k255 : ∀ S1, SX m (QS s m) S1 → Wk E g 9 S1 255 [(0, vr g 0 0), (1, vi s), (3, vi m), (4, vi 1)] [] := by
    intro S1 hI
    refine kw_iload_n hC dL_sets_255 rfl 1 rfl ?_
    refine kw_iconst hC dL_sets_256 rfl ?_
    refine kw_icmp_ne (tgt := 284) hC dL_sets_257 rfl (by decide) (by omega) (by omega) ⟨fun c257 => ?_, fun c257 => ?_⟩
    · refine kw_lv [2, 3] rfl ?_
      exact k284 S1 (hI.cg (fun i j _ _ _ _ => by unfold MS; rw [if_neg (fun q => c257 q.1)]))
    · have c257 : s = 5 := by omega
      refine kw_iload hC dL_sets_260 rfl 3 rfl ?_
      refine kw_if_eq (tgt := 281) hC dL_sets_262 rfl (by decide) (by omega) ⟨fun c262 => False.elim (by omega), fun _ => ?_⟩
      refine kw_aload_n hC dL_sets_265 rfl 0 rfl ?_
      refine kw_iconst hC dL_sets_266 rfl ?_
      refine kw_iconst hC dL_sets_267 rfl ?_
      refine kw_iconst hC dL_sets_268 rfl ?_
      refine kw_iconst hC dL_sets_269 rfl ?_
      refine kw_callV hC (f_X7_meet hD (by omega) (by omega) (by omega) (by omega) hI.1) gL_sets_X7_meet ⟨_, rfl⟩ rfl (by decide) (by decide) rfl ⟨rfl, rfl⟩ 4 (by decide +kernel) ⟨by decide, by decide⟩ rfl rfl (Nat.le_of_ble_eq_true rfl) dL_sets_270 rfl (kd_i ?_)
      rintro r S2 ⟨q1, q2, q3, -, -, q4⟩
      obtain ⟨hI2, er⟩ := hI.mee (by omega) (by omega) (by omega) (by omega) q1 q3 q4
      rw [mAt_x (by omega) (by omega), if_pos rfl] at er
      subst er
      refine kw_iconst hC dL_sets_273 rfl ?_
      refine kw_icmp_ne (tgt := 281) hC dL_sets_274 rfl (by decide) (by omega) (by omega) ⟨fun c274 => False.elim (by omega), fun _ => ?_⟩
      refine kw_iconst hC dL_sets_277 rfl ?_
      refine kw_goto (tgt := 282) hC dL_sets_278 rfl (by decide) ?_
      refine kw_istore (lv' := [(4, _), (0, _), (1, _), (3, _)]) hC dL_sets_282 rfl (by decide) rfl ?_
      refine kw_lv [3, 0] rfl ?_
      refine k284 S2 (hI2.cg (fun i j _ _ _ _ => ?_))
      unfold MS
      by_cases z1 : i = 2 ∧ j = 5
      · rw [if_pos z1, if_pos ⟨c257, Or.inl z1⟩]
      · rw [if_neg z1]
        by_cases z2 : i = 5 ∧ j = 2
        · rw [if_pos z2, if_pos ⟨c257, Or.inr z2⟩]
        · rw [if_neg z2, if_neg (fun q => q.2.elim z1 z2)]
  have k217 : ∀ S1, SX m (PS s m (chS s m - 1)) S1 → Wk E g 9 S1 217 [(0, vr g 0 0), (1, vi s), (3, vi m), (4, vi 1)] [] := by
    intro S1 hI
    refine kw_iload_n hC dL_sets_217 rfl 1 rfl ?_
    refine kw_iconst hC dL_sets_218 rfl ?_
    refine kw_icmp_ne (tgt := 255) hC dL_sets_219 rfl (by decide) (by omega) (by omega) ⟨fun c219 => ?_, fun c219 => ?_⟩
    · exact k255 S1 (hI.cg (fun i j _ _ _ _ => by unfold QS; rw [if_neg (fun q => c219 q.1)]))
    · have c219 : s = 2 := by omega
      have hm3 := ho2 c219
      refine kw_iload_n hC dL_sets_222 rfl 2 rfl ?_
      refine kw_iconst hC dL_sets_223 rfl ?_
      refine kw_icmp_le (tgt := 255) hC dL_sets_224 rfl (by decide) (by omega) (by omega) ⟨fun c224 => False.elim (by omega), fun _ => ?_⟩
      refine kw_iload hC dL_sets_227 rfl 3 rfl ?_
      refine kw_if_eq (tgt := 252) hC dL_sets_229 rfl (by decide) (by omega) ⟨fun c229 => False.elim (by omega), fun _ => ?_⟩
      refine kw_aload_n hC dL_sets_232 rfl 0 rfl ?_
      refine kw_iload_n hC dL_sets_233 rfl 2 rfl ?_
      refine kw_iconst hC dL_sets_234 rfl ?_
      refine kw_isub hC dL_sets_235 rfl ?_
      refine kw_iload_n hC dL_sets_236 rfl 2 rfl ?_
      refine kw_iconst hC dL_sets_237 rfl ?_
      refine kw_isub hC dL_sets_238 rfl ?_
      refine kw_iconst hC dL_sets_239 rfl ?_
      refine kw_iconst hC dL_sets_240 rfl ?_
      refine kw_callV hC (f_X7_meet hD (by omega) (by omega) (by omega) (by omega) hI.1) gL_sets_X7_meet ⟨_, rfl⟩ rfl (by decide) (by decide) rfl ⟨rfl, rfl⟩ 4 (by decide +kernel) ⟨by decide, by decide⟩ rfl rfl (Nat.le_of_ble_eq_true rfl) dL_sets_241 rfl (kd_i ?_)
      rintro r S2 ⟨q1, q2, q3, -, -, q4⟩
      obtain ⟨hI2, er⟩ := hI.mee (by omega) (by omega) (by omega) (by omega) q1 q3 q4
      rw [mAt_x (by omega) (by omega), if_pos rfl] at er
      subst er
      refine kw_iconst hC dL_sets_244 rfl ?_
      refine kw_icmp_ne (tgt := 252) hC dL_sets_245 rfl (by decide) (by omega) (by omega) ⟨fun c245 => False.elim (by omega), fun _ => ?_⟩
      refine kw_iconst hC dL_sets_248 rfl ?_
      refine kw_goto (tgt := 253) hC dL_sets_249 rfl (by decide) ?_
      refine kw_istore (lv' := [(4, _), (0, _), (1, _), (3, _)]) hC dL_sets_253 rfl (by decide) rfl ?_
      refine kw_lv [1, 2, 3, 0] rfl ?_
      refine k255 S2 (hI2.cg (fun i j _ _ _ _ => ?_))
      unfold QS
      by_cases z1 : i = m - 3 ∧ j = m - 1
      · rw [if_pos z1, if_pos ⟨c219, by omega, Or.inl z1⟩]
      · rw [if_neg z1]
        by_cases z2 : i = m - 1 ∧ j = m - 3
        · rw [if_pos z2, if_pos ⟨c219, by omega, Or.inr z2⟩]
        · rw [if_neg z2, if_neg (fun q => q.2.2.elim z1 z2)]
  have k96 : ∀ (f : Nat) (k : Int) (S1 : wSt), 0 ≤ k → k < chS s m → SX m (PS s m k) S1 → chS s m - k < (f : Int) → Wk E g 9 S1 96 [(0, vr g 0 0), (1, vi s), (3, vi m), (4, vi 1), (5, vi (chS s m)), (6, vi k)] [] := by
    intro f
    induction f with
    | zero => intro k S1 k0 k1 hI hf; exact absurd hf (by omega)
    | succ f ih =>
      intro k S1 k0 k1 hI hf
      refine kw_iload hC dL_sets_96 rfl 5 rfl ?_
      refine kw_iconst hC dL_sets_98 rfl ?_
      refine kw_iadd hC dL_sets_99 rfl ?_
      refine kw_iload hC dL_sets_100 rfl 4 rfl ?_
      refine kw_icmp_ge (tgt := 217) hC dL_sets_102 rfl (by decide) (by omega) (by omega) ⟨fun c102 => ?_, fun c102 => ?_⟩
      · refine kw_lv [0, 1, 2, 3] rfl ?_
        have e : k = chS s m - 1 := by omega
        rw [e] at hI
        exact k217 S1 hI
      · have hcx := cxS_r s m k
        have hcl : chS s m ≤ m := hch.2
        have k159 : Wk E g 9 S1 159 [(0, vr g 0 0), (1, vi s), (3, vi m), (4, vi 1), (5, vi (chS s m)), (6, vi k)] [vi (cxS s m k)] := by
          refine kw_istore (lv' := [(8, _), (0, _), (1, _), (3, _), (4, _), (5, _), (6, _)]) hC dL_sets_159 rfl (by decide) rfl ?_
          refine kw_iload hC dL_sets_161 rfl 4 rfl ?_
          refine kw_if_eq (tgt := 208) hC dL_sets_163 rfl (by decide) (by omega) ⟨fun c163 => False.elim (by omega), fun _ => ?_⟩
          refine kw_aload_n hC dL_sets_166 rfl 1 rfl ?_
          refine kw_iload hC dL_sets_167 rfl 6 rfl ?_
          refine kw_iload hC dL_sets_169 rfl 6 rfl ?_
          refine kw_iconst hC dL_sets_171 rfl ?_
          refine kw_iadd hC dL_sets_172 rfl ?_
          refine kw_iload hC dL_sets_173 rfl 0 rfl ?_
          refine kw_iconst hC dL_sets_175 rfl ?_
          refine kw_callV hC (f_X7_meet hD (by omega) (by omega) (by omega) (by omega) hI.1) gL_sets_X7_meet ⟨_, rfl⟩ rfl (by decide) (by decide) rfl ⟨rfl, rfl⟩ 4 (by decide +kernel) ⟨by decide, by decide⟩ rfl rfl (Nat.le_of_ble_eq_true rfl) dL_sets_176 rfl (kd_i ?_)
          rintro r S2 ⟨q1, q2, q3, -, -, q4⟩
          obtain ⟨hI2, er⟩ := hI.mee (by omega) (by omega) (by omega) (by omega) q1 q3 q4
          rw [mAt_x (by omega) hcx] at er
          refine kw_iload hC dL_sets_179 rfl 0 rfl ?_
          refine kw_iconst hC dL_sets_181 rfl ?_
          refine kw_icmp_ne (tgt := 189) hC dL_sets_182 rfl (by decide) (by omega) (by omega) ⟨fun c182 => ?_, fun c182 => ?_⟩
          · rw [if_neg c182] at er
            refine kw_iload hC dL_sets_189 rfl 0 rfl ?_
            refine kw_iconst hC dL_sets_191 rfl ?_
            refine kw_icmp_ne (tgt := 199) hC dL_sets_192 rfl (by decide) (by omega) (by omega) ⟨fun c192 => ?_, fun c192 => ?_⟩
            · rw [if_neg c192] at er
              subst er
              refine kw_bipush hC dL_sets_199 rfl (by decide) ?_
              refine kw_icmp_ne (tgt := 208) hC dL_sets_201 rfl (by decide) (by omega) (by omega) ⟨fun c201 => False.elim (by omega), fun _ => ?_⟩
              refine kw_iconst hC dL_sets_204 rfl ?_
              refine kw_goto (tgt := 209) hC dL_sets_205 rfl (by decide) ?_
              refine kw_istore (lv' := [(4, _), (8, _), (0, _), (1, _), (3, _), (5, _), (6, _)]) hC dL_sets_209 rfl (by decide) rfl ?_
              refine kw_iinc (lv' := [(6, _), (4, _), (8, _), (0, _), (1, _), (3, _), (5, _)]) hC dL_sets_211 rfl 6 rfl (by decide) rfl ?_
              refine kw_goto (tgt := 96) hC dL_sets_214 rfl (by decide) ?_
              refine kw_lv [3, 4, 5, 1, 6, 0] rfl ?_
              exact ih (k + 1) S2 (by omega) (by omega) (hI2.cg (fun i j _ _ _ _ => PS_s k0 i j)) (by omega)
            · have c192 : cxS s m k = 2 := by omega
              rw [if_pos c192] at er
              subst er
              refine kw_iconst hC dL_sets_195 rfl ?_
              refine kw_goto (tgt := 201) hC dL_sets_196 rfl (by decide) ?_
              refine kw_icmp_ne (tgt := 208) hC dL_sets_201 rfl (by decide) (by omega) (by omega) ⟨fun c201 => False.elim (by omega), fun _ => ?_⟩
              refine kw_iconst hC dL_sets_204 rfl ?_
              refine kw_goto (tgt := 209) hC dL_sets_205 rfl (by decide) ?_
              refine kw_istore (lv' := [(4, _), (8, _), (0, _), (1, _), (3, _), (5, _), (6, _)]) hC dL_sets_209 rfl (by decide) rfl ?_
              refine kw_iinc (lv' := [(6, _), (4, _), (8, _), (0, _), (1, _), (3, _), (5, _)]) hC dL_sets_211 rfl 6 rfl (by decide) rfl ?_
              refine kw_goto (tgt := 96) hC dL_sets_214 rfl (by decide) ?_
              refine kw_lv [3, 4, 5, 1, 6, 0] rfl ?_
              exact ih (k + 1) S2 (by omega) (by omega) (hI2.cg (fun i j _ _ _ _ => PS_s k0 i j)) (by omega)
          · have c182 : cxS s m k = 1 := by omega
            rw [if_pos c182] at er
            subst er
            refine kw_iconst hC dL_sets_185 rfl ?_
            refine kw_goto (tgt := 201) hC dL_sets_186 rfl (by decide) ?_
            refine kw_icmp_ne (tgt := 208) hC dL_sets_201 rfl (by decide) (by omega) (by omega) ⟨fun c201 => False.elim (by omega), fun _ => ?_⟩
            refine kw_iconst hC dL_sets_204 rfl ?_
            refine kw_goto (tgt := 209) hC dL_sets_205 rfl (by decide) ?_
            refine kw_istore (lv' := [(4, _), (8, _), (0, _), (1, _), (3, _), (5, _), (6, _)]) hC dL_sets_209 rfl (by decide) rfl ?_
            refine kw_iinc (lv' := [(6, _), (4, _), (8, _), (0, _), (1, _), (3, _), (5, _)]) hC dL_sets_211 rfl 6 rfl (by decide) rfl ?_
            refine kw_goto (tgt := 96) hC dL_sets_214 rfl (by decide) ?_
            refine kw_lv [3, 4, 5, 1, 6, 0] rfl ?_
            exact ih (k + 1) S2 (by omega) (by omega) (hI2.cg (fun i j _ _ _ _ => PS_s k0 i j)) (by omega)
        refine kw_iload hC dL_sets_105 rfl 5 rfl ?_
        refine kw_iconst hC dL_sets_107 rfl ?_
        refine kw_iadd hC dL_sets_108 rfl ?_
        refine kw_iload_n hC dL_sets_109 rfl 2 rfl ?_
        refine kw_icmp_ne (tgt := 117) hC dL_sets_110 rfl (by decide) (by omega) (by omega) ⟨fun c110 => ?_, fun c110 => ?_⟩
        · refine kw_iconst hC dL_sets_117 rfl ?_
          refine kw_istore (lv' := [(7, _), (0, _), (1, _), (3, _), (4, _), (5, _), (6, _)]) hC dL_sets_118 rfl (by decide) rfl ?_
          refine kw_iload_n hC dL_sets_120 rfl 2 rfl ?_
          refine kw_iconst hC dL_sets_121 rfl ?_
          refine kw_icmp_ne (tgt := 129) hC dL_sets_122 rfl (by decide) (by omega) (by omega) ⟨fun c122 => ?_, fun c122 => ?_⟩
          · refine kw_iload_n hC dL_sets_129 rfl 2 rfl ?_
            refine kw_iconst hC dL_sets_130 rfl ?_
            refine kw_icmp_ne (tgt := 143) hC dL_sets_131 rfl (by decide) (by omega) (by omega) ⟨fun c131 => ?_, fun c131 => ?_⟩
            · refine kw_iload_n hC dL_sets_143 rfl 2 rfl ?_
              refine kw_iconst hC dL_sets_144 rfl ?_
              refine kw_icmp_ne (tgt := 158) hC dL_sets_145 rfl (by decide) (by omega) (by omega) ⟨fun c145 => ?_, fun c145 => ?_⟩
              · refine kw_iconst hC dL_sets_158 rfl ?_
                refine kw_lv [1, 2, 3, 4, 5, 6] rfl ?_
                refine kw_chi (z' := cxS s m k) (by unfold cxS; rw [if_neg c122, if_neg (by omega), if_neg (by omega)]) ?_
                exact k159
              · have c145 : s = 4 := by omega
                refine kw_iload hC dL_sets_148 rfl 6 rfl ?_
                refine kw_iconst hC dL_sets_150 rfl ?_
                refine kw_icmp_ne (tgt := 158) hC dL_sets_151 rfl (by decide) (by omega) (by omega) ⟨fun c151 => ?_, fun c151 => ?_⟩
                · refine kw_iconst hC dL_sets_158 rfl ?_
                  refine kw_lv [1, 2, 3, 4, 5, 6] rfl ?_
                  refine kw_chi (z' := cxS s m k) (by unfold cxS; rw [if_neg c122, if_neg (by omega), if_neg (by omega)]) ?_
                  exact k159
                · refine kw_iconst hC dL_sets_154 rfl ?_
                  refine kw_goto (tgt := 159) hC dL_sets_155 rfl (by decide) ?_
                  refine kw_lv [1, 2, 3, 4, 5, 6] rfl ?_
                  refine kw_chi (z' := cxS s m k) (by unfold cxS; rw [if_neg c122, if_neg (by omega), if_pos (by omega)]) ?_
                  exact k159
            · have c131 : s = 1 := by omega
              refine kw_iload hC dL_sets_134 rfl 0 rfl ?_
              refine kw_if_eq (tgt := 143) hC dL_sets_136 rfl (by decide) (by omega) ⟨fun _ => ?_, fun c136 => False.elim (by omega)⟩
              refine kw_iload_n hC dL_sets_143 rfl 2 rfl ?_
              refine kw_iconst hC dL_sets_144 rfl ?_
              refine kw_icmp_ne (tgt := 158) hC dL_sets_145 rfl (by decide) (by omega) (by omega) ⟨fun _ => ?_, fun c145 => False.elim (by omega)⟩
              refine kw_iconst hC dL_sets_158 rfl ?_
              refine kw_lv [1, 2, 3, 4, 5, 6] rfl ?_
              refine kw_chi (z' := cxS s m k) (by unfold cxS; rw [if_neg c122, if_neg (by omega), if_neg (by omega)]) ?_
              exact k159
          · have c122 : s = 3 := by omega
            refine kw_iconst hC dL_sets_125 rfl ?_
            refine kw_goto (tgt := 159) hC dL_sets_126 rfl (by decide) ?_
            refine kw_lv [1, 2, 3, 4, 5, 6] rfl ?_
            refine kw_chi (z' := cxS s m k) (by unfold cxS; rw [if_pos c122]) ?_
            exact k159
        · refine kw_iconst hC dL_sets_113 rfl ?_
          refine kw_goto (tgt := 118) hC dL_sets_114 rfl (by decide) ?_
          refine kw_istore (lv' := [(7, _), (0, _), (1, _), (3, _), (4, _), (5, _), (6, _)]) hC dL_sets_118 rfl (by decide) rfl ?_
          refine kw_iload_n hC dL_sets_120 rfl 2 rfl ?_
          refine kw_iconst hC dL_sets_121 rfl ?_
          refine kw_icmp_ne (tgt := 129) hC dL_sets_122 rfl (by decide) (by omega) (by omega) ⟨fun c122 => ?_, fun c122 => ?_⟩
          · refine kw_iload_n hC dL_sets_129 rfl 2 rfl ?_
            refine kw_iconst hC dL_sets_130 rfl ?_
            refine kw_icmp_ne (tgt := 143) hC dL_sets_131 rfl (by decide) (by omega) (by omega) ⟨fun c131 => ?_, fun c131 => ?_⟩
            · refine kw_iload_n hC dL_sets_143 rfl 2 rfl ?_
              refine kw_iconst hC dL_sets_144 rfl ?_
              refine kw_icmp_ne (tgt := 158) hC dL_sets_145 rfl (by decide) (by omega) (by omega) ⟨fun c145 => ?_, fun c145 => ?_⟩
              · refine kw_iconst hC dL_sets_158 rfl ?_
                refine kw_lv [1, 2, 3, 4, 5, 6] rfl ?_
                refine kw_chi (z' := cxS s m k) (by unfold cxS; rw [if_neg c122, if_neg (by omega), if_neg (by omega)]) ?_
                exact k159
              · have c145 : s = 4 := by omega
                refine kw_iload hC dL_sets_148 rfl 6 rfl ?_
                refine kw_iconst hC dL_sets_150 rfl ?_
                refine kw_icmp_ne (tgt := 158) hC dL_sets_151 rfl (by decide) (by omega) (by omega) ⟨fun c151 => ?_, fun c151 => ?_⟩
                · refine kw_iconst hC dL_sets_158 rfl ?_
                  refine kw_lv [1, 2, 3, 4, 5, 6] rfl ?_
                  refine kw_chi (z' := cxS s m k) (by unfold cxS; rw [if_neg c122, if_neg (by omega), if_neg (by omega)]) ?_
                  exact k159
                · refine kw_iconst hC dL_sets_154 rfl ?_
                  refine kw_goto (tgt := 159) hC dL_sets_155 rfl (by decide) ?_
                  refine kw_lv [1, 2, 3, 4, 5, 6] rfl ?_
                  refine kw_chi (z' := cxS s m k) (by unfold cxS; rw [if_neg c122, if_neg (by omega), if_pos (by omega)]) ?_
                  exact k159
            · have c131 : s = 1 := by omega
              refine kw_iload hC dL_sets_134 rfl 0 rfl ?_
              refine kw_if_eq (tgt := 143) hC dL_sets_136 rfl (by decide) (by omega) ⟨fun c136 => False.elim (by omega), fun _ => ?_⟩
              refine kw_iconst hC dL_sets_139 rfl ?_
              refine kw_goto (tgt := 159) hC dL_sets_140 rfl (by decide) ?_
              refine kw_lv [1, 2, 3, 4, 5, 6] rfl ?_
              refine kw_chi (z' := cxS s m k) (by unfold cxS; rw [if_neg c122, if_pos ⟨c131, by omega⟩]) ?_
              exact k159
          · have c122 : s = 3 := by omega
            refine kw_iconst hC dL_sets_125 rfl ?_
            refine kw_goto (tgt := 159) hC dL_sets_126 rfl (by decide) ?_
            refine kw_lv [1, 2, 3, 4, 5, 6] rfl ?_
            refine kw_chi (z' := cxS s m k) (by unfold cxS; rw [if_pos c122]) ?_
            exact k159
  have k91 : ∀ S1, SX m (fun _ _ => 0) S1 → Wk E g 9 S1 91 [(0, vr g 0 0), (1, vi s), (3, vi m), (4, vi 1)] [vi (chS s m)] := by
    intro S1 hI
    refine kw_istore (lv' := [(5, _), (0, _), (1, _), (3, _), (4, _)]) hC dL_sets_91 rfl (by decide) rfl ?_
    refine kw_iconst hC dL_sets_93 rfl ?_
    refine kw_istore (lv' := [(6, _), (5, _), (0, _), (1, _), (3, _), (4, _)]) hC dL_sets_94 rfl (by decide) rfl ?_
    refine kw_lv [2, 3, 4, 5, 1, 0] rfl ?_
    exact k96 7 0 S1 (by omega) (by omega) (hI.cg (fun i j _ _ _ _ => (PS_0 s m i j).symm)) (by omega)
  have k36 : ∀ (f : Nat) (k : Int) (S1 : wSt), 0 ≤ k → k ≤ m → SX k (fun _ _ => 0) S1 → m - k < (f : Int) → Wk E g 9 S1 36 [(0, vr g 0 0), (1, vi s), (3, vi m), (4, vi 1), (5, vi k)] [] := by
    intro f
    induction f with
    | zero => intro k S1 k0 k1 hI hf; exact absurd hf (by omega)
    | succ f ih =>
      intro k S1 k0 k1 hI hf
      refine kw_iload hC dL_sets_36 rfl 4 rfl ?_
      refine kw_iload_n hC dL_sets_38 rfl 2 rfl ?_
      refine kw_icmp_ge (tgt := 70) hC dL_sets_39 rfl (by decide) (by omega) (by omega) ⟨fun c39 => ?_, fun c39 => ?_⟩
      · have e : k = m := by omega
        rw [e] at hI
        refine kw_iload_n hC dL_sets_70 rfl 1 rfl ?_
        refine kw_iconst hC dL_sets_71 rfl ?_
        refine kw_icmp_ne (tgt := 81) hC dL_sets_72 rfl (by decide) (by omega) (by omega) ⟨fun c72 => ?_, fun c72 => ?_⟩
        · refine kw_iload_n hC dL_sets_81 rfl 1 rfl ?_
          refine kw_iconst hC dL_sets_82 rfl ?_
          refine kw_icmp_ne (tgt := 90) hC dL_sets_83 rfl (by decide) (by omega) (by omega) ⟨fun c83 => ?_, fun c83 => ?_⟩
          · refine kw_iload_n hC dL_sets_90 rfl 2 rfl ?_
            refine kw_lv [0, 1, 2, 3] rfl ?_
            refine kw_chi (z' := chS s m) (by unfold chS; rw [if_neg c72, if_neg c83]) ?_
            exact k91 S1 hI
          · have c83 : s = 5 := by omega
            refine kw_iconst hC dL_sets_86 rfl ?_
            refine kw_goto (tgt := 91) hC dL_sets_87 rfl (by decide) ?_
            refine kw_lv [0, 1, 2, 3] rfl ?_
            refine kw_chi (z' := chS s m) (by unfold chS; rw [if_neg c72, if_pos c83]) ?_
            exact k91 S1 hI
        · have c72 : s = 2 := by omega
          refine kw_iload_n hC dL_sets_75 rfl 2 rfl ?_
          refine kw_iconst hC dL_sets_76 rfl ?_
          refine kw_isub hC dL_sets_77 rfl ?_
          refine kw_goto (tgt := 91) hC dL_sets_78 rfl (by decide) ?_
          refine kw_lv [0, 1, 2, 3] rfl ?_
          refine kw_chi (z' := chS s m) (by unfold chS; rw [if_pos c72]) ?_
          exact k91 S1 hI
      · refine kw_iload hC dL_sets_42 rfl 3 rfl ?_
        refine kw_if_eq (tgt := 61) hC dL_sets_44 rfl (by decide) (by omega) ⟨fun c44 => False.elim (by omega), fun _ => ?_⟩
        refine kw_aload_n hC dL_sets_47 rfl 0 rfl ?_
        refine kw_iconst hC dL_sets_48 rfl ?_
        refine kw_callV hC (f_X7_mirror hD (by omega) hI.1) gL_sets_X7_mirror ⟨_, rfl⟩ rfl (by decide) (by decide) rfl ⟨rfl, rfl⟩ 1 (by decide +kernel) ⟨by decide, by decide⟩ rfl rfl (Nat.le_of_ble_eq_true rfl) dL_sets_49 rfl (kd_i ?_)
        rintro r S2 ⟨q1, q2, q3, -, -, q4⟩
        obtain ⟨hI2, er⟩ := hI.mir (by omega) q1 q3 q4
        subst er
        refine kw_iload hC dL_sets_52 rfl 4 rfl ?_
        refine kw_icmp_ne (tgt := 61) hC dL_sets_54 rfl (by decide) (by omega) (by omega) ⟨fun c54 => False.elim (by omega), fun _ => ?_⟩
        refine kw_iconst hC dL_sets_57 rfl ?_
        refine kw_goto (tgt := 62) hC dL_sets_58 rfl (by decide) ?_
        refine kw_istore (lv' := [(4, _), (0, _), (1, _), (3, _), (5, _)]) hC dL_sets_62 rfl (by decide) rfl ?_
        refine kw_iinc (lv' := [(5, _), (4, _), (0, _), (1, _), (3, _)]) hC dL_sets_64 rfl 4 rfl (by decide) rfl ?_
        refine kw_goto (tgt := 36) hC dL_sets_67 rfl (by decide) ?_
        refine kw_lv [2, 3, 4, 1, 0] rfl ?_
        exact ih (r + 1) S2 (by omega) (by omega) hI2 (by omega)
  have k29 : Wk E g 9 S 29 [(0, vr g 0 0), (1, vi s), (2, vi n)] [vi m] := by
    refine kw_istore_n (lv' := [(3, _), (0, _), (1, _), (2, _)]) hC dL_sets_29 rfl (by decide) rfl ?_
    refine kw_iconst hC dL_sets_30 rfl ?_
    refine kw_istore (lv' := [(4, _), (3, _), (0, _), (1, _), (2, _)]) hC dL_sets_31 rfl (by decide) rfl ?_
    refine kw_iconst hC dL_sets_33 rfl ?_
    refine kw_istore (lv' := [(5, _), (4, _), (3, _), (0, _), (1, _), (2, _)]) hC dL_sets_34 rfl (by decide) rfl ?_
    refine kw_lv [3, 4, 2, 1, 0] rfl ?_
    exact k36 7 0 S (by omega) (by omega) h0 (by omega)
  refine kw_iload_n hC dL_sets_0 rfl 1 rfl ?_
  refine kw_iconst hC dL_sets_1 rfl ?_
  refine kw_icmp_ne (tgt := 9) hC dL_sets_2 rfl (by decide) (by omega) (by omega) ⟨fun c2 => ?_, fun c2 => ?_⟩
  · refine kw_iload_n hC dL_sets_9 rfl 1 rfl ?_
    refine kw_iconst hC dL_sets_10 rfl ?_
    refine kw_icmp_ne (tgt := 18) hC dL_sets_11 rfl (by decide) (by omega) (by omega) ⟨fun c11 => ?_, fun c11 => ?_⟩
    · refine kw_iload_n hC dL_sets_18 rfl 1 rfl ?_
      refine kw_iconst hC dL_sets_19 rfl ?_
      refine kw_icmp_ne (tgt := 28) hC dL_sets_20 rfl (by decide) (by omega) (by omega) ⟨fun c20 => ?_, fun c20 => ?_⟩
      · refine kw_iload_n hC dL_sets_28 rfl 2 rfl ?_
        refine kw_chi (z' := m) (by rw [hm]; unfold mS; rw [if_neg c2, if_neg c11, if_neg c20]) ?_
        exact k29
      · have c20 : s = 5 := by omega
        refine kw_bipush hC dL_sets_23 rfl (by decide) ?_
        refine kw_goto (tgt := 29) hC dL_sets_25 rfl (by decide) ?_
        refine kw_chi (z' := m) (by rw [hm]; unfold mS; rw [if_neg c2, if_neg c11, if_pos c20]) ?_
        exact k29
    · have c11 : s = 4 := by omega
      refine kw_iconst hC dL_sets_14 rfl ?_
      refine kw_goto (tgt := 29) hC dL_sets_15 rfl (by decide) ?_
      refine kw_chi (z' := m) (by rw [hm]; unfold mS; rw [if_neg c2, if_pos c11]) ?_
      exact k29
  · have c2 : s = 3 := by omega
    refine kw_iconst hC dL_sets_5 rfl ?_
    refine kw_goto (tgt := 29) hC dL_sets_6 rfl (by decide) ?_
    refine kw_chi (z' := m) (by rw [hm]; unfold mS; rw [if_pos c2]) ?_
    exact k29
end
