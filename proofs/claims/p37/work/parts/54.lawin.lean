def chWs : List (List Cond) := [k2_sels lw_privs, tables_1_1, tables_1_2, tables_1_3, tables_1_4, tables_1_5]
theorem chT_flat : lw_tbl = chWs.flatten := by
  simp only [lw_tbl, tables_1, chWs, List.flatten_cons, List.flatten_nil, List.append_nil]
theorem sub_ch {ch : List (List Cond)} (ws : List Cond) (ps : List (Nat × Nat)) (hp : ws = ps.filterMap (fun q => (ch[q.1]?).bind (fun c => c[q.2]?))) : ∀ w ∈ ws, w ∈ ch.flatten := by
  intro w hw
  rw [hp] at hw
  obtain ⟨q, _, h2⟩ := List.mem_filterMap.mp hw
  obtain ⟨c, h3, h4⟩ := Option.bind_eq_some_iff.mp h2
  exact List.mem_flatten.mpr ⟨c, List.mem_of_getElem? h3, List.mem_of_getElem? h4⟩
theorem sub_T (ws : List Cond) (ps : List (Nat × Nat)) (hp : ws = ps.filterMap (fun q => (chWs[q.1]?).bind (fun c => c[q.2]?))) : ∀ w ∈ ws, w ∈ lw_tbl := by
  rw [chT_flat]
  exact sub_ch ws ps hp
set_option maxRecDepth 20000 in
theorem wsL_law_r1_in : ∀ w ∈ wsL_law_r1, w ∈ lw_tbl := sub_T _ [(1, 13), (1, 14), (1, 1), (4, 183), (3, 167), (1, 9), (5, 76), (1, 15), (1, 16), (1, 17), (1, 18), (1, 19), (1, 20), (1, 21), (1, 22), (1, 2), (1, 179), (1, 43), (1, 44), (1, 3), (1, 180), (1, 63), (1, 181), (1, 65)] rfl
set_option maxRecDepth 20000 in
theorem wsL_law_r2_in : ∀ w ∈ wsL_law_r2, w ∈ lw_tbl := sub_T _ [(1, 182), (1, 67), (1, 68), (1, 4), (1, 183), (1, 104), (1, 105), (1, 6), (1, 184), (1, 129), (1, 130), (1, 7), (1, 185), (1, 74), (1, 5), (1, 186), (1, 187), (1, 188), (1, 93), (1, 189), (1, 155), (1, 190), (1, 157), (1, 8)] rfl
set_option maxRecDepth 20000 in
theorem wsL_law_r3_in : ∀ w ∈ wsL_law_r3, w ∈ lw_tbl := sub_T _ [(1, 24), (1, 25), (1, 26), (1, 42), (1, 27), (1, 29), (1, 45), (1, 46), (1, 47), (1, 48), (1, 49), (1, 52), (1, 69), (1, 70), (1, 71), (1, 72), (1, 95), (1, 73), (1, 96), (1, 94), (1, 76), (1, 77), (1, 78), (1, 79)] rfl
set_option maxRecDepth 20000 in
theorem wsL_law_r4_in : ∀ w ∈ wsL_law_r4, w ∈ lw_tbl := sub_T _ [(1, 106), (1, 107), (1, 108), (1, 109), (1, 111), (1, 112), (1, 113), (1, 110), (1, 131), (1, 132), (1, 133), (1, 134), (1, 136), (1, 137), (1, 138), (1, 135), (1, 159), (1, 160), (1, 161), (1, 162), (4, 184), (4, 185), (4, 186), (4, 187)] rfl
set_option maxRecDepth 20000 in
theorem wsL_law_r5_in : ∀ w ∈ wsL_law_r5, w ∈ lw_tbl := sub_T _ [(4, 189), (4, 190), (4, 191), (4, 193), (4, 194), (4, 195), (4, 197), (4, 199), (4, 201), (4, 203), (4, 205), (4, 206), (4, 207), (4, 210), (4, 212), (4, 213), (4, 215), (4, 216), (4, 217), (4, 218), (4, 219), (4, 220), (1, 216), (1, 217)] rfl
set_option maxRecDepth 20000 in
theorem wsL_law_r6_in : ∀ w ∈ wsL_law_r6, w ∈ lw_tbl := sub_T _ [(1, 218), (1, 219), (1, 31), (1, 220), (1, 221), (1, 222), (1, 223), (1, 224), (1, 225), (1, 226), (1, 53), (1, 54), (1, 227), (1, 228), (1, 229), (1, 230), (1, 231), (1, 233), (1, 232), (1, 10), (1, 30), (1, 234), (1, 235), (1, 236)] rfl
set_option maxRecDepth 20000 in
theorem wsL_law_r7_in : ∀ w ∈ wsL_law_r7, w ∈ lw_tbl := sub_T _ [(1, 237), (1, 238), (2, 0), (0, 0), (2, 1), (1, 87), (2, 2), (2, 3), (2, 4), (2, 5), (1, 114), (1, 115), (2, 6), (2, 7), (2, 8), (2, 9), (1, 139), (1, 140), (3, 156), (3, 157), (3, 158), (3, 159), (3, 160), (4, 188)] rfl
set_option maxRecDepth 20000 in
theorem wsL_law_r8_in : ∀ w ∈ wsL_law_r8, w ∈ lw_tbl := sub_T _ [(3, 161), (3, 162), (3, 163), (3, 164), (3, 166), (0, 11), (3, 168), (4, 192), (3, 169), (3, 171), (0, 12), (3, 172), (2, 10), (2, 11), (2, 12), (2, 13), (2, 14), (2, 15), (2, 16), (2, 17), (2, 18), (2, 19), (2, 20), (2, 21)] rfl
set_option maxRecDepth 20000 in
theorem wsL_law_r9_in : ∀ w ∈ wsL_law_r9, w ∈ lw_tbl := sub_T _ [(2, 22), (2, 23), (2, 24), (2, 25), (2, 26), (2, 27), (2, 28), (2, 29), (2, 30), (2, 31), (2, 32), (3, 173), (3, 174), (3, 175), (3, 176), (3, 181), (3, 177), (3, 179), (0, 13), (3, 180), (3, 182), (3, 184), (0, 14), (3, 185)] rfl
set_option maxRecDepth 20000 in
theorem wsL_law_r10_in : ∀ w ∈ wsL_law_r10, w ∈ lw_tbl := sub_T _ [(2, 33), (2, 34), (2, 35), (2, 36), (2, 37), (2, 38), (2, 39), (2, 40), (2, 41), (3, 186), (3, 187), (3, 188), (3, 189), (2, 42), (2, 43), (2, 44), (2, 45), (1, 28), (3, 190), (3, 191), (3, 192), (3, 193), (2, 46), (2, 47)] rfl
set_option maxRecDepth 20000 in
theorem wsL_law_r11_in : ∀ w ∈ wsL_law_r11, w ∈ lw_tbl := sub_T _ [(2, 48), (2, 49), (1, 55), (2, 50), (2, 51), (2, 52), (2, 53), (3, 194), (3, 195), (3, 196), (3, 197), (2, 54), (2, 55), (2, 56), (2, 57), (2, 58), (3, 198), (3, 199), (3, 200), (3, 201), (2, 59), (2, 60), (2, 61), (2, 62)] rfl
set_option maxRecDepth 20000 in
theorem wsL_law_r12_in : ∀ w ∈ wsL_law_r12, w ∈ lw_tbl := sub_T _ [(2, 63), (2, 64), (2, 65), (3, 202), (3, 203), (3, 204), (3, 205), (3, 206), (3, 207), (3, 208), (3, 209), (2, 66), (2, 67), (2, 68), (2, 69), (2, 70), (2, 71), (2, 72), (2, 73), (1, 84), (3, 210), (3, 211), (3, 212), (3, 213)] rfl
set_option maxRecDepth 20000 in
theorem wsL_law_r13_in : ∀ w ∈ wsL_law_r13, w ∈ lw_tbl := sub_T _ [(2, 74), (2, 75), (2, 76), (2, 77), (1, 163), (2, 78), (2, 79), (2, 80), (2, 81), (2, 82), (2, 83), (2, 84), (2, 85), (2, 86), (2, 87), (1, 164), (1, 166), (2, 88), (2, 89), (2, 90), (2, 91), (1, 168), (2, 92), (2, 94)] rfl
set_option maxRecDepth 20000 in
theorem wsL_law_r14_in : ∀ w ∈ wsL_law_r14, w ∈ lw_tbl := sub_T _ [(0, 1), (2, 95), (2, 96), (2, 97), (2, 98), (2, 99), (2, 100), (5, 72), (5, 73), (5, 74), (5, 75), (5, 52), (5, 53), (5, 54), (5, 55), (5, 68), (5, 70), (0, 42), (5, 71), (2, 101), (2, 102), (2, 103), (2, 104), (1, 82)] rfl
set_option maxRecDepth 20000 in
theorem wsL_law_r15_in : ∀ w ∈ wsL_law_r15, w ∈ lw_tbl := sub_T _ [(3, 214), (3, 215), (3, 216), (3, 217), (3, 218), (2, 105), (2, 106), (2, 107), (2, 108), (2, 109), (2, 110), (2, 111), (2, 112), (3, 219), (3, 220), (3, 221), (3, 222), (3, 223), (3, 225), (0, 15), (3, 226), (4, 202), (3, 227), (3, 229)] rfl
set_option maxRecDepth 20000 in
theorem wsL_law_r16_in : ∀ w ∈ wsL_law_r16, w ∈ lw_tbl := sub_T _ [(0, 16), (3, 230), (3, 231), (3, 233), (0, 17), (3, 234), (2, 113), (2, 114), (2, 115), (2, 116), (2, 117), (2, 118), (2, 119), (2, 120), (3, 235), (3, 236), (3, 237), (3, 238), (3, 239), (4, 1), (0, 18), (4, 2), (2, 121), (2, 122)] rfl
set_option maxRecDepth 20000 in
theorem wsL_law_r17_in : ∀ w ∈ wsL_law_r17, w ∈ lw_tbl := sub_T _ [(2, 123), (2, 124), (4, 3), (4, 4), (4, 5), (4, 6), (2, 125), (2, 126), (2, 127), (2, 128), (2, 129), (2, 130), (2, 131), (2, 132), (2, 133), (2, 134), (2, 135), (2, 136), (4, 7), (4, 8), (4, 9), (4, 10), (2, 137), (2, 138)] rfl
set_option maxRecDepth 20000 in
theorem wsL_law_r18_in : ∀ w ∈ wsL_law_r18, w ∈ lw_tbl := sub_T _ [(2, 139), (2, 140), (2, 141), (2, 142), (2, 143), (2, 144), (4, 11), (4, 12), (4, 13), (4, 14), (2, 145), (2, 146), (2, 147), (2, 148), (2, 149), (2, 150), (2, 151), (2, 152), (1, 85), (1, 80), (2, 153), (2, 154), (2, 155), (2, 156)] rfl
set_option maxRecDepth 20000 in
theorem wsL_law_r19_in : ∀ w ∈ wsL_law_r19, w ∈ lw_tbl := sub_T _ [(2, 158), (2, 159), (2, 160), (2, 161), (1, 11), (2, 162), (2, 164), (2, 165), (2, 166), (2, 167), (2, 168), (2, 169), (2, 174), (2, 175), (2, 170), (2, 171), (2, 172), (2, 173), (2, 176), (2, 177), (4, 15), (4, 16), (4, 17), (4, 18)] rfl
set_option maxRecDepth 20000 in
theorem wsL_law_r20_in : ∀ w ∈ wsL_law_r20, w ∈ lw_tbl := sub_T _ [(4, 19), (4, 21), (0, 19), (4, 22), (4, 204), (4, 196), (4, 23), (4, 25), (0, 20), (4, 26), (4, 27), (4, 29), (0, 21), (4, 30), (4, 31), (4, 33), (0, 22), (4, 34), (4, 35), (4, 37), (0, 23), (4, 38), (4, 39), (4, 40)] rfl
set_option maxRecDepth 20000 in
theorem wsL_law_r21_in : ∀ w ∈ wsL_law_r21, w ∈ lw_tbl := sub_T _ [(4, 41), (4, 43), (0, 24), (4, 44), (4, 45), (4, 47), (0, 25), (4, 48), (2, 178), (2, 179), (2, 180), (2, 181), (2, 182), (2, 183), (2, 184), (2, 185), (2, 186), (2, 187), (2, 188), (2, 189), (2, 190), (2, 191), (2, 193), (0, 2)] rfl
set_option maxRecDepth 20000 in
theorem wsL_law_r22_in : ∀ w ∈ wsL_law_r22, w ∈ lw_tbl := sub_T _ [(2, 194), (1, 32), (2, 195), (2, 196), (2, 197), (2, 198), (4, 49), (4, 50), (4, 51), (4, 52), (4, 53), (4, 55), (0, 26), (4, 56), (4, 198), (4, 57), (4, 59), (0, 27), (4, 60), (4, 61), (4, 63), (0, 28), (4, 64), (2, 199)] rfl
set_option maxRecDepth 20000 in
theorem wsL_law_r23_in : ∀ w ∈ wsL_law_r23, w ∈ lw_tbl := sub_T _ [(2, 200), (2, 201), (2, 202), (2, 203), (2, 204), (2, 205), (2, 206), (4, 65), (4, 66), (4, 67), (4, 68), (4, 200), (4, 69), (4, 71), (0, 29), (4, 72), (2, 207), (2, 208), (2, 209), (2, 210), (2, 211), (2, 212), (4, 73), (4, 74)] rfl
set_option maxRecDepth 20000 in
theorem wsL_law_r24_in : ∀ w ∈ wsL_law_r24, w ∈ lw_tbl := sub_T _ [(4, 75), (4, 76), (2, 213), (2, 214), (2, 215), (2, 216), (2, 217), (2, 224), (2, 218), (2, 219), (2, 220), (2, 221), (2, 222), (1, 83), (2, 223), (4, 77), (4, 78), (4, 79), (4, 80), (4, 81), (4, 86), (4, 82), (4, 84), (0, 30)] rfl
set_option maxRecDepth 20000 in
theorem wsL_law_r25_in : ∀ w ∈ wsL_law_r25, w ∈ lw_tbl := sub_T _ [(4, 85), (2, 225), (2, 226), (2, 227), (2, 228), (2, 229), (4, 87), (4, 88), (4, 89), (4, 90), (2, 230), (2, 231), (2, 232), (2, 233), (4, 91), (4, 92), (4, 93), (4, 94), (2, 234), (2, 235), (2, 236), (2, 237), (2, 238), (2, 239)] rfl
set_option maxRecDepth 20000 in
theorem wsL_law_r26_in : ∀ w ∈ wsL_law_r26, w ∈ lw_tbl := sub_T _ [(3, 0), (3, 1), (3, 2), (3, 4), (0, 3), (3, 5), (1, 34), (3, 6), (3, 7), (3, 8), (3, 9), (3, 11), (0, 4), (3, 12), (3, 13), (3, 14), (3, 16), (0, 5), (3, 17), (3, 18), (3, 19), (3, 20), (3, 21), (3, 23)] rfl
set_option maxRecDepth 20000 in
theorem wsL_law_r27_in : ∀ w ∈ wsL_law_r27, w ∈ lw_tbl := sub_T _ [(0, 6), (3, 24), (3, 26), (3, 27), (1, 12), (3, 28), (3, 25), (3, 29), (3, 30), (3, 31), (3, 32), (4, 95), (4, 96), (4, 97), (4, 98), (4, 99), (4, 208), (4, 100), (4, 102), (0, 31), (4, 103), (4, 209), (4, 104), (4, 106)] rfl
set_option maxRecDepth 20000 in
theorem wsL_law_r28_in : ∀ w ∈ wsL_law_r28, w ∈ lw_tbl := sub_T _ [(0, 32), (4, 107), (4, 108), (4, 110), (0, 33), (4, 111), (4, 112), (4, 114), (0, 34), (4, 115), (4, 116), (4, 118), (0, 35), (4, 119), (3, 33), (3, 34), (3, 35), (3, 36), (3, 37), (3, 38), (3, 39), (3, 40), (3, 41), (3, 42)] rfl
set_option maxRecDepth 20000 in
theorem wsL_law_r29_in : ∀ w ∈ wsL_law_r29, w ∈ lw_tbl := sub_T _ [(3, 43), (3, 44), (3, 45), (4, 120), (4, 121), (4, 122), (4, 123), (3, 46), (3, 47), (3, 48), (3, 49), (3, 50), (3, 51), (3, 52), (3, 53), (4, 124), (4, 125), (4, 126), (4, 127), (4, 128), (4, 130), (0, 36), (4, 131), (3, 54)] rfl
set_option maxRecDepth 20000 in
theorem wsL_law_r30_in : ∀ w ∈ wsL_law_r30, w ∈ lw_tbl := sub_T _ [(3, 55), (3, 56), (3, 57), (3, 58), (3, 59), (3, 60), (3, 61), (3, 62), (3, 63), (4, 132), (4, 133), (4, 134), (4, 135), (4, 137), (4, 136), (4, 138), (4, 140), (0, 37), (4, 141), (4, 211), (4, 142), (4, 144), (0, 38), (4, 145)] rfl
set_option maxRecDepth 20000 in
theorem wsL_law_r31_in : ∀ w ∈ wsL_law_r31, w ∈ lw_tbl := sub_T _ [(3, 64), (3, 65), (3, 66), (3, 67), (3, 68), (3, 69), (3, 70), (3, 71), (4, 146), (4, 147), (4, 148), (4, 149), (3, 72), (3, 73), (3, 74), (3, 75), (3, 76), (3, 77), (3, 78), (3, 79), (3, 80), (3, 82), (0, 7), (3, 83)] rfl
set_option maxRecDepth 20000 in
theorem wsL_law_r32_in : ∀ w ∈ wsL_law_r32, w ∈ lw_tbl := sub_T _ [(1, 33), (3, 84), (3, 86), (0, 8), (3, 87), (3, 89), (3, 91), (0, 9), (3, 92), (3, 94), (3, 95), (3, 96), (3, 97), (3, 98), (4, 150), (4, 151), (4, 152), (4, 153), (4, 154), (4, 214), (4, 155), (4, 157), (0, 39), (4, 158)] rfl
set_option maxRecDepth 20000 in
theorem wsL_law_r33_in : ∀ w ∈ wsL_law_r33, w ∈ lw_tbl := sub_T _ [(4, 159), (4, 161), (0, 40), (4, 162), (3, 99), (3, 100), (3, 101), (3, 102), (3, 103), (3, 104), (3, 105), (3, 106), (1, 86), (1, 81), (4, 163), (4, 164), (4, 165), (4, 166), (3, 107), (3, 108), (3, 109), (3, 110), (3, 111), (3, 112)] rfl
set_option maxRecDepth 20000 in
theorem wsL_law_r34_in : ∀ w ∈ wsL_law_r34, w ∈ lw_tbl := sub_T _ [(3, 113), (3, 114), (3, 115), (4, 167), (4, 168), (4, 169), (4, 170), (3, 116), (3, 117), (3, 118), (3, 119), (3, 120), (3, 122), (0, 10), (3, 123), (4, 171), (4, 172), (4, 173), (4, 174), (4, 175), (4, 177), (0, 41), (4, 178), (3, 124)] rfl
set_option maxRecDepth 20000 in
theorem wsL_law_r35_in : ∀ w ∈ wsL_law_r35, w ∈ lw_tbl := sub_T _ [(3, 125), (3, 126), (3, 127), (3, 128), (3, 129), (3, 130), (4, 179), (4, 180), (4, 181), (4, 182), (3, 131), (3, 132), (3, 133), (3, 134), (3, 135), (3, 136), (3, 137), (3, 138), (3, 139), (5, 48), (5, 49), (5, 50), (5, 51), (3, 140)] rfl
set_option maxRecDepth 20000 in
theorem wsL_law_r36_in : ∀ w ∈ wsL_law_r36, w ∈ lw_tbl := sub_T _ [(3, 141), (3, 142), (3, 143), (1, 165), (1, 169), (5, 56), (5, 57), (5, 58), (5, 59), (3, 144), (3, 145), (3, 146), (3, 147), (3, 148), (3, 149), (3, 150), (5, 60), (5, 61), (5, 62), (5, 63), (3, 151), (3, 152), (3, 153), (3, 154)] rfl
set_option maxRecDepth 20000 in
theorem wsL_law_r37_in : ∀ w ∈ wsL_law_r37, w ∈ lw_tbl := sub_T _ [(1, 167), (3, 155), (5, 64), (5, 65), (5, 66), (5, 67)] rfl
set_option maxRecDepth 20000 in
theorem wsX70_in : ∀ w ∈ wsX70, w ∈ lw_tbl := sub_T _ [(1, 191), (1, 193), (1, 195), (1, 197), (1, 199), (1, 201), (1, 203), (1, 205), (1, 207), (1, 209), (1, 211), (1, 213)] rfl
set_option maxRecDepth 20000 in
theorem wsX80_in : ∀ w ∈ wsX80, w ∈ lw_tbl := sub_T _ [(4, 221), (4, 223), (4, 225), (4, 227), (4, 229), (4, 231), (4, 233), (4, 235), (4, 237), (4, 239), (5, 1), (5, 3), (5, 5), (5, 7), (5, 9), (5, 11), (5, 13), (5, 15), (5, 17), (5, 19), (5, 21), (5, 23), (5, 25), (5, 27), (5, 29), (5, 31), (5, 33), (5, 35), (5, 37), (5, 39), (5, 41), (5, 43), (5, 45)] rfl
set_option maxRecDepth 20000 in
theorem wsX30_in : ∀ w ∈ wsX30, w ∈ lw_tbl := sub_T _ [(1, 35), (1, 37), (1, 39)] rfl
set_option maxRecDepth 20000 in
theorem wsX10_in : ∀ w ∈ wsX10, w ∈ lw_tbl := sub_T _ [(1, 56), (1, 58), (1, 60)] rfl
set_option maxRecDepth 20000 in
theorem wsX50_in : ∀ w ∈ wsX50, w ∈ lw_tbl := sub_T _ [(1, 97), (1, 99), (1, 101)] rfl
set_option maxRecDepth 20000 in
theorem wsX40_in : ∀ w ∈ wsX40, w ∈ lw_tbl := sub_T _ [(1, 116), (1, 118), (1, 120), (1, 122), (1, 124), (1, 126)] rfl
set_option maxRecDepth 20000 in
theorem wsX00_in : ∀ w ∈ wsX00, w ∈ lw_tbl := sub_T _ [(1, 141), (1, 143), (1, 145), (1, 147), (1, 149), (1, 151)] rfl
set_option maxRecDepth 20000 in
theorem wsX60_in : ∀ w ∈ wsX60, w ∈ lw_tbl := sub_T _ [(1, 88), (1, 90)] rfl
set_option maxRecDepth 20000 in
theorem wsX20_in : ∀ w ∈ wsX20, w ∈ lw_tbl := sub_T _ [(1, 170), (1, 172), (1, 174), (1, 176)] rfl
theorem wsL_law_in : ∀ w ∈ wsL_law, w ∈ lw_tbl := List.forall_mem_append.mpr ⟨List.forall_mem_append.mpr ⟨List.forall_mem_append.mpr ⟨List.forall_mem_append.mpr ⟨List.forall_mem_append.mpr ⟨List.forall_mem_append.mpr ⟨List.forall_mem_append.mpr ⟨List.forall_mem_append.mpr ⟨List.forall_mem_append.mpr ⟨List.forall_mem_append.mpr ⟨List.forall_mem_append.mpr ⟨wsL_law_r1_in, List.forall_mem_append.mpr ⟨wsL_law_r2_in, List.forall_mem_append.mpr ⟨wsL_law_r3_in, List.forall_mem_append.mpr ⟨wsL_law_r4_in, List.forall_mem_append.mpr ⟨wsL_law_r5_in, List.forall_mem_append.mpr ⟨wsL_law_r6_in, List.forall_mem_append.mpr ⟨wsL_law_r7_in, List.forall_mem_append.mpr ⟨wsL_law_r8_in, List.forall_mem_append.mpr ⟨wsL_law_r9_in, List.forall_mem_append.mpr ⟨wsL_law_r10_in, List.forall_mem_append.mpr ⟨wsL_law_r11_in, List.forall_mem_append.mpr ⟨wsL_law_r12_in, List.forall_mem_append.mpr ⟨wsL_law_r13_in, List.forall_mem_append.mpr ⟨wsL_law_r14_in, List.forall_mem_append.mpr ⟨wsL_law_r15_in, List.forall_mem_append.mpr ⟨wsL_law_r16_in, List.forall_mem_append.mpr ⟨wsL_law_r17_in, List.forall_mem_append.mpr ⟨wsL_law_r18_in, List.forall_mem_append.mpr ⟨wsL_law_r19_in, List.forall_mem_append.mpr ⟨wsL_law_r20_in, List.forall_mem_append.mpr ⟨wsL_law_r21_in, List.forall_mem_append.mpr ⟨wsL_law_r22_in, List.forall_mem_append.mpr ⟨wsL_law_r23_in, List.forall_mem_append.mpr ⟨wsL_law_r24_in, List.forall_mem_append.mpr ⟨wsL_law_r25_in, List.forall_mem_append.mpr ⟨wsL_law_r26_in, List.forall_mem_append.mpr ⟨wsL_law_r27_in, List.forall_mem_append.mpr ⟨wsL_law_r28_in, List.forall_mem_append.mpr ⟨wsL_law_r29_in, List.forall_mem_append.mpr ⟨wsL_law_r30_in, List.forall_mem_append.mpr ⟨wsL_law_r31_in, List.forall_mem_append.mpr ⟨wsL_law_r32_in, List.forall_mem_append.mpr ⟨wsL_law_r33_in, List.forall_mem_append.mpr ⟨wsL_law_r34_in, List.forall_mem_append.mpr ⟨wsL_law_r35_in, List.forall_mem_append.mpr ⟨wsL_law_r36_in, wsL_law_r37_in⟩⟩⟩⟩⟩⟩⟩⟩⟩⟩⟩⟩⟩⟩⟩⟩⟩⟩⟩⟩⟩⟩⟩⟩⟩⟩⟩⟩⟩⟩⟩⟩⟩⟩⟩⟩, wsX70_in⟩, wsX80_in⟩, wsX30_in⟩, wsX10_in⟩, wsX50_in⟩, wsX40_in⟩, wsX00_in⟩, wsX60_in⟩, wsX20_in⟩, fun _ h => absurd h List.not_mem_nil⟩
theorem inlX0 : ∀ w ∈ wsX00, w ∈ wsL_law := fun _ h => List.mem_append_left _ (List.mem_append_left _ (List.mem_append_left _ (List.mem_append_right _ h)))
theorem inX0 : ∀ w ∈ wsX00, w ∈ lw_tbl := fun w h => wsL_law_in w (inlX0 w h)
theorem inlX1 : ∀ w ∈ wsX10, w ∈ wsL_law := fun _ h => List.mem_append_left _ (List.mem_append_left _ (List.mem_append_left _ (List.mem_append_left _ (List.mem_append_left _ (List.mem_append_left _ (List.mem_append_right _ h))))))
theorem inX1 : ∀ w ∈ wsX10, w ∈ lw_tbl := fun w h => wsL_law_in w (inlX1 w h)
theorem inlX2 : ∀ w ∈ wsX20, w ∈ wsL_law := fun _ h => List.mem_append_left _ (List.mem_append_right _ h)
theorem inX2 : ∀ w ∈ wsX20, w ∈ lw_tbl := fun w h => wsL_law_in w (inlX2 w h)
theorem inlX3 : ∀ w ∈ wsX30, w ∈ wsL_law := fun _ h => List.mem_append_left _ (List.mem_append_left _ (List.mem_append_left _ (List.mem_append_left _ (List.mem_append_left _ (List.mem_append_left _ (List.mem_append_left _ (List.mem_append_right _ h)))))))
theorem inX3 : ∀ w ∈ wsX30, w ∈ lw_tbl := fun w h => wsL_law_in w (inlX3 w h)
theorem inlX4 : ∀ w ∈ wsX40, w ∈ wsL_law := fun _ h => List.mem_append_left _ (List.mem_append_left _ (List.mem_append_left _ (List.mem_append_left _ (List.mem_append_right _ h))))
theorem inX4 : ∀ w ∈ wsX40, w ∈ lw_tbl := fun w h => wsL_law_in w (inlX4 w h)
theorem inlX5 : ∀ w ∈ wsX50, w ∈ wsL_law := fun _ h => List.mem_append_left _ (List.mem_append_left _ (List.mem_append_left _ (List.mem_append_left _ (List.mem_append_left _ (List.mem_append_right _ h)))))
theorem inX5 : ∀ w ∈ wsX50, w ∈ lw_tbl := fun w h => wsL_law_in w (inlX5 w h)
theorem inlX6 : ∀ w ∈ wsX60, w ∈ wsL_law := fun _ h => List.mem_append_left _ (List.mem_append_left _ (List.mem_append_right _ h))
theorem inX6 : ∀ w ∈ wsX60, w ∈ lw_tbl := fun w h => wsL_law_in w (inlX6 w h)
theorem inlX7 : ∀ w ∈ wsX70, w ∈ wsL_law := fun _ h => List.mem_append_left _ (List.mem_append_left _ (List.mem_append_left _ (List.mem_append_left _ (List.mem_append_left _ (List.mem_append_left _ (List.mem_append_left _ (List.mem_append_left _ (List.mem_append_left _ (List.mem_append_right _ h)))))))))
theorem inX7 : ∀ w ∈ wsX70, w ∈ lw_tbl := fun w h => wsL_law_in w (inlX7 w h)
theorem inlX8 : ∀ w ∈ wsX80, w ∈ wsL_law := fun _ h => List.mem_append_left _ (List.mem_append_left _ (List.mem_append_left _ (List.mem_append_left _ (List.mem_append_left _ (List.mem_append_left _ (List.mem_append_left _ (List.mem_append_left _ (List.mem_append_right _ h))))))))
theorem inX8 : ∀ w ∈ wsX80, w ∈ lw_tbl := fun w h => wsL_law_in w (inlX8 w h)
theorem inJ9 : ∀ w ∈ wsJ90, w ∈ lw_tbl := by decide +kernel
theorem inJ10 : ∀ w ∈ wsJ100, w ∈ lw_tbl := by decide +kernel
theorem inJ7 : ∀ w ∈ wsJ70, w ∈ lw_tbl := by decide +kernel
