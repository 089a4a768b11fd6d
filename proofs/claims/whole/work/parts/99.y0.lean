/-! ===== the law's words stand in the tables ===== -/
def tbs : Nat → List Cond
  | 0 => k2_sels lw_privs
  | 1 => tables_1_1
  | 2 => tables_1_2
  | 3 => tables_1_3
  | 4 => tables_1_4
  | 5 => tables_1_5
  | _ => tables_1_6
theorem tbs_in : ∀ (c : Nat) (w : Cond), w ∈ tbs c → w ∈ lw_tbl := by
  intro c w h
  show w ∈ k2_sels lw_privs ++ (tables_1_1 ++ (tables_1_2 ++ (tables_1_3 ++ (tables_1_4 ++ (tables_1_5 ++ tables_1_6)))))
  match c, h with
  | 0, h => exact List.mem_append_left _ h
  | 1, h => exact List.mem_append_right _ (List.mem_append_left _ h)
  | 2, h => exact List.mem_append_right _ (List.mem_append_right _ (List.mem_append_left _ h))
  | 3, h => exact List.mem_append_right _ (List.mem_append_right _ (List.mem_append_right _ (List.mem_append_left _ h)))
  | 4, h => exact List.mem_append_right _ (List.mem_append_right _ (List.mem_append_right _ (List.mem_append_right _ (List.mem_append_left _ h))))
  | 5, h => exact List.mem_append_right _ (List.mem_append_right _ (List.mem_append_right _ (List.mem_append_right _ (List.mem_append_right _ (List.mem_append_left _ h)))))
  | _ + 6, h => exact List.mem_append_right _ (List.mem_append_right _ (List.mem_append_right _ (List.mem_append_right _ (List.mem_append_right _ (List.mem_append_right _ h)))))
theorem in_places {l : List Cond} (ps : List (Nat × Nat)) (h : ps.map (fun i => (tbs i.1)[i.2]?) = l.map some) : ∀ w ∈ l, w ∈ lw_tbl := by
  intro w hw
  have h1 : some w ∈ l.map some := List.mem_map_of_mem hw
  rw [← h] at h1
  obtain ⟨i, _, hi⟩ := List.mem_map.mp h1
  exact tbs_in i.1 w (List.mem_of_getElem? hi)
set_option maxRecDepth 100000 in
set_option maxHeartbeats 4000000 in
theorem inT_wsL_law_r1 : ∀ w ∈ wsL_law_r1, w ∈ lw_tbl := in_places [(1, 16), (1, 17), (1, 1), (4, 129), (4, 130), (1, 12), (1, 18), (1, 19), (1, 20), (1, 21), (1, 22), (1, 23), (1, 24), (1, 25), (1, 2), (2, 44), (1, 88), (1, 89), (1, 3), (1, 90), (1, 91), (1, 4), (2, 45), (1, 142)] rfl
set_option maxRecDepth 100000 in
set_option maxHeartbeats 4000000 in
theorem inT_wsL_law_r2 : ∀ w ∈ wsL_law_r2, w ∈ lw_tbl := in_places [(1, 143), (1, 5), (2, 46), (1, 171), (1, 172), (1, 6), (2, 47), (1, 192), (1, 193), (1, 7), (2, 48), (1, 220), (1, 221), (1, 8), (2, 49), (1, 237), (1, 238), (1, 9), (2, 50), (2, 20), (2, 21), (1, 10), (2, 51), (2, 52)] rfl
set_option maxRecDepth 100000 in
set_option maxHeartbeats 4000000 in
theorem inT_wsL_law_r3 : ∀ w ∈ wsL_law_r3, w ∈ lw_tbl := in_places [(2, 53), (2, 54), (2, 55), (1, 26), (1, 27), (1, 28), (1, 29), (1, 87), (1, 30), (1, 31), (1, 34), (1, 37), (1, 40), (1, 42), (1, 43), (1, 58), (1, 92), (1, 93), (1, 94), (1, 95), (1, 96), (1, 97), (1, 104), (1, 105)] rfl
set_option maxRecDepth 100000 in
set_option maxHeartbeats 4000000 in
theorem inT_wsL_law_r4 : ∀ w ∈ wsL_law_r4, w ∈ lw_tbl := in_places [(1, 106), (1, 107), (1, 108), (1, 109), (1, 110), (1, 111), (1, 112), (1, 113), (1, 114), (1, 144), (1, 145), (1, 146), (1, 147), (1, 148), (1, 149), (1, 156), (1, 173), (1, 174), (1, 175), (1, 176), (1, 177), (1, 178), (1, 179), (1, 181)] rfl
set_option maxRecDepth 100000 in
set_option maxHeartbeats 4000000 in
theorem inT_wsL_law_r5 : ∀ w ∈ wsL_law_r5, w ∈ lw_tbl := in_places [(1, 194), (1, 195), (1, 196), (1, 197), (1, 198), (1, 199), (1, 200), (1, 201), (1, 202), (1, 203), (1, 204), (1, 222), (1, 223), (1, 224), (1, 225), (1, 226), (1, 227), (1, 228), (1, 239), (2, 0), (2, 1), (2, 2), (2, 3), (2, 4)] rfl
set_option maxRecDepth 100000 in
set_option maxHeartbeats 4000000 in
theorem inT_wsL_law_r6 : ∀ w ∈ wsL_law_r6, w ∈ lw_tbl := in_places [(2, 5), (2, 6), (2, 7), (2, 22), (2, 23), (2, 24), (2, 25), (2, 29), (2, 30), (2, 31), (2, 33), (2, 26), (2, 27), (1, 11), (2, 28), (4, 131), (4, 132), (4, 133), (4, 134), (4, 136), (4, 138), (4, 139), (4, 140), (4, 141)] rfl
set_option maxRecDepth 100000 in
set_option maxHeartbeats 4000000 in
theorem inT_wsL_law_r7 : ∀ w ∈ wsL_law_r7, w ∈ lw_tbl := in_places [(4, 142), (4, 143), (4, 144), (4, 145), (4, 146), (4, 147), (4, 148), (4, 149), (4, 150), (4, 151), (4, 152), (4, 153), (4, 155), (4, 156), (4, 157), (4, 158), (4, 160), (4, 161), (4, 163), (4, 164), (4, 165), (5, 7), (4, 166), (4, 167)] rfl
set_option maxRecDepth 100000 in
set_option maxHeartbeats 4000000 in
theorem inT_wsL_law_r8 : ∀ w ∈ wsL_law_r8, w ∈ lw_tbl := in_places [(4, 168), (4, 169), (4, 170), (2, 81), (2, 82), (2, 83), (2, 84), (1, 46), (2, 85), (2, 86), (2, 87), (2, 88), (1, 45), (2, 89), (2, 91), (0, 0), (2, 92), (1, 44), (1, 50), (1, 55), (2, 93), (2, 95), (0, 1), (2, 96)] rfl
set_option maxRecDepth 100000 in
set_option maxHeartbeats 4000000 in
theorem inT_wsL_law_r9 : ∀ w ∈ wsL_law_r9, w ∈ lw_tbl := in_places [(1, 54), (2, 97), (2, 98), (2, 100), (0, 2), (2, 101), (2, 102), (2, 104), (0, 3), (2, 105), (2, 106), (2, 108), (0, 4), (2, 109), (2, 110), (2, 112), (0, 5), (2, 113), (2, 114), (2, 116), (0, 6), (2, 117), (2, 118), (2, 120)] rfl
set_option maxRecDepth 100000 in
set_option maxHeartbeats 4000000 in
theorem inT_wsL_law_r10 : ∀ w ∈ wsL_law_r10, w ∈ lw_tbl := in_places [(0, 7), (2, 121), (2, 122), (2, 123), (2, 124), (2, 125), (2, 127), (0, 8), (2, 128), (2, 129), (2, 131), (0, 9), (2, 132), (1, 157), (2, 133), (2, 135), (0, 10), (2, 136), (1, 182), (5, 8), (5, 9), (5, 10), (5, 11), (4, 135)] rfl
set_option maxRecDepth 100000 in
set_option maxHeartbeats 4000000 in
theorem inT_wsL_law_r11 : ∀ w ∈ wsL_law_r11, w ∈ lw_tbl := in_places [(5, 12), (5, 13), (5, 14), (2, 137), (2, 138), (2, 139), (2, 140), (2, 141), (2, 142), (2, 143), (2, 144), (5, 15), (5, 16), (5, 17), (5, 18), (2, 145), (2, 146), (2, 147), (2, 148), (1, 59), (5, 19), (5, 20), (5, 21), (5, 22)] rfl
set_option maxRecDepth 100000 in
set_option maxHeartbeats 4000000 in
theorem inT_wsL_law_r12 : ∀ w ∈ wsL_law_r12, w ∈ lw_tbl := in_places [(5, 23), (5, 25), (0, 24), (5, 26), (4, 137), (5, 27), (5, 29), (0, 25), (5, 30), (5, 31), (5, 33), (0, 26), (5, 34), (5, 35), (5, 36), (5, 37), (5, 38), (5, 40), (0, 27), (5, 41), (2, 149), (2, 150), (2, 151), (2, 152)] rfl
set_option maxRecDepth 100000 in
set_option maxHeartbeats 4000000 in
theorem inT_wsL_law_r13 : ∀ w ∈ wsL_law_r13, w ∈ lw_tbl := in_places [(1, 32), (1, 35), (1, 53), (1, 38), (1, 56), (2, 153), (2, 155), (0, 11), (2, 156), (1, 52), (5, 42), (5, 43), (5, 44), (5, 45), (5, 46), (5, 48), (0, 28), (5, 49), (5, 50), (5, 52), (0, 29), (5, 53), (2, 157), (2, 158)] rfl
set_option maxRecDepth 100000 in
set_option maxHeartbeats 4000000 in
theorem inT_wsL_law_r14 : ∀ w ∈ wsL_law_r14, w ∈ lw_tbl := in_places [(2, 159), (2, 160), (5, 54), (5, 55), (5, 56), (5, 57), (2, 161), (2, 162), (2, 163), (2, 164), (2, 165), (2, 167), (0, 12), (2, 168), (2, 169), (2, 170), (2, 171), (2, 172), (1, 118), (1, 48), (1, 119), (1, 120), (2, 173), (2, 175)] rfl
set_option maxRecDepth 100000 in
set_option maxHeartbeats 4000000 in
theorem inT_wsL_law_r15 : ∀ w ∈ wsL_law_r15, w ∈ lw_tbl := in_places [(0, 13), (2, 176), (1, 98), (2, 177), (2, 178), (2, 179), (2, 180), (2, 181), (2, 182), (2, 183), (2, 184), (1, 13), (2, 185), (2, 186), (2, 187), (2, 188), (2, 189), (2, 190), (2, 191), (2, 192), (2, 193), (2, 194), (2, 195), (2, 196)] rfl
set_option maxRecDepth 100000 in
set_option maxHeartbeats 4000000 in
theorem inT_wsL_law_r16 : ∀ w ∈ wsL_law_r16, w ∈ lw_tbl := in_places [(2, 198), (2, 199), (2, 200), (2, 202), (2, 201), (1, 14), (2, 203), (2, 205), (0, 14), (2, 206), (2, 207), (2, 209), (0, 15), (2, 210), (1, 33), (1, 36), (2, 211), (2, 212), (2, 213), (2, 214), (2, 215), (2, 217), (0, 16), (2, 218)] rfl
set_option maxRecDepth 100000 in
set_option maxHeartbeats 4000000 in
theorem inT_wsL_law_r17 : ∀ w ∈ wsL_law_r17, w ∈ lw_tbl := in_places [(1, 39), (1, 41), (2, 219), (2, 220), (2, 221), (2, 222), (2, 223), (2, 224), (2, 225), (2, 226), (2, 227), (2, 228), (2, 229), (2, 230), (2, 231), (2, 232), (5, 58), (5, 59), (5, 60), (5, 61), (5, 62), (5, 64), (0, 30), (5, 65)] rfl
set_option maxRecDepth 100000 in
set_option maxHeartbeats 4000000 in
theorem inT_wsL_law_r18 : ∀ w ∈ wsL_law_r18, w ∈ lw_tbl := in_places [(5, 66), (5, 68), (0, 31), (5, 69), (5, 70), (5, 72), (0, 32), (5, 73), (5, 74), (5, 75), (5, 76), (5, 77), (5, 78), (5, 79), (5, 81), (0, 33), (5, 82), (5, 83), (5, 85), (0, 34), (5, 86), (5, 87), (5, 89), (0, 35)] rfl
set_option maxRecDepth 100000 in
set_option maxHeartbeats 4000000 in
theorem inT_wsL_law_r19 : ∀ w ∈ wsL_law_r19, w ∈ lw_tbl := in_places [(5, 90), (5, 91), (5, 92), (5, 93), (2, 233), (2, 234), (2, 235), (2, 236), (2, 237), (2, 238), (2, 239), (3, 0), (3, 1), (3, 2), (3, 3), (3, 4), (3, 5), (3, 6), (3, 7), (3, 8), (5, 94), (5, 95), (5, 96), (5, 97)] rfl
set_option maxRecDepth 100000 in
set_option maxHeartbeats 4000000 in
theorem inT_wsL_law_r20 : ∀ w ∈ wsL_law_r20, w ∈ lw_tbl := in_places [(5, 98), (5, 99), (5, 100), (5, 101), (5, 103), (0, 36), (5, 104), (5, 105), (5, 107), (0, 37), (5, 108), (3, 9), (3, 10), (3, 11), (3, 12), (3, 13), (3, 14), (3, 15), (3, 16), (5, 109), (5, 110), (5, 111), (5, 112), (5, 113)] rfl
set_option maxRecDepth 100000 in
set_option maxHeartbeats 4000000 in
theorem inT_wsL_law_r21 : ∀ w ∈ wsL_law_r21, w ∈ lw_tbl := in_places [(5, 115), (0, 38), (5, 116), (5, 117), (5, 119), (0, 39), (5, 120), (3, 17), (3, 18), (3, 19), (3, 20), (3, 21), (3, 22), (3, 23), (3, 24), (3, 25), (3, 26), (3, 27), (5, 121), (5, 122), (5, 123), (5, 124), (3, 28), (3, 29)] rfl
set_option maxRecDepth 100000 in
set_option maxHeartbeats 4000000 in
theorem inT_wsL_law_r22 : ∀ w ∈ wsL_law_r22, w ∈ lw_tbl := in_places [(3, 30), (3, 31), (3, 32), (3, 33), (3, 34), (3, 35), (3, 36), (3, 38), (0, 17), (3, 39), (5, 125), (5, 126), (5, 127), (5, 128), (5, 129), (5, 131), (0, 40), (5, 132), (5, 133), (5, 135), (0, 41), (5, 136), (3, 40), (3, 41)] rfl
set_option maxRecDepth 100000 in
set_option maxHeartbeats 4000000 in
theorem inT_wsL_law_r23 : ∀ w ∈ wsL_law_r23, w ∈ lw_tbl := in_places [(3, 42), (3, 43), (3, 44), (3, 45), (3, 46), (3, 47), (3, 48), (5, 137), (5, 138), (5, 139), (5, 140), (5, 141), (5, 143), (0, 42), (5, 144), (5, 145), (5, 147), (0, 43), (5, 148), (3, 49), (3, 50), (3, 51), (3, 52), (3, 53)] rfl
set_option maxRecDepth 100000 in
set_option maxHeartbeats 4000000 in
theorem inT_wsL_law_r24 : ∀ w ∈ wsL_law_r24, w ∈ lw_tbl := in_places [(3, 54), (3, 55), (3, 56), (5, 149), (5, 150), (5, 151), (5, 152), (3, 57), (3, 58), (3, 59), (3, 60), (1, 117), (5, 153), (5, 154), (5, 155), (5, 156), (5, 157), (5, 159), (0, 44), (5, 160), (3, 61), (3, 62), (3, 63), (3, 64)] rfl
set_option maxRecDepth 100000 in
set_option maxHeartbeats 4000000 in
theorem inT_wsL_law_r25 : ∀ w ∈ wsL_law_r25, w ∈ lw_tbl := in_places [(1, 151), (1, 153), (1, 155), (3, 65), (3, 66), (3, 67), (3, 68), (1, 150), (1, 152), (1, 154), (1, 49), (3, 69), (3, 70), (3, 71), (3, 72), (1, 15), (3, 73), (3, 74), (3, 75), (3, 76), (3, 77), (3, 78), (3, 80), (0, 18)] rfl
set_option maxRecDepth 100000 in
set_option maxHeartbeats 4000000 in
theorem inT_wsL_law_r26 : ∀ w ∈ wsL_law_r26, w ∈ lw_tbl := in_places [(3, 81), (5, 161), (5, 162), (5, 163), (5, 164), (5, 165), (5, 167), (0, 45), (5, 168), (3, 82), (3, 83), (3, 84), (3, 85), (3, 86), (3, 87), (3, 88), (3, 89), (3, 90), (3, 91), (3, 92), (3, 93), (5, 169), (5, 170), (5, 171)] rfl
set_option maxRecDepth 100000 in
set_option maxHeartbeats 4000000 in
theorem inT_wsL_law_r27 : ∀ w ∈ wsL_law_r27, w ∈ lw_tbl := in_places [(5, 172), (5, 173), (5, 175), (0, 46), (5, 176), (3, 94), (3, 95), (3, 96), (3, 97), (3, 98), (3, 99), (3, 100), (3, 101), (3, 102), (3, 103), (3, 104), (3, 105), (3, 106), (3, 107), (5, 177), (5, 178), (5, 179), (5, 180), (5, 181)] rfl
set_option maxRecDepth 100000 in
set_option maxHeartbeats 4000000 in
theorem inT_wsL_law_r28 : ∀ w ∈ wsL_law_r28, w ∈ lw_tbl := in_places [(5, 182), (5, 183), (5, 184), (5, 185), (5, 186), (3, 108), (3, 109), (3, 110), (3, 111), (3, 112), (3, 113), (3, 114), (3, 115), (3, 116), (3, 117), (3, 118), (3, 119), (3, 120), (5, 187), (5, 188), (5, 189), (5, 190), (3, 121), (3, 122)] rfl
set_option maxRecDepth 100000 in
set_option maxHeartbeats 4000000 in
theorem inT_wsL_law_r29 : ∀ w ∈ wsL_law_r29, w ∈ lw_tbl := in_places [(3, 123), (3, 124), (3, 125), (3, 126), (3, 127), (3, 128), (1, 51), (1, 57), (1, 116), (3, 129), (3, 130), (3, 131), (3, 132), (3, 133), (3, 134), (3, 135), (3, 136), (3, 137), (3, 139), (0, 19), (3, 140), (3, 141), (3, 142), (3, 143)] rfl
set_option maxRecDepth 100000 in
set_option maxHeartbeats 4000000 in
theorem inT_wsL_law_r30 : ∀ w ∈ wsL_law_r30, w ∈ lw_tbl := in_places [(3, 144), (3, 145), (3, 146), (3, 147), (3, 149), (0, 20), (3, 150), (3, 151), (3, 153), (0, 21), (3, 154), (3, 155), (3, 156), (3, 157), (3, 158), (3, 159), (3, 160), (3, 161), (3, 162), (5, 191), (5, 192), (5, 193), (5, 194), (5, 195)] rfl
set_option maxRecDepth 100000 in
set_option maxHeartbeats 4000000 in
theorem inT_wsL_law_r31 : ∀ w ∈ wsL_law_r31, w ∈ lw_tbl := in_places [(5, 197), (0, 47), (5, 198), (5, 199), (5, 201), (0, 48), (5, 202), (4, 154), (5, 203), (5, 205), (0, 49), (5, 206), (5, 207), (5, 209), (0, 50), (5, 210), (3, 163), (3, 164), (3, 165), (3, 166), (5, 211), (5, 212), (5, 213), (5, 214)] rfl
set_option maxRecDepth 100000 in
set_option maxHeartbeats 4000000 in
theorem inT_wsL_law_r32 : ∀ w ∈ wsL_law_r32, w ∈ lw_tbl := in_places [(5, 215), (5, 217), (0, 51), (5, 218), (3, 167), (3, 168), (3, 169), (3, 170), (3, 171), (3, 172), (3, 173), (3, 174), (5, 219), (5, 220), (5, 221), (5, 222), (5, 223), (5, 225), (0, 52), (5, 226), (4, 159), (3, 175), (3, 176), (3, 177)] rfl
set_option maxRecDepth 100000 in
set_option maxHeartbeats 4000000 in
theorem inT_wsL_law_r33 : ∀ w ∈ wsL_law_r33, w ∈ lw_tbl := in_places [(3, 178), (2, 32), (3, 179), (3, 180), (3, 181), (3, 182), (3, 183), (3, 184), (3, 185), (3, 186), (3, 187), (3, 188), (3, 189), (3, 190), (3, 191), (3, 192), (3, 193), (5, 227), (5, 228), (5, 229), (5, 230), (5, 231), (5, 232), (5, 233)] rfl
set_option maxRecDepth 100000 in
set_option maxHeartbeats 4000000 in
theorem inT_wsL_law_r34 : ∀ w ∈ wsL_law_r34, w ∈ lw_tbl := in_places [(5, 234), (5, 236), (0, 53), (5, 237), (4, 171), (3, 194), (3, 195), (3, 196), (3, 197), (1, 229), (5, 238), (5, 239), (6, 0), (6, 1), (3, 198), (3, 199), (3, 200), (3, 201), (3, 202), (3, 203), (3, 204), (3, 205), (6, 2), (6, 3)] rfl
set_option maxRecDepth 100000 in
set_option maxHeartbeats 4000000 in
theorem inT_wsL_law_r35 : ∀ w ∈ wsL_law_r35, w ∈ lw_tbl := in_places [(6, 4), (6, 5), (6, 6), (6, 8), (0, 54), (6, 9), (6, 10), (6, 12), (0, 55), (6, 13), (3, 206), (3, 207), (3, 208), (3, 209), (1, 180), (3, 210), (3, 211), (3, 212), (3, 213), (1, 47), (1, 115), (3, 215), (3, 214), (6, 14)] rfl
set_option maxRecDepth 100000 in
set_option maxHeartbeats 4000000 in
theorem inT_wsL_law_r36 : ∀ w ∈ wsL_law_r36, w ∈ lw_tbl := in_places [(6, 15), (6, 16), (6, 17), (6, 18), (6, 20), (0, 56), (6, 21), (3, 216), (3, 217), (3, 218), (3, 219), (3, 220), (3, 221), (3, 222), (3, 223), (3, 224), (3, 225), (3, 226), (6, 22), (6, 23), (6, 24), (6, 25), (4, 162), (3, 227)] rfl
set_option maxRecDepth 100000 in
set_option maxHeartbeats 4000000 in
theorem inT_wsL_law_r37 : ∀ w ∈ wsL_law_r37, w ∈ lw_tbl := in_places [(3, 228), (3, 229), (3, 230), (3, 231), (3, 232), (3, 233), (3, 234), (6, 26), (6, 27), (6, 28), (6, 29), (3, 235), (3, 236), (3, 237), (3, 238), (3, 239), (4, 0), (4, 1), (4, 2), (4, 3), (4, 4), (4, 5), (4, 6), (4, 7)] rfl
set_option maxRecDepth 100000 in
set_option maxHeartbeats 4000000 in
theorem inT_wsL_law_r38 : ∀ w ∈ wsL_law_r38, w ∈ lw_tbl := in_places [(4, 8), (4, 9), (4, 10), (6, 30), (6, 31), (6, 32), (6, 33), (6, 34), (6, 36), (0, 57), (6, 37), (6, 38), (6, 40), (0, 58), (6, 41), (4, 11), (4, 12), (4, 13), (4, 14), (4, 15), (4, 16), (4, 17), (4, 18), (4, 19)] rfl
set_option maxRecDepth 100000 in
set_option maxHeartbeats 4000000 in
theorem inT_wsL_law_r39 : ∀ w ∈ wsL_law_r39, w ∈ lw_tbl := in_places [(4, 20), (4, 21), (4, 22), (4, 23), (4, 24), (4, 25), (4, 26), (4, 27), (4, 28), (4, 29), (4, 30), (4, 32), (0, 22), (4, 33), (4, 34), (6, 42), (6, 43), (6, 44), (6, 45), (6, 46), (6, 48), (0, 59), (6, 49), (6, 50)] rfl
set_option maxRecDepth 100000 in
set_option maxHeartbeats 4000000 in
theorem inT_wsL_law_r40 : ∀ w ∈ wsL_law_r40, w ∈ lw_tbl := in_places [(6, 52), (0, 60), (6, 53), (4, 35), (4, 36), (4, 37), (4, 38), (4, 39), (4, 40), (4, 41), (4, 42), (4, 43), (4, 44), (4, 45), (4, 46), (4, 47), (4, 48), (4, 49), (4, 50), (6, 54), (6, 55), (6, 56), (6, 57), (4, 51)] rfl
set_option maxRecDepth 100000 in
set_option maxHeartbeats 4000000 in
theorem inT_wsL_law_r41 : ∀ w ∈ wsL_law_r41, w ∈ lw_tbl := in_places [(4, 52), (4, 53), (4, 54), (4, 55), (4, 56), (4, 57), (4, 58), (4, 59), (6, 58), (6, 59), (6, 60), (6, 61), (4, 60), (4, 61), (4, 62), (4, 63), (4, 64), (4, 65), (4, 66), (4, 67), (4, 68), (6, 62), (6, 63), (6, 64)] rfl
set_option maxRecDepth 100000 in
set_option maxHeartbeats 4000000 in
theorem inT_wsL_law_r42 : ∀ w ∈ wsL_law_r42, w ∈ lw_tbl := in_places [(6, 65), (6, 66), (6, 68), (0, 61), (6, 69), (6, 70), (6, 72), (0, 62), (6, 73), (4, 69), (4, 70), (4, 71), (4, 72), (4, 73), (6, 74), (6, 75), (6, 76), (6, 77), (6, 78), (4, 74), (4, 75), (4, 76), (4, 77), (4, 78)] rfl
set_option maxRecDepth 100000 in
set_option maxHeartbeats 4000000 in
theorem inT_wsL_law_r43 : ∀ w ∈ wsL_law_r43, w ∈ lw_tbl := in_places [(4, 79), (4, 80), (4, 81), (4, 86), (4, 82), (4, 84), (0, 23), (4, 85), (6, 79), (6, 80), (6, 81), (6, 82), (4, 87), (4, 88), (4, 89), (4, 90), (4, 91), (6, 83), (6, 84), (6, 85), (6, 86), (4, 92), (4, 93), (4, 94)] rfl
set_option maxRecDepth 100000 in
set_option maxHeartbeats 4000000 in
theorem inT_wsL_law_r44 : ∀ w ∈ wsL_law_r44, w ∈ lw_tbl := in_places [(4, 95), (2, 8), (2, 34), (4, 96), (4, 97), (4, 98), (4, 99), (4, 100), (4, 101), (4, 102), (4, 103), (4, 104), (4, 105), (6, 87), (6, 88), (6, 89), (6, 90), (6, 91), (6, 93), (0, 63), (6, 94), (4, 106), (4, 107), (4, 108)] rfl
set_option maxRecDepth 100000 in
set_option maxHeartbeats 4000000 in
theorem inT_wsL_law_r45 : ∀ w ∈ wsL_law_r45, w ∈ lw_tbl := in_places [(4, 109), (4, 110), (4, 111), (4, 112), (4, 113), (4, 114), (4, 115), (4, 116), (4, 117), (4, 118), (4, 119), (4, 120), (4, 121), (4, 122), (4, 123), (4, 124), (4, 125), (4, 126), (4, 127), (4, 128), (6, 95), (6, 96), (6, 97), (6, 98)] rfl
set_option maxRecDepth 100000 in
set_option maxHeartbeats 4000000 in
theorem inT_wsL_law_r46 : ∀ w ∈ wsL_law_r46, w ∈ lw_tbl := in_places [(6, 99), (6, 100), (6, 101)] rfl
set_option maxRecDepth 100000 in
set_option maxHeartbeats 4000000 in
theorem inT_wsX90 : ∀ w ∈ wsX90, w ∈ lw_tbl := in_places [(2, 56), (2, 58), (2, 60), (2, 62), (2, 64), (2, 66), (2, 68), (2, 70), (2, 72), (2, 74), (2, 76), (2, 78)] rfl
set_option maxRecDepth 100000 in
set_option maxHeartbeats 4000000 in
theorem inT_wsX100 : ∀ w ∈ wsX100, w ∈ lw_tbl := in_places [(4, 172), (4, 174), (4, 176), (4, 178), (4, 180), (4, 182), (4, 184), (4, 186), (4, 188), (4, 190), (4, 192), (4, 194), (4, 196), (4, 198), (4, 200), (4, 202), (4, 204), (4, 206), (4, 208), (4, 210), (4, 212), (4, 214), (4, 216), (4, 218), (4, 220), (4, 222), (4, 224), (4, 226), (4, 228), (4, 230), (4, 232), (4, 234), (4, 236), (4, 238), (5, 0), (5, 2), (5, 4)] rfl
set_option maxRecDepth 100000 in
set_option maxHeartbeats 4000000 in
theorem inT_wsX50 : ∀ w ∈ wsX50, w ∈ lw_tbl := in_places [(1, 60), (1, 62), (1, 64), (1, 66), (1, 68), (1, 70), (1, 72), (1, 74), (1, 76), (1, 78), (1, 80), (1, 82), (1, 84)] rfl
set_option maxRecDepth 100000 in
set_option maxHeartbeats 4000000 in
theorem inT_wsX80 : ∀ w ∈ wsX80, w ∈ lw_tbl := in_places [(1, 121), (1, 123), (1, 125), (1, 127), (1, 129), (1, 131), (1, 133), (1, 135), (1, 137), (1, 139)] rfl
set_option maxRecDepth 100000 in
set_option maxHeartbeats 4000000 in
theorem inT_wsX10 : ∀ w ∈ wsX10, w ∈ lw_tbl := in_places [(1, 99), (1, 101)] rfl
set_option maxRecDepth 100000 in
set_option maxHeartbeats 4000000 in
theorem inT_wsX00 : ∀ w ∈ wsX00, w ∈ lw_tbl := in_places [(1, 158), (1, 160), (1, 162), (1, 164), (1, 166), (1, 168)] rfl
set_option maxRecDepth 100000 in
set_option maxHeartbeats 4000000 in
theorem inT_wsX70 : ∀ w ∈ wsX70, w ∈ lw_tbl := in_places [(1, 183), (1, 185), (1, 187), (1, 189)] rfl
set_option maxRecDepth 100000 in
set_option maxHeartbeats 4000000 in
theorem inT_wsX30 : ∀ w ∈ wsX30, w ∈ lw_tbl := in_places [(1, 205), (1, 207), (1, 209), (1, 211), (1, 213), (1, 215), (1, 217)] rfl
set_option maxRecDepth 100000 in
set_option maxHeartbeats 4000000 in
theorem inT_wsX20 : ∀ w ∈ wsX20, w ∈ lw_tbl := in_places [(1, 230), (1, 232), (1, 234)] rfl
set_option maxRecDepth 100000 in
set_option maxHeartbeats 4000000 in
theorem inT_wsX40 : ∀ w ∈ wsX40, w ∈ lw_tbl := in_places [(2, 9), (2, 11), (2, 13), (2, 15), (2, 17)] rfl
set_option maxRecDepth 100000 in
set_option maxHeartbeats 4000000 in
theorem inT_wsX60 : ∀ w ∈ wsX60, w ∈ lw_tbl := in_places [(2, 35), (2, 37), (2, 39), (2, 41)] rfl
theorem wsL_tbl : ∀ w ∈ wsL_law, w ∈ lw_tbl := by
  intro w h
  unfold wsL_law at h
  rcases List.mem_append.mp h with h | h
  rotate_left
  · exact absurd h List.not_mem_nil
  rcases List.mem_append.mp h with h | h
  rotate_left
  · exact inT_wsX60 w h
  rcases List.mem_append.mp h with h | h
  rotate_left
  · exact inT_wsX40 w h
  rcases List.mem_append.mp h with h | h
  rotate_left
  · exact inT_wsX20 w h
  rcases List.mem_append.mp h with h | h
  rotate_left
  · exact inT_wsX30 w h
  rcases List.mem_append.mp h with h | h
  rotate_left
  · exact inT_wsX70 w h
  rcases List.mem_append.mp h with h | h
  rotate_left
  · exact inT_wsX00 w h
  rcases List.mem_append.mp h with h | h
  rotate_left
  · exact inT_wsX10 w h
  rcases List.mem_append.mp h with h | h
  rotate_left
  · exact inT_wsX80 w h
  rcases List.mem_append.mp h with h | h
  rotate_left
  · exact inT_wsX50 w h
  rcases List.mem_append.mp h with h | h
  rotate_left
  · exact inT_wsX100 w h
  rcases List.mem_append.mp h with h | h
  rotate_left
  · exact inT_wsX90 w h
  rcases List.mem_append.mp h with h | h
  · exact inT_wsL_law_r1 w h
  rcases List.mem_append.mp h with h | h
  · exact inT_wsL_law_r2 w h
  rcases List.mem_append.mp h with h | h
  · exact inT_wsL_law_r3 w h
  rcases List.mem_append.mp h with h | h
  · exact inT_wsL_law_r4 w h
  rcases List.mem_append.mp h with h | h
  · exact inT_wsL_law_r5 w h
  rcases List.mem_append.mp h with h | h
  · exact inT_wsL_law_r6 w h
  rcases List.mem_append.mp h with h | h
  · exact inT_wsL_law_r7 w h
  rcases List.mem_append.mp h with h | h
  · exact inT_wsL_law_r8 w h
  rcases List.mem_append.mp h with h | h
  · exact inT_wsL_law_r9 w h
  rcases List.mem_append.mp h with h | h
  · exact inT_wsL_law_r10 w h
  rcases List.mem_append.mp h with h | h
  · exact inT_wsL_law_r11 w h
  rcases List.mem_append.mp h with h | h
  · exact inT_wsL_law_r12 w h
  rcases List.mem_append.mp h with h | h
  · exact inT_wsL_law_r13 w h
  rcases List.mem_append.mp h with h | h
  · exact inT_wsL_law_r14 w h
  rcases List.mem_append.mp h with h | h
  · exact inT_wsL_law_r15 w h
  rcases List.mem_append.mp h with h | h
  · exact inT_wsL_law_r16 w h
  rcases List.mem_append.mp h with h | h
  · exact inT_wsL_law_r17 w h
  rcases List.mem_append.mp h with h | h
  · exact inT_wsL_law_r18 w h
  rcases List.mem_append.mp h with h | h
  · exact inT_wsL_law_r19 w h
  rcases List.mem_append.mp h with h | h
  · exact inT_wsL_law_r20 w h
  rcases List.mem_append.mp h with h | h
  · exact inT_wsL_law_r21 w h
  rcases List.mem_append.mp h with h | h
  · exact inT_wsL_law_r22 w h
  rcases List.mem_append.mp h with h | h
  · exact inT_wsL_law_r23 w h
  rcases List.mem_append.mp h with h | h
  · exact inT_wsL_law_r24 w h
  rcases List.mem_append.mp h with h | h
  · exact inT_wsL_law_r25 w h
  rcases List.mem_append.mp h with h | h
  · exact inT_wsL_law_r26 w h
  rcases List.mem_append.mp h with h | h
  · exact inT_wsL_law_r27 w h
  rcases List.mem_append.mp h with h | h
  · exact inT_wsL_law_r28 w h
  rcases List.mem_append.mp h with h | h
  · exact inT_wsL_law_r29 w h
  rcases List.mem_append.mp h with h | h
  · exact inT_wsL_law_r30 w h
  rcases List.mem_append.mp h with h | h
  · exact inT_wsL_law_r31 w h
  rcases List.mem_append.mp h with h | h
  · exact inT_wsL_law_r32 w h
  rcases List.mem_append.mp h with h | h
  · exact inT_wsL_law_r33 w h
  rcases List.mem_append.mp h with h | h
  · exact inT_wsL_law_r34 w h
  rcases List.mem_append.mp h with h | h
  · exact inT_wsL_law_r35 w h
  rcases List.mem_append.mp h with h | h
  · exact inT_wsL_law_r36 w h
  rcases List.mem_append.mp h with h | h
  · exact inT_wsL_law_r37 w h
  rcases List.mem_append.mp h with h | h
  · exact inT_wsL_law_r38 w h
  rcases List.mem_append.mp h with h | h
  · exact inT_wsL_law_r39 w h
  rcases List.mem_append.mp h with h | h
  · exact inT_wsL_law_r40 w h
  rcases List.mem_append.mp h with h | h
  · exact inT_wsL_law_r41 w h
  rcases List.mem_append.mp h with h | h
  · exact inT_wsL_law_r42 w h
  rcases List.mem_append.mp h with h | h
  · exact inT_wsL_law_r43 w h
  rcases List.mem_append.mp h with h | h
  · exact inT_wsL_law_r44 w h
  rcases List.mem_append.mp h with h | h
  · exact inT_wsL_law_r45 w h
  exact inT_wsL_law_r46 w h
