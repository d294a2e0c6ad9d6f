/-- the tables' words, chunk by chunk -/
def x_ch : Nat → List Cond
  | 0 => x_sel3
  | 1 => k2_sels lw_privs
  | 2 => tables_1_1
  | 3 => tables_1_2
  | 4 => tables_1_3
  | 5 => tables_1_4
  | 6 => tables_1_5
  | 7 => tables_1_6
  | 8 => tables_1_7
  | 9 => tables_1_8
  | _ => []
theorem x_ch_in : ∀ k : Nat, ∀ w ∈ x_ch k, w ∈ x_tbl
  | 0, _, h => List.mem_append_left _ h
  | 1, _, h => List.mem_append_right _ (List.mem_append_left _ h)
  | 2, _, h => List.mem_append_right _ (List.mem_append_right _ (List.mem_append_left _ h))
  | 3, _, h => List.mem_append_right _ (List.mem_append_right _ (List.mem_append_right _ (List.mem_append_left _ h)))
  | 4, _, h => List.mem_append_right _ (List.mem_append_right _ (List.mem_append_right _ (List.mem_append_right _ (List.mem_append_left _ h))))
  | 5, _, h => List.mem_append_right _ (List.mem_append_right _ (List.mem_append_right _ (List.mem_append_right _ (List.mem_append_right _ (List.mem_append_left _ h)))))
  | 6, _, h => List.mem_append_right _ (List.mem_append_right _ (List.mem_append_right _ (List.mem_append_right _ (List.mem_append_right _ (List.mem_append_right _ (List.mem_append_left _ h))))))
  | 7, _, h => List.mem_append_right _ (List.mem_append_right _ (List.mem_append_right _ (List.mem_append_right _ (List.mem_append_right _ (List.mem_append_right _ (List.mem_append_right _ (List.mem_append_left _ h)))))))
  | 8, _, h => List.mem_append_right _ (List.mem_append_right _ (List.mem_append_right _ (List.mem_append_right _ (List.mem_append_right _ (List.mem_append_right _ (List.mem_append_right _ (List.mem_append_right _ (List.mem_append_left _ h))))))))
  | 9, _, h => List.mem_append_right _ (List.mem_append_right _ (List.mem_append_right _ (List.mem_append_right _ (List.mem_append_right _ (List.mem_append_right _ (List.mem_append_right _ (List.mem_append_right _ (List.mem_append_right _ (h)))))))))
  | k + 10, w, h => by
    have h : w ∈ ([] : List Cond) := h
    cases h
theorem x_rr {ws : List Cond} (rs : List (Nat × Nat × Nat)) (hp : ws = rs.flatMap (fun r => ((x_ch r.1).drop r.2.1).take r.2.2)) : ∀ w ∈ ws, w ∈ x_tbl := fun w hw => by
  rw [hp] at hw
  obtain ⟨r, -, h2⟩ := List.mem_flatMap.mp hw
  exact x_ch_in _ w (List.mem_of_mem_drop (List.mem_of_mem_take h2))
set_option maxRecDepth 20000 in
theorem wsL_law0_r1_in : ∀ w ∈ wsL_law0_r1, w ∈ x_tbl := x_rr [(2, 31, 2), (2, 1, 1), (7, 170, 2), (2, 10, 1), (9, 176, 2), (2, 33, 8), (2, 2, 1), (2, 228, 3), (2, 232, 1), (2, 174, 2), (2, 5, 1)] rfl
set_option maxRecDepth 20000 in
theorem wsL_law0_r2_in : ∀ w ∈ wsL_law0_r2, w ∈ x_tbl := x_rr [(2, 234, 3), (2, 226, 1), (2, 181, 1), (2, 7, 1), (2, 237, 1), (2, 172, 1), (2, 238, 1), (2, 41, 5), (2, 115, 1), (2, 47, 1), (2, 3, 1), (2, 87, 1), (2, 123, 1), (2, 89, 1), (2, 4, 1), (2, 119, 1), (2, 125, 1), (2, 127, 1)] rfl
set_option maxRecDepth 20000 in
theorem wsL_law0_r3_in : ∀ w ∈ wsL_law0_r3, w ∈ x_tbl := x_rr [(2, 49, 3), (2, 91, 3), (2, 100, 1), (2, 177, 4), (2, 213, 1), (2, 215, 1), (2, 182, 5), (2, 6, 1), (2, 187, 3), (2, 212, 1), (2, 198, 1)] rfl
set_option maxRecDepth 20000 in
theorem wsL_law0_r4_in : ∀ w ∈ wsL_law0_r4, w ∈ x_tbl := x_rr [(2, 199, 1), (2, 191, 2), (2, 9, 1), (2, 193, 5), (2, 227, 1), (7, 172, 4), (7, 179, 4), (7, 184, 1), (7, 186, 2), (7, 189, 1), (7, 191, 1), (8, 3, 1)] rfl
set_option maxRecDepth 20000 in
theorem wsL_law0_r5_in : ∀ w ∈ wsL_law0_r5, w ∈ x_tbl := x_rr [(7, 193, 3), (7, 176, 3), (5, 36, 2), (2, 0, 1), (5, 38, 2), (5, 41, 4), (5, 24, 4), (2, 117, 1), (2, 121, 1), (2, 129, 1), (2, 131, 1), (2, 133, 1)] rfl
set_option maxRecDepth 20000 in
theorem wsL_law0_r6_in : ∀ w ∈ wsL_law0_r6, w ∈ x_tbl := x_rr [(2, 135, 1), (2, 137, 1), (2, 139, 1), (2, 141, 1), (5, 28, 4), (2, 52, 1), (2, 55, 1), (2, 58, 1), (2, 61, 1), (2, 63, 1), (2, 66, 1), (2, 69, 1), (5, 32, 4), (2, 94, 1), (2, 97, 1), (2, 103, 1), (5, 45, 2)] rfl
set_option maxRecDepth 20000 in
theorem wsL_law0_r7_in : ∀ w ∈ wsL_law0_r7, w ∈ x_tbl := x_rr [(5, 47, 7), (5, 55, 1), (1, 5, 1), (5, 56, 1), (2, 233, 1), (5, 57, 3), (3, 90, 1), (2, 14, 1), (5, 61, 1), (2, 15, 1), (5, 64, 1), (2, 16, 1), (5, 80, 1), (2, 17, 1), (5, 96, 1), (2, 18, 1)] rfl
set_option maxRecDepth 20000 in
theorem wsL_law0_r8_in : ∀ w ∈ wsL_law0_r8, w ∈ x_tbl := x_rr [(5, 112, 1), (5, 114, 1), (1, 6, 1), (5, 115, 1), (8, 8, 5), (8, 14, 1), (1, 27, 1), (8, 15, 1), (7, 188, 1), (8, 16, 1), (8, 18, 1), (1, 28, 1), (8, 19, 6), (8, 26, 1), (1, 29, 1)] rfl
set_option maxRecDepth 20000 in
theorem wsL_law0_r9_in : ∀ w ∈ wsL_law0_r9, w ∈ x_tbl := x_rr [(8, 27, 5), (8, 33, 1), (1, 30, 1), (8, 34, 1), (7, 185, 1), (8, 4, 4), (5, 116, 4), (5, 122, 7)] rfl
set_option maxRecDepth 20000 in
theorem wsL_law0_r10_in : ∀ w ∈ wsL_law0_r10, w ∈ x_tbl := x_rr [(5, 129, 1), (2, 95, 1), (2, 98, 1), (5, 130, 4), (5, 17, 3), (5, 134, 4), (8, 35, 5), (8, 41, 1), (1, 31, 1), (8, 42, 1), (8, 47, 2)] rfl
set_option maxRecDepth 20000 in
theorem wsL_law0_r11_in : ∀ w ∈ wsL_law0_r11, w ∈ x_tbl := x_rr [(8, 43, 4), (8, 49, 1), (8, 51, 1), (1, 32, 1), (8, 52, 2), (8, 55, 1), (1, 33, 1), (8, 56, 1), (5, 138, 12)] rfl
set_option maxRecDepth 20000 in
theorem wsL_law0_r12_in : ∀ w ∈ wsL_law0_r12, w ∈ x_tbl := x_rr [(5, 151, 1), (1, 7, 1), (5, 152, 1), (2, 101, 1), (5, 153, 1), (5, 155, 1), (1, 8, 1), (5, 156, 1), (8, 57, 5), (8, 63, 1), (1, 34, 1), (8, 64, 2), (8, 67, 1), (1, 35, 1), (8, 68, 2), (8, 71, 1), (1, 36, 1), (8, 72, 1)] rfl
set_option maxRecDepth 20000 in
theorem wsL_law0_r13_in : ∀ w ∈ wsL_law0_r13, w ∈ x_tbl := x_rr [(5, 157, 12), (2, 67, 1), (2, 53, 1), (8, 73, 5), (8, 79, 1), (1, 37, 1), (8, 80, 1), (5, 169, 2)] rfl
set_option maxRecDepth 20000 in
theorem wsL_law0_r14_in : ∀ w ∈ wsL_law0_r14, w ∈ x_tbl := x_rr [(5, 171, 1), (5, 173, 8), (2, 57, 1), (5, 183, 2), (2, 20, 1), (5, 185, 1), (5, 181, 1), (3, 87, 3), (5, 182, 1), (3, 71, 3), (8, 81, 2)] rfl
set_option maxRecDepth 20000 in
theorem wsL_law0_r15_in : ∀ w ∈ wsL_law0_r15, w ∈ x_tbl := x_rr [(8, 83, 3), (8, 87, 1), (1, 38, 1), (8, 88, 1), (8, 101, 1), (8, 89, 1), (8, 91, 1), (1, 39, 1), (8, 92, 2), (8, 95, 1), (1, 40, 1), (8, 96, 2), (8, 99, 1), (1, 41, 1), (8, 100, 1), (5, 186, 5)] rfl
set_option maxRecDepth 20000 in
theorem wsL_law0_r16_in : ∀ w ∈ wsL_law0_r16, w ∈ x_tbl := x_rr [(5, 191, 6), (2, 70, 1), (5, 197, 1), (3, 75, 3), (5, 198, 4), (8, 102, 5), (8, 108, 1), (1, 42, 1), (8, 109, 2)] rfl
set_option maxRecDepth 20000 in
theorem wsL_law0_r17_in : ∀ w ∈ wsL_law0_r17, w ∈ x_tbl := x_rr [(8, 112, 1), (1, 43, 1), (8, 113, 1), (5, 202, 11), (8, 114, 5), (8, 120, 1), (1, 44, 1), (8, 121, 1), (5, 213, 2)] rfl
set_option maxRecDepth 20000 in
theorem wsL_law0_r18_in : ∀ w ∈ wsL_law0_r18, w ∈ x_tbl := x_rr [(5, 215, 10), (5, 226, 1), (1, 9, 1), (5, 227, 2), (5, 230, 1), (1, 10, 1), (5, 231, 2), (5, 234, 1), (1, 11, 1), (5, 235, 1), (8, 122, 3)] rfl
set_option maxRecDepth 20000 in
theorem wsL_law0_r19_in : ∀ w ∈ wsL_law0_r19, w ∈ x_tbl := x_rr [(8, 125, 2), (8, 128, 1), (1, 45, 1), (8, 129, 2), (8, 132, 1), (1, 46, 1), (8, 133, 2), (8, 136, 1), (1, 47, 1), (8, 137, 1), (5, 236, 4), (6, 0, 7)] rfl
set_option maxRecDepth 20000 in
theorem wsL_law0_r20_in : ∀ w ∈ wsL_law0_r20, w ∈ x_tbl := x_rr [(6, 7, 5), (6, 13, 1), (1, 12, 1), (6, 14, 1), (2, 104, 1), (6, 15, 1), (6, 17, 1), (1, 13, 1), (6, 18, 1), (2, 65, 1), (2, 60, 1), (6, 19, 1), (6, 21, 1), (1, 14, 1), (6, 22, 6)] rfl
set_option maxRecDepth 20000 in
theorem wsL_law0_r21_in : ∀ w ∈ wsL_law0_r21, w ∈ x_tbl := x_rr [(3, 228, 2), (6, 28, 1), (3, 210, 2), (6, 29, 1), (6, 31, 1), (1, 15, 1), (6, 32, 1), (8, 138, 5), (8, 144, 1), (1, 48, 1), (8, 145, 3), (8, 149, 1), (1, 49, 1), (8, 150, 2), (8, 153, 1)] rfl
set_option maxRecDepth 20000 in
theorem wsL_law0_r22_in : ∀ w ∈ wsL_law0_r22, w ∈ x_tbl := x_rr [(1, 50, 1), (8, 154, 2), (8, 157, 1), (1, 51, 1), (8, 158, 3), (8, 162, 1), (1, 52, 1), (8, 163, 3), (8, 167, 1), (1, 53, 1), (8, 168, 1), (3, 22, 4), (2, 118, 1), (8, 169, 3)] rfl
set_option maxRecDepth 20000 in
theorem wsL_law0_r23_in : ∀ w ∈ wsL_law0_r23, w ∈ x_tbl := x_rr [(8, 172, 1), (6, 33, 7), (2, 116, 1), (2, 54, 1), (3, 82, 1), (3, 84, 1), (1, 1, 1), (3, 85, 2), (8, 173, 5), (8, 179, 1), (1, 54, 1), (8, 180, 1), (6, 40, 1)] rfl
set_option maxRecDepth 20000 in
theorem wsL_law0_r24_in : ∀ w ∈ wsL_law0_r24, w ∈ x_tbl := x_rr [(6, 41, 6), (2, 56, 1), (8, 181, 4), (6, 47, 7), (2, 59, 1), (8, 185, 4), (6, 54, 1)] rfl
set_option maxRecDepth 20000 in
theorem wsL_law0_r25_in : ∀ w ∈ wsL_law0_r25, w ∈ x_tbl := x_rr [(6, 55, 6), (2, 62, 1), (8, 189, 4), (6, 61, 7), (2, 64, 1), (8, 193, 4), (6, 68, 1)] rfl
set_option maxRecDepth 20000 in
theorem wsL_law0_r26_in : ∀ w ∈ wsL_law0_r26, w ∈ x_tbl := x_rr [(6, 69, 6), (2, 68, 1), (8, 197, 4), (6, 75, 7), (2, 71, 1), (8, 201, 4), (6, 82, 1)] rfl
set_option maxRecDepth 20000 in
theorem wsL_law0_r27_in : ∀ w ∈ wsL_law0_r27, w ∈ x_tbl := x_rr [(6, 83, 6), (3, 70, 1), (8, 205, 4), (6, 90, 7), (3, 74, 1), (8, 209, 4), (6, 98, 1)] rfl
set_option maxRecDepth 20000 in
theorem wsL_law0_r28_in : ∀ w ∈ wsL_law0_r28, w ∈ x_tbl := x_rr [(6, 99, 6), (2, 122, 1), (2, 120, 1), (8, 213, 4), (3, 26, 4), (8, 217, 4), (6, 106, 4)] rfl
set_option maxRecDepth 20000 in
theorem wsL_law0_r29_in : ∀ w ∈ wsL_law0_r29, w ∈ x_tbl := x_rr [(6, 110, 3), (2, 124, 1), (2, 96, 1), (6, 113, 4), (8, 221, 4), (6, 118, 7), (2, 99, 1), (5, 16, 1), (8, 225, 2)] rfl
set_option maxRecDepth 20000 in
theorem wsL_law0_r30_in : ∀ w ∈ wsL_law0_r30, w ∈ x_tbl := x_rr [(8, 227, 2), (6, 126, 7), (2, 102, 1), (6, 133, 1), (6, 135, 1), (1, 16, 1), (6, 136, 1), (8, 229, 5), (8, 235, 1), (1, 55, 1), (8, 236, 1), (6, 138, 2)] rfl
set_option maxRecDepth 20000 in
theorem wsL_law0_r31_in : ∀ w ∈ wsL_law0_r31, w ∈ x_tbl := x_rr [(6, 140, 5), (2, 105, 1), (8, 237, 3), (9, 0, 1), (6, 145, 4), (3, 79, 3), (9, 1, 4), (6, 149, 3)] rfl
set_option maxRecDepth 20000 in
theorem wsL_law0_r32_in : ∀ w ∈ wsL_law0_r32, w ∈ x_tbl := x_rr [(6, 152, 1), (3, 163, 3), (9, 5, 5), (3, 30, 8), (9, 10, 4), (3, 38, 3)] rfl
set_option maxRecDepth 20000 in
theorem wsL_law0_r33_in : ∀ w ∈ wsL_law0_r33, w ∈ x_tbl := x_rr [(3, 41, 2), (3, 44, 1), (1, 0, 1), (3, 45, 1), (9, 14, 5), (6, 153, 8), (6, 162, 1), (1, 17, 1), (6, 163, 4)] rfl
set_option maxRecDepth 20000 in
theorem wsL_law0_r34_in : ∀ w ∈ wsL_law0_r34, w ∈ x_tbl := x_rr [(6, 167, 2), (9, 19, 5), (9, 25, 1), (1, 56, 1), (9, 26, 2), (9, 29, 1), (1, 57, 1), (9, 30, 2), (9, 33, 1), (1, 58, 1), (9, 34, 1), (6, 170, 6)] rfl
set_option maxRecDepth 20000 in
theorem wsL_law0_r35_in : ∀ w ∈ wsL_law0_r35, w ∈ x_tbl := x_rr [(6, 176, 4), (6, 181, 1), (6, 183, 1), (1, 18, 1), (6, 184, 1), (9, 35, 5), (6, 186, 7), (2, 142, 1), (9, 40, 3)] rfl
set_option maxRecDepth 20000 in
theorem wsL_law0_r36_in : ∀ w ∈ wsL_law0_r36, w ∈ x_tbl := x_rr [(9, 43, 1), (6, 193, 7), (2, 126, 1), (6, 200, 1), (6, 202, 1), (1, 19, 1), (6, 203, 1), (2, 134, 1), (6, 204, 1), (9, 44, 4), (6, 206, 5)] rfl
set_option maxRecDepth 20000 in
theorem wsL_law0_r37_in : ∀ w ∈ wsL_law0_r37, w ∈ x_tbl := x_rr [(6, 211, 2), (2, 128, 1), (9, 48, 4), (6, 213, 8), (6, 222, 1), (1, 20, 1), (6, 223, 1), (6, 225, 6)] rfl
set_option maxRecDepth 20000 in
theorem wsL_law0_r38_in : ∀ w ∈ wsL_law0_r38, w ∈ x_tbl := x_rr [(6, 231, 2), (9, 52, 4), (6, 233, 7), (7, 0, 8), (9, 56, 3)] rfl
set_option maxRecDepth 20000 in
theorem wsL_law0_r39_in : ∀ w ∈ wsL_law0_r39, w ∈ x_tbl := x_rr [(9, 59, 1), (3, 46, 4), (2, 130, 1), (9, 60, 5), (9, 66, 1), (1, 59, 1), (9, 67, 1), (3, 50, 4), (2, 132, 1), (9, 68, 4), (3, 54, 1)] rfl
set_option maxRecDepth 20000 in
theorem wsL_law0_r40_in : ∀ w ∈ wsL_law0_r40, w ∈ x_tbl := x_rr [(3, 55, 3), (9, 72, 4), (3, 58, 4), (2, 138, 1), (9, 76, 4), (3, 62, 4), (9, 80, 4)] rfl
set_option maxRecDepth 20000 in
theorem wsL_law0_r41_in : ∀ w ∈ wsL_law0_r41, w ∈ x_tbl := x_rr [(7, 8, 4), (7, 25, 5), (2, 21, 1), (9, 84, 4), (7, 32, 7), (2, 136, 1), (9, 88, 2)] rfl
set_option maxRecDepth 20000 in
theorem wsL_law0_r42_in : ∀ w ∈ wsL_law0_r42, w ∈ x_tbl := x_rr [(9, 90, 2), (3, 66, 4), (2, 140, 1), (3, 78, 1), (3, 162, 1), (3, 166, 2), (9, 92, 4), (3, 168, 9)] rfl
set_option maxRecDepth 20000 in
theorem wsL_law0_r43_in : ∀ w ∈ wsL_law0_r43, w ∈ x_tbl := x_rr [(9, 179, 1), (2, 211, 1), (3, 177, 4), (2, 22, 1), (2, 202, 1), (2, 200, 1), (3, 198, 1), (9, 182, 1), (0, 0, 1), (3, 200, 3), (9, 183, 1), (0, 1, 1), (3, 204, 2), (3, 216, 1), (3, 206, 2), (2, 23, 1), (3, 208, 1)] rfl
set_option maxRecDepth 20000 in
theorem wsL_law0_r44_in : ∀ w ∈ wsL_law0_r44, w ∈ x_tbl := x_rr [(3, 209, 1), (3, 212, 4), (3, 217, 2), (2, 24, 1), (3, 219, 6), (3, 226, 2), (3, 230, 1), (3, 232, 1), (3, 231, 1), (2, 25, 1), (3, 233, 1), (3, 235, 2), (3, 234, 1)] rfl
set_option maxRecDepth 20000 in
theorem wsL_law0_r45_in : ∀ w ∈ wsL_law0_r45, w ∈ x_tbl := x_rr [(3, 237, 1), (4, 181, 2), (2, 27, 1), (4, 183, 7), (4, 137, 1), (4, 193, 2), (2, 19, 1), (4, 216, 9)] rfl
set_option maxRecDepth 20000 in
theorem wsL_law0_r46_in : ∀ w ∈ wsL_law0_r46, w ∈ x_tbl := x_rr [(9, 188, 1), (4, 225, 5), (4, 42, 1), (9, 186, 1), (0, 2, 1), (4, 44, 11), (4, 4, 3), (4, 55, 1)] rfl
set_option maxRecDepth 20000 in
theorem wsL_law0_r47_in : ∀ w ∈ wsL_law0_r47, w ∈ x_tbl := x_rr [(4, 56, 1), (2, 8, 1), (4, 57, 1), (4, 10, 1), (4, 58, 2), (2, 26, 1), (4, 60, 1), (4, 15, 4), (4, 20, 1), (4, 22, 1), (4, 230, 10)] rfl
set_option maxRecDepth 20000 in
theorem wsL_law0_r48_in : ∀ w ∈ wsL_law0_r48, w ∈ x_tbl := x_rr [(5, 0, 3), (5, 4, 1), (1, 3, 1), (5, 5, 2), (4, 68, 4), (9, 187, 1), (4, 72, 4), (2, 29, 1), (4, 76, 5), (4, 82, 1), (4, 84, 1)] rfl
set_option maxRecDepth 20000 in
theorem wsL_law0_r49_in : ∀ w ∈ wsL_law0_r49, w ∈ x_tbl := x_rr [(4, 85, 2), (4, 1, 3), (4, 7, 3), (4, 12, 3), (4, 87, 5), (5, 7, 1), (4, 114, 1), (9, 189, 1), (4, 115, 2), (4, 112, 1), (4, 111, 1), (4, 117, 1)] rfl
set_option maxRecDepth 20000 in
theorem wsL_law0_r50_in : ∀ w ∈ wsL_law0_r50, w ∈ x_tbl := x_rr [(9, 96, 4), (7, 192, 1), (9, 100, 1), (9, 102, 1), (1, 60, 1), (9, 103, 2), (9, 106, 1), (1, 61, 1), (9, 107, 1), (5, 8, 5), (5, 14, 1), (1, 4, 1), (5, 15, 1), (9, 108, 3)] rfl
set_option maxRecDepth 20000 in
theorem wsL_law0_r51_in : ∀ w ∈ wsL_law0_r51, w ∈ x_tbl := x_rr [(9, 111, 1), (7, 40, 7), (7, 48, 5), (9, 190, 1), (7, 53, 5), (4, 156, 2), (9, 112, 3)] rfl
set_option maxRecDepth 20000 in
theorem wsL_law0_r52_in : ∀ w ∈ wsL_law0_r52, w ∈ x_tbl := x_rr [(9, 115, 1), (7, 58, 7), (2, 214, 1), (9, 116, 6), (7, 190, 1), (7, 67, 7), (2, 218, 1)] rfl
set_option maxRecDepth 20000 in
theorem wsL_law0_r53_in : ∀ w ∈ wsL_law0_r53, w ∈ x_tbl := x_rr [(7, 74, 4), (2, 217, 1), (7, 78, 4), (9, 211, 1), (7, 118, 1), (7, 84, 1), (7, 86, 1), (1, 21, 1), (7, 87, 2), (4, 25, 3), (4, 162, 1), (4, 28, 4)] rfl
set_option maxRecDepth 20000 in
theorem wsL_law0_r54_in : ∀ w ∈ wsL_law0_r54, w ∈ x_tbl := x_rr [(4, 32, 1), (4, 163, 1), (7, 89, 15), (4, 155, 1), (7, 104, 1), (7, 106, 1), (1, 22, 1), (7, 107, 2), (7, 110, 1)] rfl
set_option maxRecDepth 20000 in
theorem wsL_law0_r55_in : ∀ w ∈ wsL_law0_r55, w ∈ x_tbl := x_rr [(1, 23, 1), (7, 111, 4), (7, 116, 1), (1, 24, 1), (7, 117, 1), (7, 120, 1), (7, 122, 1), (1, 25, 1), (7, 123, 3), (7, 127, 1), (1, 26, 1), (7, 128, 1), (2, 216, 1), (7, 129, 1), (7, 131, 2), (7, 134, 2), (7, 135, 1)] rfl
set_option maxRecDepth 20000 in
theorem wsL_law0_r56_in : ∀ w ∈ wsL_law0_r56, w ∈ x_tbl := x_rr [(7, 136, 1), (9, 212, 1), (9, 122, 4), (7, 198, 1), (7, 197, 1), (7, 196, 1), (7, 199, 1), (9, 126, 1), (9, 128, 1), (1, 62, 1), (9, 129, 2), (9, 132, 1), (1, 63, 1), (9, 133, 2), (9, 136, 1), (1, 64, 1), (9, 137, 1), (9, 142, 2)] rfl
set_option maxRecDepth 20000 in
theorem wsL_law0_r57_in : ∀ w ∈ wsL_law0_r57, w ∈ x_tbl := x_rr [(9, 138, 1), (9, 140, 1), (1, 65, 1), (9, 141, 1), (9, 144, 1), (9, 146, 1), (1, 66, 1), (9, 147, 2), (9, 150, 1), (1, 67, 1), (9, 151, 2), (9, 154, 1), (1, 68, 1), (9, 155, 1), (7, 138, 7), (9, 156, 1)] rfl
set_option maxRecDepth 20000 in
theorem wsL_law0_r58_in : ∀ w ∈ wsL_law0_r58, w ∈ x_tbl := x_rr [(9, 157, 3), (7, 146, 7), (9, 160, 4), (7, 154, 7), (9, 164, 3)] rfl
set_option maxRecDepth 20000 in
theorem wsL_law0_r59_in : ∀ w ∈ wsL_law0_r59, w ∈ x_tbl := x_rr [(9, 167, 1), (5, 20, 4), (2, 231, 1), (9, 168, 4), (7, 183, 1), (7, 162, 3), (5, 40, 1), (7, 165, 4), (9, 172, 4)] rfl
theorem wsX60_inT : ∀ w ∈ wsX60, w ∈ lw_tbl := by decide +kernel
theorem wsX70_inT : ∀ w ∈ wsX70, w ∈ lw_tbl := by decide +kernel
theorem wsX30_inT : ∀ w ∈ wsX30, w ∈ lw_tbl := by decide +kernel
theorem wsX40_inT : ∀ w ∈ wsX40, w ∈ lw_tbl := by decide +kernel
theorem wsJ40_inT : ∀ w ∈ wsJ40, w ∈ lw_tbl := by decide +kernel
theorem wsX20_inT : ∀ w ∈ wsX20, w ∈ lw_tbl := by decide +kernel
theorem wsX50_inT : ∀ w ∈ wsX50, w ∈ lw_tbl := by decide +kernel
theorem wsJx7c7330_inT : ∀ w ∈ wsJx7c7330, w ∈ lw_tbl := by decide +kernel
theorem wsJx000600_inT : ∀ w ∈ wsJx000600, w ∈ lw_tbl := by decide +kernel
theorem wsJ00_inT : ∀ w ∈ wsJ00, w ∈ lw_tbl := by decide +kernel
set_option maxRecDepth 20000 in
theorem wsL_law_in0 : ∀ w ∈ wsL_law0, w ∈ x_tbl := List.forall_mem_append.mpr ⟨List.forall_mem_append.mpr ⟨List.forall_mem_append.mpr ⟨List.forall_mem_append.mpr ⟨List.forall_mem_append.mpr ⟨List.forall_mem_append.mpr ⟨List.forall_mem_append.mpr ⟨List.forall_mem_append.mpr ⟨List.forall_mem_append.mpr ⟨List.forall_mem_append.mpr ⟨List.forall_mem_append.mpr ⟨List.forall_mem_append.mpr ⟨wsL_law0_r1_in, List.forall_mem_append.mpr ⟨wsL_law0_r2_in, List.forall_mem_append.mpr ⟨wsL_law0_r3_in, List.forall_mem_append.mpr ⟨wsL_law0_r4_in, List.forall_mem_append.mpr ⟨wsL_law0_r5_in, List.forall_mem_append.mpr ⟨wsL_law0_r6_in, List.forall_mem_append.mpr ⟨wsL_law0_r7_in, List.forall_mem_append.mpr ⟨wsL_law0_r8_in, List.forall_mem_append.mpr ⟨wsL_law0_r9_in, List.forall_mem_append.mpr ⟨wsL_law0_r10_in, List.forall_mem_append.mpr ⟨wsL_law0_r11_in, List.forall_mem_append.mpr ⟨wsL_law0_r12_in, List.forall_mem_append.mpr ⟨wsL_law0_r13_in, List.forall_mem_append.mpr ⟨wsL_law0_r14_in, List.forall_mem_append.mpr ⟨wsL_law0_r15_in, List.forall_mem_append.mpr ⟨wsL_law0_r16_in, List.forall_mem_append.mpr ⟨wsL_law0_r17_in, List.forall_mem_append.mpr ⟨wsL_law0_r18_in, List.forall_mem_append.mpr ⟨wsL_law0_r19_in, List.forall_mem_append.mpr ⟨wsL_law0_r20_in, List.forall_mem_append.mpr ⟨wsL_law0_r21_in, List.forall_mem_append.mpr ⟨wsL_law0_r22_in, List.forall_mem_append.mpr ⟨wsL_law0_r23_in, List.forall_mem_append.mpr ⟨wsL_law0_r24_in, List.forall_mem_append.mpr ⟨wsL_law0_r25_in, List.forall_mem_append.mpr ⟨wsL_law0_r26_in, List.forall_mem_append.mpr ⟨wsL_law0_r27_in, List.forall_mem_append.mpr ⟨wsL_law0_r28_in, List.forall_mem_append.mpr ⟨wsL_law0_r29_in, List.forall_mem_append.mpr ⟨wsL_law0_r30_in, List.forall_mem_append.mpr ⟨wsL_law0_r31_in, List.forall_mem_append.mpr ⟨wsL_law0_r32_in, List.forall_mem_append.mpr ⟨wsL_law0_r33_in, List.forall_mem_append.mpr ⟨wsL_law0_r34_in, List.forall_mem_append.mpr ⟨wsL_law0_r35_in, List.forall_mem_append.mpr ⟨wsL_law0_r36_in, List.forall_mem_append.mpr ⟨wsL_law0_r37_in, List.forall_mem_append.mpr ⟨wsL_law0_r38_in, List.forall_mem_append.mpr ⟨wsL_law0_r39_in, List.forall_mem_append.mpr ⟨wsL_law0_r40_in, List.forall_mem_append.mpr ⟨wsL_law0_r41_in, List.forall_mem_append.mpr ⟨wsL_law0_r42_in, List.forall_mem_append.mpr ⟨wsL_law0_r43_in, List.forall_mem_append.mpr ⟨wsL_law0_r44_in, List.forall_mem_append.mpr ⟨wsL_law0_r45_in, List.forall_mem_append.mpr ⟨wsL_law0_r46_in, List.forall_mem_append.mpr ⟨wsL_law0_r47_in, List.forall_mem_append.mpr ⟨wsL_law0_r48_in, List.forall_mem_append.mpr ⟨wsL_law0_r49_in, List.forall_mem_append.mpr ⟨wsL_law0_r50_in, List.forall_mem_append.mpr ⟨wsL_law0_r51_in, List.forall_mem_append.mpr ⟨wsL_law0_r52_in, List.forall_mem_append.mpr ⟨wsL_law0_r53_in, List.forall_mem_append.mpr ⟨wsL_law0_r54_in, List.forall_mem_append.mpr ⟨wsL_law0_r55_in, List.forall_mem_append.mpr ⟨wsL_law0_r56_in, List.forall_mem_append.mpr ⟨wsL_law0_r57_in, List.forall_mem_append.mpr ⟨wsL_law0_r58_in, wsL_law0_r59_in⟩⟩⟩⟩⟩⟩⟩⟩⟩⟩⟩⟩⟩⟩⟩⟩⟩⟩⟩⟩⟩⟩⟩⟩⟩⟩⟩⟩⟩⟩⟩⟩⟩⟩⟩⟩⟩⟩⟩⟩⟩⟩⟩⟩⟩⟩⟩⟩⟩⟩⟩⟩⟩⟩⟩⟩⟩⟩, (fun w h => List.mem_append_right _ (wsX60_inT w h))⟩, (fun w h => List.mem_append_right _ (wsX70_inT w h))⟩, (fun w h => List.mem_append_right _ (wsX30_inT w h))⟩, (fun w h => List.mem_append_right _ (wsX40_inT w h))⟩, (fun w h => List.mem_append_right _ (wsJ40_inT w h))⟩, (fun w h => List.mem_append_right _ (wsX20_inT w h))⟩, (fun w h => List.mem_append_right _ (wsX50_inT w h))⟩, (fun w h => List.mem_append_right _ (wsJx7c7330_inT w h))⟩, (fun w h => List.mem_append_right _ (wsJx000600_inT w h))⟩, (fun w h => List.mem_append_right _ (wsJ00_inT w h))⟩, fun _ h => absurd h List.not_mem_nil⟩
theorem wsL_law_x0 : ∀ w ∈ (vx_atM "java/lang/ArrayIndexOutOfBoundsException" ["java/lang/IndexOutOfBoundsException", "java/lang/RuntimeException", "java/lang/Exception"]).filter goodWord, w ∈ lw_tbl := by decide +kernel
theorem wsL_law_x1 : ∀ w ∈ (vx_atS RX6 103 "java/lang/IndexOutOfBoundsException" ["java/lang/RuntimeException", "java/lang/Exception"]).filter goodWord, w ∈ lw_tbl := by decide +kernel
theorem wsL_law_x2 : ∀ w ∈ (vx_atS RX6 110 "java/lang/IllegalArgumentException" ["java/lang/RuntimeException", "java/lang/Exception"]).filter goodWord, w ∈ lw_tbl := by decide +kernel
theorem wsL_law_x3 : ∀ w ∈ (vx_atS RX6 115 "java/lang/IllegalStateException" ["java/lang/RuntimeException", "java/lang/Exception"]).filter goodWord, w ∈ lw_tbl := by decide +kernel
theorem wsL_law_x4 : ∀ w ∈ (vx_atS RX6 120 "java/lang/UnsupportedOperationException" ["java/lang/RuntimeException", "java/lang/Exception"]).filter goodWord, w ∈ lw_tbl := by decide +kernel
theorem wsL_law_x5 : ∀ w ∈ nx_at.filter goodWord, w ∈ lw_tbl := by decide +kernel
theorem wsL_law_x6 : ∀ w ∈ (vx_atS RX6 294 "java/lang/ArithmeticException" ["java/lang/RuntimeException", "java/lang/Exception"]).filter goodWord, w ∈ lw_tbl := by decide +kernel
theorem wsL_law_x7 : ∀ w ∈ (vx_atM "java/lang/ArithmeticException" ["java/lang/RuntimeException", "java/lang/Exception"]).filter goodWord, w ∈ lw_tbl := by decide +kernel
theorem wsL_law_in : ∀ w ∈ wsL_law, w ∈ x_tbl := fun w h => (List.mem_append.mp h).elim (fun h => (List.mem_append.mp h).elim (fun h => (List.mem_append.mp h).elim (fun h => (List.mem_append.mp h).elim (fun h => (List.mem_append.mp h).elim (fun h => (List.mem_append.mp h).elim (fun h => (List.mem_append.mp h).elim (fun h => (List.mem_append.mp h).elim (fun h => wsL_law_in0 w h) (fun h => List.mem_append_right _ (wsL_law_x0 w h))) (fun h => List.mem_append_right _ (wsL_law_x1 w h))) (fun h => List.mem_append_right _ (wsL_law_x2 w h))) (fun h => List.mem_append_right _ (wsL_law_x3 w h))) (fun h => List.mem_append_right _ (wsL_law_x4 w h))) (fun h => List.mem_append_right _ (wsL_law_x5 w h))) (fun h => List.mem_append_right _ (wsL_law_x6 w h))) (fun h => List.mem_append_right _ (wsL_law_x7 w h))
