theorem cls_X1 : am_clsOK (RX1, TX1, 3) := by
  refine ⟨am_uws (fun k hk => ?_), by decide +kernel⟩
  have hk : k < 3 := hk
  match k, hk with
  | 0, _ => exact am_mem_1 60 (by decide +kernel) rfl
  | 1, _ => exact am_mem_1 62 (by decide +kernel) rfl
  | 2, _ => exact am_mem_1 64 (by decide +kernel) rfl

theorem cls_X2 : am_clsOK (RX2, TX2, 1) := by
  refine ⟨am_uws (fun k hk => ?_), by decide +kernel⟩
  have hk : k < 1 := hk
  match k, hk with
  | 0, _ => exact am_mem_1 146 (by decide +kernel) rfl

theorem cls_X3 : am_clsOK (RX3, TX3, 0) := by
  refine ⟨am_uws (fun k hk => ?_), by decide +kernel⟩
  exact absurd hk (Nat.not_lt_zero k)
theorem cls_X5 : am_clsOK (RX5, TX5, 3) := by
  refine ⟨am_uws (fun k hk => ?_), by decide +kernel⟩
  have hk : k < 3 := hk
  match k, hk with
  | 0, _ => exact am_mem_1 100 (by decide +kernel) rfl
  | 1, _ => exact am_mem_1 102 (by decide +kernel) rfl
  | 2, _ => exact am_mem_1 104 (by decide +kernel) rfl

theorem cls_X6 : am_clsOK (RX6, TX6, 5) := by
  refine ⟨am_uws (fun k hk => ?_), by decide +kernel⟩
  have hk : k < 5 := hk
  match k, hk with
  | 0, _ => exact am_mem_1 183 (by decide +kernel) rfl
  | 1, _ => exact am_mem_1 185 (by decide +kernel) rfl
  | 2, _ => exact am_mem_1 187 (by decide +kernel) rfl
  | 3, _ => exact am_mem_1 189 (by decide +kernel) rfl
  | 4, _ => exact am_mem_1 191 (by decide +kernel) rfl

theorem cls_X7 : am_clsOK (RX7, TX7, 5) := by
  refine ⟨am_uws (fun k hk => ?_), by decide +kernel⟩
  have hk : k < 5 := hk
  match k, hk with
  | 0, _ => exact am_mem_1 80 (by decide +kernel) rfl
  | 1, _ => exact am_mem_1 82 (by decide +kernel) rfl
  | 2, _ => exact am_mem_1 84 (by decide +kernel) rfl
  | 3, _ => exact am_mem_1 86 (by decide +kernel) rfl
  | 4, _ => exact am_mem_1 88 (by decide +kernel) rfl

theorem cls_X8 : am_clsOK (RX8, TX8, 2) := by
  refine ⟨am_uws (fun k hk => ?_), by decide +kernel⟩
  have hk : k < 2 := hk
  match k, hk with
  | 0, _ => exact am_mem_1 45 (by decide +kernel) rfl
  | 1, _ => exact am_mem_1 47 (by decide +kernel) rfl

theorem cls_X9 : am_clsOK (RX9, TX9, 5) := by
  refine ⟨am_uws (fun k hk => ?_), by decide +kernel⟩
  have hk : k < 5 := hk
  match k, hk with
  | 0, _ => exact am_mem_1 118 (by decide +kernel) rfl
  | 1, _ => exact am_mem_1 120 (by decide +kernel) rfl
  | 2, _ => exact am_mem_1 122 (by decide +kernel) rfl
  | 3, _ => exact am_mem_1 124 (by decide +kernel) rfl
  | 4, _ => exact am_mem_1 126 (by decide +kernel) rfl

theorem cls_X10 : am_clsOK (RX10, TX10, 10) := by
  refine ⟨am_uws (fun k hk => ?_), by decide +kernel⟩
  have hk : k < 10 := hk
  match k, hk with
  | 0, _ => exact am_mem_1 204 (by decide +kernel) rfl
  | 1, _ => exact am_mem_1 206 (by decide +kernel) rfl
  | 2, _ => exact am_mem_1 208 (by decide +kernel) rfl
  | 3, _ => exact am_mem_1 210 (by decide +kernel) rfl
  | 4, _ => exact am_mem_1 212 (by decide +kernel) rfl
  | 5, _ => exact am_mem_1 214 (by decide +kernel) rfl
  | 6, _ => exact am_mem_1 216 (by decide +kernel) rfl
  | 7, _ => exact am_mem_1 218 (by decide +kernel) rfl
  | 8, _ => exact am_mem_1 220 (by decide +kernel) rfl
  | 9, _ => exact am_mem_1 222 (by decide +kernel) rfl

theorem am_clsA : ∀ q ∈ am_cl, am_clsOK q := List.forall_mem_cons.mpr ⟨cls_X1, List.forall_mem_cons.mpr ⟨cls_X2, List.forall_mem_cons.mpr ⟨cls_X3, List.forall_mem_cons.mpr ⟨cls_X5, List.forall_mem_cons.mpr ⟨cls_X6, List.forall_mem_cons.mpr ⟨cls_X7, List.forall_mem_cons.mpr ⟨cls_X8, List.forall_mem_cons.mpr ⟨cls_X9, List.forall_mem_cons.mpr ⟨cls_X10, fun _ h => absurd h List.not_mem_nil⟩⟩⟩⟩⟩⟩⟩⟩⟩
def ca9_77 : List Cond := ([11, 12, 13, 14, 28, 29, 30, 38, 56, 73, 96, 112, 137, 153].filterMap (fun i => tables_1_1[i]?)) ++ ([5, 6, 7, 8, 9, 10, 11, 12, 13, 14, 15, 16, 17, 18, 19, 20, 21, 22, 23, 24, 25, 26, 27, 28, 29, 30, 31, 32, 33, 34, 35, 36, 37, 38, 39, 40, 41, 42, 43, 44, 45, 46, 47, 48, 49, 50, 55, 56, 57, 58, 59, 60, 61, 62, 63, 64, 65, 66, 67, 68, 69, 70, 89, 90, 91, 92, 93, 94, 97, 98, 106, 107, 108, 109, 110, 111, 116, 117, 118, 170, 178, 179, 180, 181, 182, 183, 184, 185, 186, 188, 189, 190, 191, 192, 193, 219, 220, 221, 222, 223, 224, 229, 230, 231].filterMap (fun i => tables_1_2[i]?)) ++ ([56, 57, 58, 59, 60, 61, 66, 67, 68, 239].filterMap (fun i => tables_1_4[i]?)) ++ ([12, 18].filterMap (fun i => tables_1_5[i]?))
theorem ca8_77 : ∀ w ∈ ca9_77, w ∈ lw_tbl := by
  intro w hw
  simp only [ca9_77, List.mem_append, List.mem_filterMap] at hw
  rcases hw with ((⟨i, -, h⟩ | ⟨i, -, h⟩) | ⟨i, -, h⟩) | ⟨i, -, h⟩
  · exact am_in_1 i h
  · exact am_in_2 i h
  · exact am_in_4 i h
  · exact am_in_5 i h
theorem ca7_77 : ∀ w ∈ vx_atS RX10 77 "java/lang/IllegalArgumentException" ["java/lang/RuntimeException", "java/lang/Exception"], w ∈ ca9_77 ∧ (goodWord w = true ∨ am_w1 w = true) := by decide +kernel
theorem at_77 : (∀ w ∈ vx_atS RX10 77 "java/lang/IllegalArgumentException" ["java/lang/RuntimeException", "java/lang/Exception"], w ∈ am_W0 ∨ w ∈ am_W1) ∧ (∀ w ∈ vx_atS RX10 77 "java/lang/IllegalArgumentException" ["java/lang/RuntimeException", "java/lang/Exception"], vx_ot w = true) := ⟨fun w hw => (ca7_77 w hw).2.elim (fun g => Or.inl (List.mem_filter.mpr ⟨ca8_77 w (ca7_77 w hw).1, g⟩)) (fun g => Or.inr (List.mem_filter.mpr ⟨ca8_77 w (ca7_77 w hw).1, g⟩)), by decide +kernel⟩
theorem th_73_75_77 : am_TH RX10 73 75 77 "java/lang/IllegalArgumentException" := ⟨am_mem_2 178 (by decide +kernel) rfl, am_mem_1 14 (by decide +kernel) rfl, ⟨"no such sign", am_in_2 187 (by decide +kernel)⟩, at_77.1, List.forall_mem_cons.mpr ⟨rfl, List.forall_mem_cons.mpr ⟨rfl, at_77.2⟩⟩, by decide⟩
theorem th_73_211_77 : am_TH RX10 73 211 77 "java/lang/IllegalArgumentException" := ⟨am_mem_2 178 (by decide +kernel) rfl, am_mem_1 14 (by decide +kernel) rfl, ⟨"the word has not so many signs", am_in_4 216 (by decide +kernel)⟩, at_77.1, List.forall_mem_cons.mpr ⟨rfl, List.forall_mem_cons.mpr ⟨rfl, at_77.2⟩⟩, by decide⟩
theorem th_73_344_77 : am_TH RX10 73 344 77 "java/lang/IllegalArgumentException" := ⟨am_mem_2 178 (by decide +kernel) rfl, am_mem_1 14 (by decide +kernel) rfl, ⟨"classes are told by 1 to 64 signs", am_in_3 26 (by decide +kernel)⟩, at_77.1, List.forall_mem_cons.mpr ⟨rfl, List.forall_mem_cons.mpr ⟨rfl, at_77.2⟩⟩, by decide⟩
def ca9_88 : List Cond := ([11, 12, 13, 15, 28, 29, 30, 38, 56, 73, 96, 112, 137, 153].filterMap (fun i => tables_1_1[i]?)) ++ ([5, 6, 7, 8, 9, 10, 11, 12, 13, 14, 15, 16, 17, 18, 19, 20, 21, 22, 23, 24, 25, 26, 27, 28, 29, 30, 31, 32, 33, 34, 35, 36, 37, 38, 39, 40, 41, 42, 43, 44, 45, 46, 47, 48, 49, 50, 55, 56, 57, 58, 59, 60, 61, 62, 63, 64, 65, 66, 67, 68, 69, 70, 77, 89, 90, 91, 92, 93, 94, 97, 98, 103, 104, 105, 106, 107, 108, 109, 110, 111, 113, 114, 115, 116, 117, 118, 181, 182, 183, 184, 185, 186, 191, 192, 193, 219, 220, 221, 222, 223, 224, 229, 230, 231].filterMap (fun i => tables_1_2[i]?)) ++ ([56, 57, 58, 59, 60, 61, 66, 67, 68, 239].filterMap (fun i => tables_1_4[i]?)) ++ ([13, 18].filterMap (fun i => tables_1_5[i]?))
theorem ca8_88 : ∀ w ∈ ca9_88, w ∈ lw_tbl := by
  intro w hw
  simp only [ca9_88, List.mem_append, List.mem_filterMap] at hw
  rcases hw with ((⟨i, -, h⟩ | ⟨i, -, h⟩) | ⟨i, -, h⟩) | ⟨i, -, h⟩
  · exact am_in_1 i h
  · exact am_in_2 i h
  · exact am_in_4 i h
  · exact am_in_5 i h
theorem ca7_88 : ∀ w ∈ vx_atS RX10 88 "java/lang/IllegalStateException" ["java/lang/RuntimeException", "java/lang/Exception"], w ∈ ca9_88 ∧ (goodWord w = true ∨ am_w1 w = true) := by decide +kernel
theorem at_88 : (∀ w ∈ vx_atS RX10 88 "java/lang/IllegalStateException" ["java/lang/RuntimeException", "java/lang/Exception"], w ∈ am_W0 ∨ w ∈ am_W1) ∧ (∀ w ∈ vx_atS RX10 88 "java/lang/IllegalStateException" ["java/lang/RuntimeException", "java/lang/Exception"], vx_ot w = true) := ⟨fun w hw => (ca7_88 w hw).2.elim (fun g => Or.inl (List.mem_filter.mpr ⟨ca8_88 w (ca7_88 w hw).1, g⟩)) (fun g => Or.inr (List.mem_filter.mpr ⟨ca8_88 w (ca7_88 w hw).1, g⟩)), by decide +kernel⟩
theorem th_84_86_88 : am_TH RX10 84 86 88 "java/lang/IllegalStateException" := ⟨am_mem_2 103 (by decide +kernel) rfl, am_mem_1 15 (by decide +kernel) rfl, ⟨"the typed row is full", am_in_4 36 (by decide +kernel)⟩, at_88.1, List.forall_mem_cons.mpr ⟨rfl, List.forall_mem_cons.mpr ⟨rfl, at_88.2⟩⟩, by decide⟩
theorem th_84_152_88 : am_TH RX10 84 152 88 "java/lang/IllegalStateException" := ⟨am_mem_2 103 (by decide +kernel) rfl, am_mem_1 15 (by decide +kernel) rfl, ⟨"the text is full", am_in_2 194 (by decide +kernel)⟩, at_88.1, List.forall_mem_cons.mpr ⟨rfl, List.forall_mem_cons.mpr ⟨rfl, at_88.2⟩⟩, by decide⟩
theorem th_84_350_88 : am_TH RX10 84 350 88 "java/lang/IllegalStateException" := ⟨am_mem_2 103 (by decide +kernel) rfl, am_mem_1 15 (by decide +kernel) rfl, ⟨"there are 8 texts", am_in_2 112 (by decide +kernel)⟩, at_88.1, List.forall_mem_cons.mpr ⟨rfl, List.forall_mem_cons.mpr ⟨rfl, at_88.2⟩⟩, by decide⟩
def ca9_101 : List Cond := ([11, 12, 13, 21, 28, 29, 30, 38, 56, 73, 96, 112, 137, 153].filterMap (fun i => tables_1_1[i]?)) ++ ([5, 6, 7, 8, 9, 10, 11, 12, 13, 14, 15, 16, 17, 18, 19, 20, 21, 22, 23, 24, 25, 26, 27, 28, 29, 30, 31, 32, 33, 34, 35, 36, 37, 38, 39, 40, 41, 42, 43, 44, 45, 46, 47, 48, 49, 50, 55, 56, 57, 58, 59, 60, 61, 62, 63, 64, 65, 66, 67, 68, 69, 70, 89, 90, 91, 92, 93, 94, 97, 98, 106, 107, 108, 109, 110, 111, 116, 117, 118, 181, 182, 183, 184, 185, 186, 191, 192, 193, 207, 216, 217, 218, 219, 220, 221, 222, 223, 224, 226, 227, 228, 229, 230, 231].filterMap (fun i => tables_1_2[i]?)) ++ ([56, 57, 58, 59, 60, 61, 66, 67, 68, 239].filterMap (fun i => tables_1_4[i]?)) ++ ([17, 18].filterMap (fun i => tables_1_5[i]?))
theorem ca8_101 : ∀ w ∈ ca9_101, w ∈ lw_tbl := by
  intro w hw
  simp only [ca9_101, List.mem_append, List.mem_filterMap] at hw
  rcases hw with ((⟨i, -, h⟩ | ⟨i, -, h⟩) | ⟨i, -, h⟩) | ⟨i, -, h⟩
  · exact am_in_1 i h
  · exact am_in_2 i h
  · exact am_in_4 i h
  · exact am_in_5 i h
theorem ca7_101 : ∀ w ∈ am_atX RX10 101, w ∈ ca9_101 ∧ (goodWord w = true ∨ am_w1 w = true) := by decide +kernel
theorem at_101 : (∀ w ∈ am_atX RX10 101, w ∈ am_W0 ∨ w ∈ am_W1) ∧ (∀ w ∈ am_atX RX10 101, vx_ot w = true) := ⟨fun w hw => (ca7_101 w hw).2.elim (fun g => Or.inl (List.mem_filter.mpr ⟨ca8_101 w (ca7_101 w hw).1, g⟩)) (fun g => Or.inr (List.mem_filter.mpr ⟨ca8_101 w (ca7_101 w hw).1, g⟩)), by decide +kernel⟩
theorem th_97_99_101 : am_THX RX10 97 99 101 := ⟨am_mem_2 216 (by decide +kernel) rfl, am_mem_1 21 (by decide +kernel) rfl, ⟨"no such typed sign", am_in_4 91 (by decide +kernel)⟩, at_101.1, at_101.2⟩
theorem th_97_205_101 : am_THX RX10 97 205 101 := ⟨am_mem_2 216 (by decide +kernel) rfl, am_mem_1 21 (by decide +kernel) rfl, ⟨"the word does not stand at so many places", am_in_4 204 (by decide +kernel)⟩, at_101.1, at_101.2⟩
theorem th_97_217_101 : am_THX RX10 97 217 101 := ⟨am_mem_2 216 (by decide +kernel) rfl, am_mem_1 21 (by decide +kernel) rfl, ⟨"no such word", am_in_4 224 (by decide +kernel)⟩, at_101.1, at_101.2⟩
theorem th_97_222_101 : am_THX RX10 97 222 101 := ⟨am_mem_2 216 (by decide +kernel) rfl, am_mem_1 21 (by decide +kernel) rfl, ⟨"no word stands twice", am_in_3 83 (by decide +kernel)⟩, at_101.1, at_101.2⟩
theorem th_97_321_101 : am_THX RX10 97 321 101 := ⟨am_mem_2 216 (by decide +kernel) rfl, am_mem_1 21 (by decide +kernel) rfl, ⟨"the text has no signs", am_in_2 225 (by decide +kernel)⟩, at_101.1, at_101.2⟩
theorem th_97_348_101 : am_THX RX10 97 348 101 := ⟨am_mem_2 216 (by decide +kernel) rfl, am_mem_1 21 (by decide +kernel) rfl, ⟨"the word stands nowhere", am_in_4 189 (by decide +kernel)⟩, at_101.1, at_101.2⟩
def ca9_113 : List Cond := ([11, 12, 13, 16, 28, 29, 30, 38, 56, 73, 96, 112, 137, 153].filterMap (fun i => tables_1_1[i]?)) ++ ([5, 6, 7, 8, 9, 10, 11, 12, 13, 14, 15, 16, 17, 18, 19, 20, 21, 22, 23, 24, 25, 26, 27, 28, 29, 30, 31, 32, 33, 34, 35, 36, 37, 38, 39, 40, 41, 42, 43, 44, 45, 46, 47, 48, 49, 50, 55, 56, 57, 58, 59, 60, 61, 62, 63, 64, 65, 66, 67, 68, 69, 70, 89, 90, 91, 92, 93, 94, 97, 98, 106, 107, 108, 109, 110, 111, 116, 117, 118, 181, 182, 183, 184, 185, 186, 191, 192, 193, 219, 220, 221, 222, 223, 224, 229, 230, 231].filterMap (fun i => tables_1_2[i]?)) ++ ([44, 53, 54, 55, 56, 57, 58, 59, 60, 61, 63, 64, 65, 66, 67, 68, 239].filterMap (fun i => tables_1_4[i]?)) ++ ([14, 18].filterMap (fun i => tables_1_5[i]?))
theorem ca8_113 : ∀ w ∈ ca9_113, w ∈ lw_tbl := by
  intro w hw
  simp only [ca9_113, List.mem_append, List.mem_filterMap] at hw
  rcases hw with ((⟨i, -, h⟩ | ⟨i, -, h⟩) | ⟨i, -, h⟩) | ⟨i, -, h⟩
  · exact am_in_1 i h
  · exact am_in_2 i h
  · exact am_in_4 i h
  · exact am_in_5 i h
theorem ca7_113 : ∀ w ∈ vx_atS RX10 113 "java/lang/UnsupportedOperationException" ["java/lang/RuntimeException", "java/lang/Exception"], w ∈ ca9_113 ∧ (goodWord w = true ∨ am_w1 w = true) := by decide +kernel
theorem at_113 : (∀ w ∈ vx_atS RX10 113 "java/lang/UnsupportedOperationException" ["java/lang/RuntimeException", "java/lang/Exception"], w ∈ am_W0 ∨ w ∈ am_W1) ∧ (∀ w ∈ vx_atS RX10 113 "java/lang/UnsupportedOperationException" ["java/lang/RuntimeException", "java/lang/Exception"], vx_ot w = true) := ⟨fun w hw => (ca7_113 w hw).2.elim (fun g => Or.inl (List.mem_filter.mpr ⟨ca8_113 w (ca7_113 w hw).1, g⟩)) (fun g => Or.inr (List.mem_filter.mpr ⟨ca8_113 w (ca7_113 w hw).1, g⟩)), by decide +kernel⟩
theorem th_109_111_113 : am_TH RX10 109 111 113 "java/lang/UnsupportedOperationException" := ⟨am_mem_4 53 (by decide +kernel) rfl, am_mem_1 16 (by decide +kernel) rfl, ⟨"the typed row is no text", am_in_4 62 (by decide +kernel)⟩, at_113.1, List.forall_mem_cons.mpr ⟨rfl, List.forall_mem_cons.mpr ⟨rfl, at_113.2⟩⟩, by decide⟩
theorem th_109_271_113 : am_TH RX10 109 271 113 "java/lang/UnsupportedOperationException" := ⟨am_mem_4 53 (by decide +kernel) rfl, am_mem_1 16 (by decide +kernel) rfl, ⟨"the typed row is no last column", am_in_4 131 (by decide +kernel)⟩, at_113.1, List.forall_mem_cons.mpr ⟨rfl, List.forall_mem_cons.mpr ⟨rfl, at_113.2⟩⟩, by decide⟩
theorem th_109_346_113 : am_TH RX10 109 346 113 "java/lang/UnsupportedOperationException" := ⟨am_mem_4 53 (by decide +kernel) rfl, am_mem_1 16 (by decide +kernel) rfl, ⟨"the typed row is no word", am_in_4 161 (by decide +kernel)⟩, at_113.1, List.forall_mem_cons.mpr ⟨rfl, List.forall_mem_cons.mpr ⟨rfl, at_113.2⟩⟩, by decide⟩
def ca9_299 : List Cond := ([11, 12, 13, 18, 28, 29, 30, 38, 56, 73, 96, 112, 137, 153, 238].filterMap (fun i => tables_1_1[i]?)) ++ ([2, 3, 4, 5, 6, 7, 8, 9, 10, 11, 12, 13, 14, 15, 16, 17, 18, 19, 20, 21, 22, 23, 24, 25, 26, 27, 28, 29, 30, 31, 32, 33, 34, 35, 36, 37, 38, 39, 40, 41, 42, 43, 44, 45, 46, 47, 48, 49, 50, 51, 53, 54, 55, 56, 57, 58, 59, 60, 61, 62, 63, 64, 65, 66, 67, 68, 69, 70, 86, 87, 88, 89, 90, 91, 92, 93, 94, 96, 97, 98, 106, 107, 108, 109, 110, 111, 116, 117, 118, 181, 182, 183, 184, 185, 186, 191, 192, 193, 219, 220, 221, 222, 223, 224, 229, 230, 231].filterMap (fun i => tables_1_2[i]?)) ++ ([56, 57, 58, 59, 60, 61, 66, 67, 68, 239].filterMap (fun i => tables_1_4[i]?)) ++ ([2, 16, 18].filterMap (fun i => tables_1_5[i]?))
theorem ca8_299 : ∀ w ∈ ca9_299, w ∈ lw_tbl := by
  intro w hw
  simp only [ca9_299, List.mem_append, List.mem_filterMap] at hw
  rcases hw with ((⟨i, -, h⟩ | ⟨i, -, h⟩) | ⟨i, -, h⟩) | ⟨i, -, h⟩
  · exact am_in_1 i h
  · exact am_in_2 i h
  · exact am_in_4 i h
  · exact am_in_5 i h
theorem ca7_299 : ∀ w ∈ vx_atS RX10 299 "java/lang/IndexOutOfBoundsException" ["java/lang/RuntimeException", "java/lang/Exception"], w ∈ ca9_299 ∧ (goodWord w = true ∨ am_w1 w = true) := by decide +kernel
theorem at_299 : (∀ w ∈ vx_atS RX10 299 "java/lang/IndexOutOfBoundsException" ["java/lang/RuntimeException", "java/lang/Exception"], w ∈ am_W0 ∨ w ∈ am_W1) ∧ (∀ w ∈ vx_atS RX10 299 "java/lang/IndexOutOfBoundsException" ["java/lang/RuntimeException", "java/lang/Exception"], vx_ot w = true) := ⟨fun w hw => (ca7_299 w hw).2.elim (fun g => Or.inl (List.mem_filter.mpr ⟨ca8_299 w (ca7_299 w hw).1, g⟩)) (fun g => Or.inr (List.mem_filter.mpr ⟨ca8_299 w (ca7_299 w hw).1, g⟩)), by decide +kernel⟩
theorem th_295_297_299 : am_TH RX10 295 297 299 "java/lang/IndexOutOfBoundsException" := ⟨am_mem_2 86 (by decide +kernel) rfl, am_mem_1 18 (by decide +kernel) rfl, ⟨"no such part", am_in_3 149 (by decide +kernel)⟩, at_299.1, List.forall_mem_cons.mpr ⟨rfl, List.forall_mem_cons.mpr ⟨rfl, at_299.2⟩⟩, by decide⟩
theorem th_295_336_299 : am_TH RX10 295 336 299 "java/lang/IndexOutOfBoundsException" := ⟨am_mem_2 86 (by decide +kernel) rfl, am_mem_1 18 (by decide +kernel) rfl, ⟨"no such text", am_in_2 95 (by decide +kernel)⟩, at_299.1, List.forall_mem_cons.mpr ⟨rfl, List.forall_mem_cons.mpr ⟨rfl, at_299.2⟩⟩, by decide⟩
theorem th_295_338_299 : am_TH RX10 295 338 299 "java/lang/IndexOutOfBoundsException" := ⟨am_mem_2 86 (by decide +kernel) rfl, am_mem_1 18 (by decide +kernel) rfl, ⟨"no such place or rank", am_in_3 7 (by decide +kernel)⟩, at_299.1, List.forall_mem_cons.mpr ⟨rfl, List.forall_mem_cons.mpr ⟨rfl, at_299.2⟩⟩, by decide⟩
theorem th_295_340_299 : am_TH RX10 295 340 299 "java/lang/IndexOutOfBoundsException" := ⟨am_mem_2 86 (by decide +kernel) rfl, am_mem_1 18 (by decide +kernel) rfl, ⟨"no such row", am_in_4 103 (by decide +kernel)⟩, at_299.1, List.forall_mem_cons.mpr ⟨rfl, List.forall_mem_cons.mpr ⟨rfl, at_299.2⟩⟩, by decide⟩
