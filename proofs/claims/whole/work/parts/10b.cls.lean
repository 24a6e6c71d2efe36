theorem cls_X1 : am_clsOK (RX1, TX1, 3) := by
  refine ⟨am_uws (fun k hk => ?_), by decide +kernel⟩
  have hk : k < 3 := hk
  match k, hk with
  | 0, _ => exact am_mem_1 62 (by decide +kernel) rfl
  | 1, _ => exact am_mem_1 64 (by decide +kernel) rfl
  | 2, _ => exact am_mem_1 66 (by decide +kernel) rfl

theorem cls_X2 : am_clsOK (RX2, TX2, 1) := by
  refine ⟨am_uws (fun k hk => ?_), by decide +kernel⟩
  have hk : k < 1 := hk
  match k, hk with
  | 0, _ => exact am_mem_1 152 (by decide +kernel) rfl

theorem cls_X3 : am_clsOK (RX3, TX3, 0) := by
  refine ⟨am_uws (fun k hk => ?_), by decide +kernel⟩
  exact absurd hk (Nat.not_lt_zero k)
theorem cls_X5 : am_clsOK (RX5, TX5, 3) := by
  refine ⟨am_uws (fun k hk => ?_), by decide +kernel⟩
  have hk : k < 3 := hk
  match k, hk with
  | 0, _ => exact am_mem_1 106 (by decide +kernel) rfl
  | 1, _ => exact am_mem_1 108 (by decide +kernel) rfl
  | 2, _ => exact am_mem_1 110 (by decide +kernel) rfl

theorem cls_X6 : am_clsOK (RX6, TX6, 5) := by
  refine ⟨am_uws (fun k hk => ?_), by decide +kernel⟩
  have hk : k < 5 := hk
  match k, hk with
  | 0, _ => exact am_mem_1 193 (by decide +kernel) rfl
  | 1, _ => exact am_mem_1 195 (by decide +kernel) rfl
  | 2, _ => exact am_mem_1 197 (by decide +kernel) rfl
  | 3, _ => exact am_mem_1 199 (by decide +kernel) rfl
  | 4, _ => exact am_mem_1 201 (by decide +kernel) rfl

theorem cls_X7 : am_clsOK (RX7, TX7, 5) := by
  refine ⟨am_uws (fun k hk => ?_), by decide +kernel⟩
  have hk : k < 5 := hk
  match k, hk with
  | 0, _ => exact am_mem_1 82 (by decide +kernel) rfl
  | 1, _ => exact am_mem_1 84 (by decide +kernel) rfl
  | 2, _ => exact am_mem_1 86 (by decide +kernel) rfl
  | 3, _ => exact am_mem_1 88 (by decide +kernel) rfl
  | 4, _ => exact am_mem_1 90 (by decide +kernel) rfl

theorem cls_X8 : am_clsOK (RX8, TX8, 2) := by
  refine ⟨am_uws (fun k hk => ?_), by decide +kernel⟩
  have hk : k < 2 := hk
  match k, hk with
  | 0, _ => exact am_mem_1 47 (by decide +kernel) rfl
  | 1, _ => exact am_mem_1 49 (by decide +kernel) rfl

theorem cls_X9 : am_clsOK (RX9, TX9, 5) := by
  refine ⟨am_uws (fun k hk => ?_), by decide +kernel⟩
  have hk : k < 5 := hk
  match k, hk with
  | 0, _ => exact am_mem_1 124 (by decide +kernel) rfl
  | 1, _ => exact am_mem_1 126 (by decide +kernel) rfl
  | 2, _ => exact am_mem_1 128 (by decide +kernel) rfl
  | 3, _ => exact am_mem_1 130 (by decide +kernel) rfl
  | 4, _ => exact am_mem_1 132 (by decide +kernel) rfl

theorem cls_X10 : am_clsOK (RX10, TX10, 10) := by
  refine ⟨am_uws (fun k hk => ?_), by decide +kernel⟩
  have hk : k < 10 := hk
  match k, hk with
  | 0, _ => exact am_mem_1 214 (by decide +kernel) rfl
  | 1, _ => exact am_mem_1 216 (by decide +kernel) rfl
  | 2, _ => exact am_mem_1 218 (by decide +kernel) rfl
  | 3, _ => exact am_mem_1 220 (by decide +kernel) rfl
  | 4, _ => exact am_mem_1 222 (by decide +kernel) rfl
  | 5, _ => exact am_mem_1 224 (by decide +kernel) rfl
  | 6, _ => exact am_mem_1 226 (by decide +kernel) rfl
  | 7, _ => exact am_mem_1 228 (by decide +kernel) rfl
  | 8, _ => exact am_mem_1 230 (by decide +kernel) rfl
  | 9, _ => exact am_mem_1 232 (by decide +kernel) rfl

theorem cls_X11 : am_clsOK (RX11, TX11, 11) := by
  refine ⟨am_uws (fun k hk => ?_), by decide +kernel⟩
  have hk : k < 11 := hk
  match k, hk with
  | 0, _ => exact am_mem_5 194 (by decide +kernel) rfl
  | 1, _ => exact am_mem_5 196 (by decide +kernel) rfl
  | 2, _ => exact am_mem_5 198 (by decide +kernel) rfl
  | 3, _ => exact am_mem_5 200 (by decide +kernel) rfl
  | 4, _ => exact am_mem_5 202 (by decide +kernel) rfl
  | 5, _ => exact am_mem_5 204 (by decide +kernel) rfl
  | 6, _ => exact am_mem_5 206 (by decide +kernel) rfl
  | 7, _ => exact am_mem_5 208 (by decide +kernel) rfl
  | 8, _ => exact am_mem_5 210 (by decide +kernel) rfl
  | 9, _ => exact am_mem_5 212 (by decide +kernel) rfl
  | 10, _ => exact am_mem_5 214 (by decide +kernel) rfl

theorem am_clsA : ∀ q ∈ am_cl, am_clsOK q := List.forall_mem_cons.mpr ⟨cls_X1, List.forall_mem_cons.mpr ⟨cls_X2, List.forall_mem_cons.mpr ⟨cls_X3, List.forall_mem_cons.mpr ⟨cls_X5, List.forall_mem_cons.mpr ⟨cls_X6, List.forall_mem_cons.mpr ⟨cls_X7, List.forall_mem_cons.mpr ⟨cls_X8, List.forall_mem_cons.mpr ⟨cls_X9, List.forall_mem_cons.mpr ⟨cls_X10, List.forall_mem_cons.mpr ⟨cls_X11, fun _ h => absurd h List.not_mem_nil⟩⟩⟩⟩⟩⟩⟩⟩⟩⟩
def ca9_77 : List Cond := ([12, 13, 14, 15, 30, 31, 32, 40, 58, 75, 98, 118, 143, 159].filterMap (fun i => tables_1_1[i]?)) ++ ([112, 122, 123, 124, 125, 126, 127, 128, 129, 130, 131, 132, 133, 134, 135, 136, 137, 138, 139, 140, 141, 142, 143, 144, 145, 146, 147, 148, 149, 150, 151, 152, 153, 154, 155, 156, 157, 158, 159, 160, 161, 162, 163, 164, 165, 166, 168, 169, 170, 171, 172, 173, 174, 175, 176, 177, 178, 179, 180, 181, 182, 183, 184, 185, 186, 187, 188, 189, 190, 191, 192, 197, 198, 199, 200, 201, 202, 207, 208, 209, 234, 235, 236, 237, 238, 239].filterMap (fun i => tables_1_2[i]?)) ++ ([4, 5, 6, 22, 23, 24, 25, 26, 27, 32, 33, 34, 92, 93, 94, 95, 96, 97, 98, 103, 120, 121, 122, 123, 124, 125, 128, 129].filterMap (fun i => tables_1_3[i]?)) ++ ([154, 155, 156, 157, 158, 159, 160, 161, 163, 182].filterMap (fun i => tables_1_5[i]?)) ++ ([132, 144, 151].filterMap (fun i => tables_1_7[i]?))
theorem ca8_77 : ∀ w ∈ ca9_77, w ∈ lw_tbl := by
  intro w hw
  simp only [ca9_77, List.mem_append, List.mem_filterMap] at hw
  rcases hw with (((⟨i, -, h⟩ | ⟨i, -, h⟩) | ⟨i, -, h⟩) | ⟨i, -, h⟩) | ⟨i, -, h⟩
  · exact am_in_1 i h
  · exact am_in_2 i h
  · exact am_in_3 i h
  · exact am_in_5 i h
  · exact am_in_7 i h
theorem ca7_77 : ∀ w ∈ vx_atS RX10 77 "java/lang/IllegalArgumentException" ["java/lang/RuntimeException", "java/lang/Exception"], w ∈ ca9_77 ∧ (goodWord w = true ∨ am_w1 w = true) := by decide +kernel
theorem at_77 : (∀ w ∈ vx_atS RX10 77 "java/lang/IllegalArgumentException" ["java/lang/RuntimeException", "java/lang/Exception"], w ∈ am_W0 ∨ w ∈ am_W1) ∧ (∀ w ∈ vx_atS RX10 77 "java/lang/IllegalArgumentException" ["java/lang/RuntimeException", "java/lang/Exception"], vx_ot w = true) := ⟨fun w hw => (ca7_77 w hw).2.elim (fun g => Or.inl (List.mem_filter.mpr ⟨ca8_77 w (ca7_77 w hw).1, g⟩)) (fun g => Or.inr (List.mem_filter.mpr ⟨ca8_77 w (ca7_77 w hw).1, g⟩)), by decide +kernel⟩
theorem th_73_75_77 : am_TH RX10 73 75 77 "java/lang/IllegalArgumentException" := ⟨am_mem_2 122 (by decide +kernel) rfl, am_mem_1 15 (by decide +kernel) rfl, ⟨"no such sign", am_in_2 167 (by decide +kernel)⟩, at_77.1, List.forall_mem_cons.mpr ⟨rfl, List.forall_mem_cons.mpr ⟨rfl, at_77.2⟩⟩, by decide⟩
theorem th_73_93_77 : am_TH RX10 73 93 77 "java/lang/IllegalArgumentException" := ⟨am_mem_2 122 (by decide +kernel) rfl, am_mem_1 15 (by decide +kernel) rfl, ⟨"1 to 8 signs are typed", am_in_2 221 (by decide +kernel)⟩, at_77.1, List.forall_mem_cons.mpr ⟨rfl, List.forall_mem_cons.mpr ⟨rfl, at_77.2⟩⟩, by decide⟩
theorem th_73_211_77 : am_TH RX10 73 211 77 "java/lang/IllegalArgumentException" := ⟨am_mem_2 122 (by decide +kernel) rfl, am_mem_1 15 (by decide +kernel) rfl, ⟨"the word has not so many signs", am_in_4 91 (by decide +kernel)⟩, at_77.1, List.forall_mem_cons.mpr ⟨rfl, List.forall_mem_cons.mpr ⟨rfl, at_77.2⟩⟩, by decide⟩
theorem th_73_233_77 : am_TH RX10 73 233 77 "java/lang/IllegalArgumentException" := ⟨am_mem_2 122 (by decide +kernel) rfl, am_mem_1 15 (by decide +kernel) rfl, ⟨"1 to 8 texts are asked", am_in_4 173 (by decide +kernel)⟩, at_77.1, List.forall_mem_cons.mpr ⟨rfl, List.forall_mem_cons.mpr ⟨rfl, at_77.2⟩⟩, by decide⟩
theorem th_73_344_77 : am_TH RX10 73 344 77 "java/lang/IllegalArgumentException" := ⟨am_mem_2 122 (by decide +kernel) rfl, am_mem_1 15 (by decide +kernel) rfl, ⟨"classes are told by 1 to 64 signs", am_in_3 237 (by decide +kernel)⟩, at_77.1, List.forall_mem_cons.mpr ⟨rfl, List.forall_mem_cons.mpr ⟨rfl, at_77.2⟩⟩, by decide⟩
def ca9_88 : List Cond := ([12, 13, 14, 16, 30, 31, 32, 40, 58, 75, 98, 118, 143, 159].filterMap (fun i => tables_1_1[i]?)) ++ ([113, 125, 126, 127, 128, 129, 130, 131, 132, 133, 134, 135, 136, 137, 138, 139, 140, 141, 142, 143, 144, 145, 146, 147, 148, 149, 150, 151, 152, 153, 154, 155, 156, 157, 158, 159, 160, 161, 162, 163, 164, 165, 166, 171, 172, 173, 174, 175, 176, 177, 178, 179, 180, 181, 182, 183, 184, 185, 186, 187, 188, 189, 190, 191, 192, 194, 195, 196, 197, 198, 199, 200, 201, 202, 204, 205, 206, 207, 208, 209, 234, 235, 236, 237, 238, 239].filterMap (fun i => tables_1_2[i]?)) ++ ([4, 5, 6, 22, 23, 24, 25, 26, 27, 32, 33, 34, 92, 93, 94, 95, 96, 97, 98, 103, 120, 121, 122, 123, 124, 125, 128, 129].filterMap (fun i => tables_1_3[i]?)) ++ ([154, 155, 156, 157, 158, 159, 160, 161, 163, 182].filterMap (fun i => tables_1_5[i]?)) ++ ([132, 145, 151].filterMap (fun i => tables_1_7[i]?))
theorem ca8_88 : ∀ w ∈ ca9_88, w ∈ lw_tbl := by
  intro w hw
  simp only [ca9_88, List.mem_append, List.mem_filterMap] at hw
  rcases hw with (((⟨i, -, h⟩ | ⟨i, -, h⟩) | ⟨i, -, h⟩) | ⟨i, -, h⟩) | ⟨i, -, h⟩
  · exact am_in_1 i h
  · exact am_in_2 i h
  · exact am_in_3 i h
  · exact am_in_5 i h
  · exact am_in_7 i h
theorem ca7_88 : ∀ w ∈ vx_atS RX10 88 "java/lang/IllegalStateException" ["java/lang/RuntimeException", "java/lang/Exception"], w ∈ ca9_88 ∧ (goodWord w = true ∨ am_w1 w = true) := by decide +kernel
theorem at_88 : (∀ w ∈ vx_atS RX10 88 "java/lang/IllegalStateException" ["java/lang/RuntimeException", "java/lang/Exception"], w ∈ am_W0 ∨ w ∈ am_W1) ∧ (∀ w ∈ vx_atS RX10 88 "java/lang/IllegalStateException" ["java/lang/RuntimeException", "java/lang/Exception"], vx_ot w = true) := ⟨fun w hw => (ca7_88 w hw).2.elim (fun g => Or.inl (List.mem_filter.mpr ⟨ca8_88 w (ca7_88 w hw).1, g⟩)) (fun g => Or.inr (List.mem_filter.mpr ⟨ca8_88 w (ca7_88 w hw).1, g⟩)), by decide +kernel⟩
theorem th_84_86_88 : am_TH RX10 84 86 88 "java/lang/IllegalStateException" := ⟨am_mem_2 194 (by decide +kernel) rfl, am_mem_1 16 (by decide +kernel) rfl, ⟨"the typed row is full", am_in_2 203 (by decide +kernel)⟩, at_88.1, List.forall_mem_cons.mpr ⟨rfl, List.forall_mem_cons.mpr ⟨rfl, at_88.2⟩⟩, by decide⟩
theorem th_84_95_88 : am_TH RX10 84 95 88 "java/lang/IllegalStateException" := ⟨am_mem_2 194 (by decide +kernel) rfl, am_mem_1 16 (by decide +kernel) rfl, ⟨"the typed row would be too long", am_in_2 222 (by decide +kernel)⟩, at_88.1, List.forall_mem_cons.mpr ⟨rfl, List.forall_mem_cons.mpr ⟨rfl, at_88.2⟩⟩, by decide⟩
theorem th_84_152_88 : am_TH RX10 84 152 88 "java/lang/IllegalStateException" := ⟨am_mem_2 194 (by decide +kernel) rfl, am_mem_1 16 (by decide +kernel) rfl, ⟨"the text is full", am_in_3 187 (by decide +kernel)⟩, at_88.1, List.forall_mem_cons.mpr ⟨rfl, List.forall_mem_cons.mpr ⟨rfl, at_88.2⟩⟩, by decide⟩
theorem th_84_350_88 : am_TH RX10 84 350 88 "java/lang/IllegalStateException" := ⟨am_mem_2 194 (by decide +kernel) rfl, am_mem_1 16 (by decide +kernel) rfl, ⟨"there are 8 texts", am_in_3 39 (by decide +kernel)⟩, at_88.1, List.forall_mem_cons.mpr ⟨rfl, List.forall_mem_cons.mpr ⟨rfl, at_88.2⟩⟩, by decide⟩
def ca9_101 : List Cond := ([12, 13, 14, 17, 30, 31, 32, 40, 58, 75, 98, 118, 143, 159].filterMap (fun i => tables_1_1[i]?)) ++ ([125, 126, 127, 128, 129, 130, 131, 132, 133, 134, 135, 136, 137, 138, 139, 140, 141, 142, 143, 144, 145, 146, 147, 148, 149, 150, 151, 152, 153, 154, 155, 156, 157, 158, 159, 160, 161, 162, 163, 164, 165, 166, 171, 172, 173, 174, 175, 176, 177, 178, 179, 180, 181, 182, 183, 184, 185, 186, 187, 188, 189, 190, 191, 192, 197, 198, 199, 200, 201, 202, 207, 208, 209, 226, 231, 232, 233, 234, 235, 236, 237, 238, 239].filterMap (fun i => tables_1_2[i]?)) ++ ([1, 2, 3, 4, 5, 6, 22, 23, 24, 25, 26, 27, 32, 33, 34, 92, 93, 94, 95, 96, 97, 98, 103, 120, 121, 122, 123, 124, 125, 128, 129].filterMap (fun i => tables_1_3[i]?)) ++ ([154, 155, 156, 157, 158, 159, 160, 161, 163, 182].filterMap (fun i => tables_1_5[i]?)) ++ ([132, 146, 151].filterMap (fun i => tables_1_7[i]?))
theorem ca8_101 : ∀ w ∈ ca9_101, w ∈ lw_tbl := by
  intro w hw
  simp only [ca9_101, List.mem_append, List.mem_filterMap] at hw
  rcases hw with (((⟨i, -, h⟩ | ⟨i, -, h⟩) | ⟨i, -, h⟩) | ⟨i, -, h⟩) | ⟨i, -, h⟩
  · exact am_in_1 i h
  · exact am_in_2 i h
  · exact am_in_3 i h
  · exact am_in_5 i h
  · exact am_in_7 i h
theorem ca7_101 : ∀ w ∈ am_atX RX10 101, w ∈ ca9_101 ∧ (goodWord w = true ∨ am_w1 w = true) := by decide +kernel
theorem at_101 : (∀ w ∈ am_atX RX10 101, w ∈ am_W0 ∨ w ∈ am_W1) ∧ (∀ w ∈ am_atX RX10 101, vx_ot w = true) := ⟨fun w hw => (ca7_101 w hw).2.elim (fun g => Or.inl (List.mem_filter.mpr ⟨ca8_101 w (ca7_101 w hw).1, g⟩)) (fun g => Or.inr (List.mem_filter.mpr ⟨ca8_101 w (ca7_101 w hw).1, g⟩)), by decide +kernel⟩
theorem th_97_99_101 : am_THX RX10 97 99 101 := ⟨am_mem_2 231 (by decide +kernel) rfl, am_mem_1 17 (by decide +kernel) rfl, ⟨"no such typed sign", am_in_3 0 (by decide +kernel)⟩, at_101.1, at_101.2⟩
theorem th_97_205_101 : am_THX RX10 97 205 101 := ⟨am_mem_2 231 (by decide +kernel) rfl, am_mem_1 17 (by decide +kernel) rfl, ⟨"the word does not stand at so many places", am_in_4 79 (by decide +kernel)⟩, at_101.1, at_101.2⟩
theorem th_97_217_101 : am_THX RX10 97 217 101 := ⟨am_mem_2 231 (by decide +kernel) rfl, am_mem_1 17 (by decide +kernel) rfl, ⟨"no such word", am_in_4 107 (by decide +kernel)⟩, at_101.1, at_101.2⟩
theorem th_97_222_101 : am_THX RX10 97 222 101 := ⟨am_mem_2 231 (by decide +kernel) rfl, am_mem_1 17 (by decide +kernel) rfl, ⟨"no word stands twice", am_in_4 133 (by decide +kernel)⟩, at_101.1, at_101.2⟩
theorem th_97_242_101 : am_THX RX10 97 242 101 := ⟨am_mem_2 231 (by decide +kernel) rfl, am_mem_1 17 (by decide +kernel) rfl, ⟨"no word stands in so many texts", am_in_4 202 (by decide +kernel)⟩, at_101.1, at_101.2⟩
theorem th_97_284_101 : am_THX RX10 97 284 101 := ⟨am_mem_2 231 (by decide +kernel) rfl, am_mem_1 17 (by decide +kernel) rfl, ⟨"no square at this place", am_in_5 54 (by decide +kernel)⟩, at_101.1, at_101.2⟩
theorem th_97_314_101 : am_THX RX10 97 314 101 := ⟨am_mem_2 231 (by decide +kernel) rfl, am_mem_1 17 (by decide +kernel) rfl, ⟨"the piece stands at no place ahead", am_in_5 139 (by decide +kernel)⟩, at_101.1, at_101.2⟩
theorem th_97_321_101 : am_THX RX10 97 321 101 := ⟨am_mem_2 231 (by decide +kernel) rfl, am_mem_1 17 (by decide +kernel) rfl, ⟨"the text has no signs", am_in_3 207 (by decide +kernel)⟩, at_101.1, at_101.2⟩
theorem th_97_348_101 : am_THX RX10 97 348 101 := ⟨am_mem_2 231 (by decide +kernel) rfl, am_mem_1 17 (by decide +kernel) rfl, ⟨"the word stands nowhere", am_in_4 71 (by decide +kernel)⟩, at_101.1, at_101.2⟩
def ca9_113 : List Cond := ([12, 13, 14, 18, 30, 31, 32, 40, 58, 75, 98, 118, 143, 159].filterMap (fun i => tables_1_1[i]?)) ++ ([125, 126, 127, 128, 129, 130, 131, 132, 133, 134, 135, 136, 137, 138, 139, 140, 141, 142, 143, 144, 145, 146, 147, 148, 149, 150, 151, 152, 153, 154, 155, 156, 157, 158, 159, 160, 161, 162, 163, 164, 165, 166, 171, 172, 173, 174, 175, 176, 177, 178, 179, 180, 181, 182, 183, 184, 185, 186, 187, 188, 189, 190, 191, 192, 197, 198, 199, 200, 201, 202, 207, 208, 209, 234, 235, 236, 237, 238, 239].filterMap (fun i => tables_1_2[i]?)) ++ ([4, 5, 6, 10, 19, 20, 21, 22, 23, 24, 25, 26, 27, 29, 30, 31, 32, 33, 34, 92, 93, 94, 95, 96, 97, 98, 103, 120, 121, 122, 123, 124, 125, 128, 129].filterMap (fun i => tables_1_3[i]?)) ++ ([154, 155, 156, 157, 158, 159, 160, 161, 163, 182].filterMap (fun i => tables_1_5[i]?)) ++ ([132, 147, 151].filterMap (fun i => tables_1_7[i]?))
theorem ca8_113 : ∀ w ∈ ca9_113, w ∈ lw_tbl := by
  intro w hw
  simp only [ca9_113, List.mem_append, List.mem_filterMap] at hw
  rcases hw with (((⟨i, -, h⟩ | ⟨i, -, h⟩) | ⟨i, -, h⟩) | ⟨i, -, h⟩) | ⟨i, -, h⟩
  · exact am_in_1 i h
  · exact am_in_2 i h
  · exact am_in_3 i h
  · exact am_in_5 i h
  · exact am_in_7 i h
theorem ca7_113 : ∀ w ∈ vx_atS RX10 113 "java/lang/UnsupportedOperationException" ["java/lang/RuntimeException", "java/lang/Exception"], w ∈ ca9_113 ∧ (goodWord w = true ∨ am_w1 w = true) := by decide +kernel
theorem at_113 : (∀ w ∈ vx_atS RX10 113 "java/lang/UnsupportedOperationException" ["java/lang/RuntimeException", "java/lang/Exception"], w ∈ am_W0 ∨ w ∈ am_W1) ∧ (∀ w ∈ vx_atS RX10 113 "java/lang/UnsupportedOperationException" ["java/lang/RuntimeException", "java/lang/Exception"], vx_ot w = true) := ⟨fun w hw => (ca7_113 w hw).2.elim (fun g => Or.inl (List.mem_filter.mpr ⟨ca8_113 w (ca7_113 w hw).1, g⟩)) (fun g => Or.inr (List.mem_filter.mpr ⟨ca8_113 w (ca7_113 w hw).1, g⟩)), by decide +kernel⟩
theorem th_109_111_113 : am_TH RX10 109 111 113 "java/lang/UnsupportedOperationException" := ⟨am_mem_3 19 (by decide +kernel) rfl, am_mem_1 18 (by decide +kernel) rfl, ⟨"the typed row is no text", am_in_3 28 (by decide +kernel)⟩, at_113.1, List.forall_mem_cons.mpr ⟨rfl, List.forall_mem_cons.mpr ⟨rfl, at_113.2⟩⟩, by decide⟩
theorem th_109_140_113 : am_TH RX10 109 140 113 "java/lang/UnsupportedOperationException" := ⟨am_mem_3 19 (by decide +kernel) rfl, am_mem_1 18 (by decide +kernel) rfl, ⟨"the text would be too long", am_in_3 161 (by decide +kernel)⟩, at_113.1, List.forall_mem_cons.mpr ⟨rfl, List.forall_mem_cons.mpr ⟨rfl, at_113.2⟩⟩, by decide⟩
theorem th_109_271_113 : am_TH RX10 109 271 113 "java/lang/UnsupportedOperationException" := ⟨am_mem_3 19 (by decide +kernel) rfl, am_mem_1 18 (by decide +kernel) rfl, ⟨"the typed row is no last column", am_in_5 32 (by decide +kernel)⟩, at_113.1, List.forall_mem_cons.mpr ⟨rfl, List.forall_mem_cons.mpr ⟨rfl, at_113.2⟩⟩, by decide⟩
theorem th_109_346_113 : am_TH RX10 109 346 113 "java/lang/UnsupportedOperationException" := ⟨am_mem_3 19 (by decide +kernel) rfl, am_mem_1 18 (by decide +kernel) rfl, ⟨"the typed row is no word", am_in_4 43 (by decide +kernel)⟩, at_113.1, List.forall_mem_cons.mpr ⟨rfl, List.forall_mem_cons.mpr ⟨rfl, at_113.2⟩⟩, by decide⟩
def ca9_299 : List Cond := ([12, 13, 14, 20, 30, 31, 32, 40, 58, 75, 98, 118, 143, 159].filterMap (fun i => tables_1_1[i]?)) ++ ([125, 126, 127, 128, 129, 130, 131, 132, 133, 134, 135, 136, 137, 138, 139, 140, 141, 142, 143, 144, 145, 146, 147, 148, 149, 150, 151, 152, 153, 154, 155, 156, 157, 158, 159, 160, 161, 162, 163, 164, 165, 166, 171, 172, 173, 174, 175, 176, 177, 178, 179, 180, 181, 182, 183, 184, 185, 186, 187, 188, 189, 190, 191, 192, 197, 198, 199, 200, 201, 202, 207, 208, 209, 234, 235, 236, 237, 238, 239].filterMap (fun i => tables_1_2[i]?)) ++ ([4, 5, 6, 22, 23, 24, 25, 26, 27, 32, 33, 34, 85, 89, 90, 91, 92, 93, 94, 95, 96, 97, 98, 99, 101, 102, 103, 117, 118, 119, 120, 121, 122, 123, 124, 125, 127, 128, 129].filterMap (fun i => tables_1_3[i]?)) ++ ([154, 155, 156, 157, 158, 159, 160, 161, 163, 182].filterMap (fun i => tables_1_5[i]?)) ++ ([132, 133, 149, 151].filterMap (fun i => tables_1_7[i]?))
theorem ca8_299 : ∀ w ∈ ca9_299, w ∈ lw_tbl := by
  intro w hw
  simp only [ca9_299, List.mem_append, List.mem_filterMap] at hw
  rcases hw with (((⟨i, -, h⟩ | ⟨i, -, h⟩) | ⟨i, -, h⟩) | ⟨i, -, h⟩) | ⟨i, -, h⟩
  · exact am_in_1 i h
  · exact am_in_2 i h
  · exact am_in_3 i h
  · exact am_in_5 i h
  · exact am_in_7 i h
theorem ca7_299 : ∀ w ∈ vx_atS RX10 299 "java/lang/IndexOutOfBoundsException" ["java/lang/RuntimeException", "java/lang/Exception"], w ∈ ca9_299 ∧ (goodWord w = true ∨ am_w1 w = true) := by decide +kernel
theorem at_299 : (∀ w ∈ vx_atS RX10 299 "java/lang/IndexOutOfBoundsException" ["java/lang/RuntimeException", "java/lang/Exception"], w ∈ am_W0 ∨ w ∈ am_W1) ∧ (∀ w ∈ vx_atS RX10 299 "java/lang/IndexOutOfBoundsException" ["java/lang/RuntimeException", "java/lang/Exception"], vx_ot w = true) := ⟨fun w hw => (ca7_299 w hw).2.elim (fun g => Or.inl (List.mem_filter.mpr ⟨ca8_299 w (ca7_299 w hw).1, g⟩)) (fun g => Or.inr (List.mem_filter.mpr ⟨ca8_299 w (ca7_299 w hw).1, g⟩)), by decide +kernel⟩
theorem th_295_297_299 : am_TH RX10 295 297 299 "java/lang/IndexOutOfBoundsException" := ⟨am_mem_3 117 (by decide +kernel) rfl, am_mem_1 20 (by decide +kernel) rfl, ⟨"no such part", am_in_5 98 (by decide +kernel)⟩, at_299.1, List.forall_mem_cons.mpr ⟨rfl, List.forall_mem_cons.mpr ⟨rfl, at_299.2⟩⟩, by decide⟩
theorem th_295_336_299 : am_TH RX10 295 336 299 "java/lang/IndexOutOfBoundsException" := ⟨am_mem_3 117 (by decide +kernel) rfl, am_mem_1 20 (by decide +kernel) rfl, ⟨"no such text", am_in_3 126 (by decide +kernel)⟩, at_299.1, List.forall_mem_cons.mpr ⟨rfl, List.forall_mem_cons.mpr ⟨rfl, at_299.2⟩⟩, by decide⟩
theorem th_295_338_299 : am_TH RX10 295 338 299 "java/lang/IndexOutOfBoundsException" := ⟨am_mem_3 117 (by decide +kernel) rfl, am_mem_1 20 (by decide +kernel) rfl, ⟨"no such place or rank", am_in_3 153 (by decide +kernel)⟩, at_299.1, List.forall_mem_cons.mpr ⟨rfl, List.forall_mem_cons.mpr ⟨rfl, at_299.2⟩⟩, by decide⟩
theorem th_295_340_299 : am_TH RX10 295 340 299 "java/lang/IndexOutOfBoundsException" := ⟨am_mem_3 117 (by decide +kernel) rfl, am_mem_1 20 (by decide +kernel) rfl, ⟨"no such row", am_in_4 214 (by decide +kernel)⟩, at_299.1, List.forall_mem_cons.mpr ⟨rfl, List.forall_mem_cons.mpr ⟨rfl, at_299.2⟩⟩, by decide⟩
theorem th_295_342_299 : am_TH RX10 295 342 299 "java/lang/IndexOutOfBoundsException" := ⟨am_mem_3 117 (by decide +kernel) rfl, am_mem_1 20 (by decide +kernel) rfl, ⟨"no such piece", am_in_5 123 (by decide +kernel)⟩, at_299.1, List.forall_mem_cons.mpr ⟨rfl, List.forall_mem_cons.mpr ⟨rfl, at_299.2⟩⟩, by decide⟩
def ca9_323 : List Cond := ([12, 13, 14, 24, 30, 31, 32, 40, 58, 75, 98, 118, 143, 159].filterMap (fun i => tables_1_1[i]?)) ++ ([125, 126, 127, 128, 129, 130, 131, 132, 133, 134, 135, 136, 137, 138, 139, 140, 141, 142, 143, 144, 145, 146, 147, 148, 149, 150, 151, 152, 153, 154, 155, 156, 157, 158, 159, 160, 161, 162, 163, 164, 165, 166, 171, 172, 173, 174, 175, 176, 177, 178, 179, 180, 181, 182, 183, 184, 185, 186, 187, 188, 189, 190, 191, 192, 197, 198, 199, 200, 201, 202, 207, 208, 209, 234, 235, 236, 237, 238, 239].filterMap (fun i => tables_1_2[i]?)) ++ ([4, 5, 6, 22, 23, 24, 25, 26, 27, 32, 33, 34, 92, 93, 94, 95, 96, 97, 98, 103, 120, 121, 122, 123, 124, 125, 128, 129].filterMap (fun i => tables_1_3[i]?)) ++ ([150, 151, 152, 153, 154, 155, 156, 157, 158, 159, 160, 161, 162, 163, 168, 169, 182].filterMap (fun i => tables_1_5[i]?)) ++ ([132, 150, 151].filterMap (fun i => tables_1_7[i]?))
theorem ca8_323 : ∀ w ∈ ca9_323, w ∈ lw_tbl := by
  intro w hw
  simp only [ca9_323, List.mem_append, List.mem_filterMap] at hw
  rcases hw with (((⟨i, -, h⟩ | ⟨i, -, h⟩) | ⟨i, -, h⟩) | ⟨i, -, h⟩) | ⟨i, -, h⟩
  · exact am_in_1 i h
  · exact am_in_2 i h
  · exact am_in_3 i h
  · exact am_in_5 i h
  · exact am_in_7 i h
theorem ca7_323 : ∀ w ∈ vx_atS RX10 323 "java/lang/ArithmeticException" ["java/lang/RuntimeException", "java/lang/Exception"], w ∈ ca9_323 ∧ (goodWord w = true ∨ am_w1 w = true) := by decide +kernel
theorem at_323 : (∀ w ∈ vx_atS RX10 323 "java/lang/ArithmeticException" ["java/lang/RuntimeException", "java/lang/Exception"], w ∈ am_W0 ∨ w ∈ am_W1) ∧ (∀ w ∈ vx_atS RX10 323 "java/lang/ArithmeticException" ["java/lang/RuntimeException", "java/lang/Exception"], vx_ot w = true) := ⟨fun w hw => (ca7_323 w hw).2.elim (fun g => Or.inl (List.mem_filter.mpr ⟨ca8_323 w (ca7_323 w hw).1, g⟩)) (fun g => Or.inr (List.mem_filter.mpr ⟨ca8_323 w (ca7_323 w hw).1, g⟩)), by decide +kernel⟩
theorem th_319_321_323 : am_TH RX10 319 321 323 "java/lang/ArithmeticException" := ⟨am_mem_5 168 (by decide +kernel) rfl, am_mem_1 24 (by decide +kernel) rfl, ⟨"the text has no signs", am_in_3 207 (by decide +kernel)⟩, at_323.1, List.forall_mem_cons.mpr ⟨rfl, List.forall_mem_cons.mpr ⟨rfl, at_323.2⟩⟩, by decide⟩
