theorem fc_b0 {w : Cond} (i : Nat) (h : (k2_sels lw_privs)[i]? = some w) (g : goodWord w = true) : w ∈ fc_tbl := List.mem_filter.mpr ⟨List.mem_append_left _ (List.mem_of_getElem? h), g⟩
theorem fc_b1 {w : Cond} (i : Nat) (h : tables_1_1[i]? = some w) (g : goodWord w = true) : w ∈ fc_tbl := List.mem_filter.mpr ⟨List.mem_append_right _ (List.mem_append_left _ (List.mem_of_getElem? h)), g⟩
theorem fc_b2 {w : Cond} (i : Nat) (h : tables_1_2[i]? = some w) (g : goodWord w = true) : w ∈ fc_tbl := List.mem_filter.mpr ⟨List.mem_append_right _ (List.mem_append_right _ (List.mem_append_left _ (List.mem_of_getElem? h))), g⟩
theorem fc_b3 {w : Cond} (i : Nat) (h : tables_1_3[i]? = some w) (g : goodWord w = true) : w ∈ fc_tbl := List.mem_filter.mpr ⟨List.mem_append_right _ (List.mem_append_right _ (List.mem_append_right _ (List.mem_append_left _ (List.mem_of_getElem? h)))), g⟩
theorem fc_b4 {w : Cond} (i : Nat) (h : tables_1_4[i]? = some w) (g : goodWord w = true) : w ∈ fc_tbl := List.mem_filter.mpr ⟨List.mem_append_right _ (List.mem_append_right _ (List.mem_append_right _ (List.mem_append_right _ (List.mem_append_left _ (List.mem_of_getElem? h))))), g⟩
theorem fc_b5 {w : Cond} (i : Nat) (h : tables_1_5[i]? = some w) (g : goodWord w = true) : w ∈ fc_tbl := List.mem_filter.mpr ⟨List.mem_append_right _ (List.mem_append_right _ (List.mem_append_right _ (List.mem_append_right _ (List.mem_append_right _ (List.mem_append_left _ (List.mem_of_getElem? h)))))), g⟩
theorem fc_b6 {w : Cond} (i : Nat) (h : tables_1_6[i]? = some w) (g : goodWord w = true) : w ∈ fc_tbl := List.mem_filter.mpr ⟨List.mem_append_right _ (List.mem_append_right _ (List.mem_append_right _ (List.mem_append_right _ (List.mem_append_right _ (List.mem_append_right _ (List.mem_of_getElem? h)))))), g⟩
abbrev J0_charAt_5068e : fc_MI := (yJ0_charAt_5068e, cJ0_charAt_5068e, 2, (some .char), none)
theorem mf_J0_charAt_5068e : fc_mf J0_charAt_5068e 1 := ⟨fc_b1 9 rfl rfl, fc_b2 29 rfl rfl, ⟨by decide +kernel, by decide +kernel, by decide +kernel⟩, by decide⟩
abbrev J0_checkIndex_df160 : fc_MI := (yJ0_checkIndex_df160, cJ0_checkIndex_df160, 2, (none : Option ClassFile.FieldType), none)
theorem mf_J0_checkIndex_df160 : fc_mf J0_checkIndex_df160 2 := ⟨fc_b1 9 rfl rfl, fc_b2 39 rfl rfl, ⟨by decide +kernel, by decide +kernel, by decide +kernel⟩, by decide⟩
abbrev J0_coder_7d493 : fc_MI := (yJ0_coder_7d493, cJ0_coder_7d493, 1, (some .byte), none)
theorem mf_J0_coder_7d493 : fc_mf J0_coder_7d493 0 := ⟨fc_b1 9 rfl rfl, fc_b2 23 rfl rfl, ⟨by decide +kernel, by decide +kernel, by decide +kernel⟩, by decide⟩
abbrev J0_isLatin1_aae02 : fc_MI := (yJ0_isLatin1_aae02, cJ0_isLatin1_aae02, 1, (some .boolean), none)
theorem mf_J0_isLatin1_aae02 : fc_mf J0_isLatin1_aae02 0 := ⟨fc_b1 9 rfl rfl, fc_b2 33 rfl rfl, ⟨by decide +kernel, by decide +kernel, by decide +kernel⟩, by decide⟩
abbrev J0_length_8abf5 : fc_MI := (yJ0_length_8abf5, cJ0_length_8abf5, 1, (some .int), none)
theorem mf_J0_length_8abf5 : fc_mf J0_length_8abf5 0 := ⟨fc_b1 9 rfl rfl, fc_b2 19 rfl rfl, ⟨by decide +kernel, by decide +kernel, by decide +kernel⟩, by decide⟩
abbrev J1_charAt_3b067 : fc_MI := (yJ1_charAt_3b067, cJ1_charAt_3b067, 2, (some .char), none)
theorem mf_J1_charAt_3b067 : fc_mf J1_charAt_3b067 2 := ⟨fc_b1 10 rfl rfl, fc_b2 36 rfl rfl, ⟨by decide +kernel, by decide +kernel, by decide +kernel⟩, by decide⟩
abbrev J2_charAt_3b067 : fc_MI := (yJ2_charAt_3b067, cJ2_charAt_3b067, 2, (some .char), none)
theorem mf_J2_charAt_3b067 : fc_mf J2_charAt_3b067 2 := ⟨fc_b1 12 rfl rfl, fc_b2 47 rfl rfl, ⟨by decide +kernel, by decide +kernel, by decide +kernel⟩, by decide⟩
abbrev J2_checkIndex_2214a : fc_MI := (yJ2_checkIndex_2214a, cJ2_checkIndex_2214a, 2, (none : Option ClassFile.FieldType), none)
theorem mf_J2_checkIndex_2214a : fc_mf J2_checkIndex_2214a 2 := ⟨fc_b1 12 rfl rfl, fc_b2 50 rfl rfl, ⟨by decide +kernel, by decide +kernel, by decide +kernel⟩, by decide⟩
abbrev J2_getChar_3b067 : fc_MI := (yJ2_getChar_3b067, cJ2_getChar_3b067, 2, (some .char), none)
theorem mf_J2_getChar_3b067 : fc_mf J2_getChar_3b067 2 := ⟨fc_b1 12 rfl rfl, fc_b2 57 rfl rfl, ⟨by decide +kernel, by decide +kernel, by decide +kernel⟩, by decide⟩
abbrev J2_length_9d52b : fc_MI := (yJ2_length_9d52b, cJ2_length_9d52b, 1, (some .int), none)
theorem mf_J2_length_9d52b : fc_mf J2_length_9d52b 1 := ⟨fc_b1 12 rfl rfl, fc_b2 53 rfl rfl, ⟨by decide +kernel, by decide +kernel, by decide +kernel⟩, by decide⟩
abbrev J3_checkIndex_8e157 : fc_MI := (yJ3_checkIndex_8e157, cJ3_checkIndex_8e157, 3, (some .int), none)
theorem mf_J3_checkIndex_8e157 : fc_mf J3_checkIndex_8e157 3 := ⟨fc_b1 11 rfl rfl, fc_b2 44 rfl rfl, ⟨by decide +kernel, by decide +kernel, by decide +kernel⟩, by decide⟩
abbrev J6_bitCount_0f7a4 : fc_MI := (yJ6_bitCount_0f7a4, cJ6_bitCount_0f7a4, 1, (some .int), none)
theorem mf_J6_bitCount_0f7a4 : fc_mf J6_bitCount_0f7a4 1 := ⟨fc_b1 20 rfl rfl, fc_b4 79 rfl rfl, ⟨by decide +kernel, by decide +kernel, by decide +kernel⟩, by decide⟩
abbrev J7_fill_53178 : fc_MI := (yJ7_fill_53178, cJ7_fill_53178, 4, (none : Option ClassFile.FieldType), none)
theorem mf_J7_fill_53178 : fc_mf J7_fill_53178 2 := ⟨fc_b1 3 rfl rfl, fc_b1 37 rfl rfl, ⟨by decide +kernel, by decide +kernel, by decide +kernel⟩, by decide⟩
abbrev J9_max_7cf53 : fc_MI := (yJ9_max_7cf53, cJ9_max_7cf53, 2, (some .int), none)
theorem mf_J9_max_7cf53 : fc_mf J9_max_7cf53 2 := ⟨fc_b1 18 rfl rfl, fc_b4 22 rfl rfl, ⟨by decide +kernel, by decide +kernel, by decide +kernel⟩, by decide⟩
abbrev J9_min_7cf53 : fc_MI := (yJ9_min_7cf53, cJ9_min_7cf53, 2, (some .int), none)
theorem mf_J9_min_7cf53 : fc_mf J9_min_7cf53 2 := ⟨fc_b1 18 rfl rfl, fc_b4 3 rfl rfl, ⟨by decide +kernel, by decide +kernel, by decide +kernel⟩, by decide⟩
abbrev X0_append : fc_MI := (yX0_append, cX0_append, 5, (some .int), none)
theorem mf_X0_append : fc_mf X0_append 2 := ⟨fc_b1 7 rfl rfl, fc_b3 200 rfl rfl, ⟨by decide +kernel, by decide +kernel, by decide +kernel⟩, by decide⟩
abbrev X0_init : fc_MI := (yX0_init, cX0_init, 1, (none : Option ClassFile.FieldType), none)
theorem mf_X0_init : fc_mf X0_init 0 := ⟨fc_b1 7 rfl rfl, fc_b1 177 rfl rfl, ⟨by decide +kernel, by decide +kernel, by decide +kernel⟩, by decide⟩
abbrev X0_joined : fc_MI := (yX0_joined, cX0_joined, 3, (some .int), none)
theorem mf_X0_joined : fc_mf X0_joined 3 := ⟨fc_b1 7 rfl rfl, fc_b3 228 rfl rfl, ⟨by decide +kernel, by decide +kernel, by decide +kernel⟩, by decide⟩
abbrev X0_learn : fc_MI := (yX0_learn, cX0_learn, 2, (some .int), none)
theorem mf_X0_learn : fc_mf X0_learn 0 := ⟨fc_b1 7 rfl rfl, fc_b2 67 rfl rfl, ⟨by decide +kernel, by decide +kernel, by decide +kernel⟩, by decide⟩
abbrev X0_worth : fc_MI := (yX0_worth, cX0_worth, 9, (some .int), none)
theorem mf_X0_worth : fc_mf X0_worth 2 := ⟨fc_b1 7 rfl rfl, fc_b3 225 rfl rfl, ⟨by decide +kernel, by decide +kernel, by decide +kernel⟩, by decide⟩
abbrev X0_write : fc_MI := (yX0_write, cX0_write, 3, (none : Option ClassFile.FieldType), none)
theorem mf_X0_write : fc_mf X0_write 1 := ⟨fc_b1 7 rfl rfl, fc_b2 15 rfl rfl, ⟨by decide +kernel, by decide +kernel, by decide +kernel⟩, by decide⟩
abbrev X10_best : fc_MI := (yX10_best, cX10_best, 3, (some .long), none)
theorem mf_X10_best : fc_mf X10_best 1 := ⟨fc_b1 1 rfl rfl, fc_b4 76 rfl rfl, ⟨by decide +kernel, by decide +kernel, by decide +kernel⟩, by decide⟩
abbrev X10_bestCall : fc_MI := (yX10_bestCall, cX10_bestCall, 2, (some .int), none)
theorem mf_X10_bestCall : fc_mf X10_bestCall 1 := ⟨fc_b1 1 rfl rfl, fc_b4 101 rfl rfl, ⟨by decide +kernel, by decide +kernel, by decide +kernel⟩, by decide⟩
abbrev X10_bus : fc_MI := (yX10_bus, cX10_bus, 5, (some .int), none)
theorem mf_X10_bus : fc_mf X10_bus 4 := ⟨fc_b1 1 rfl rfl, fc_b3 114 rfl rfl, ⟨by decide +kernel, by decide +kernel, by decide +kernel⟩, by decide⟩
abbrev X10_busTold : fc_MI := (yX10_busTold, cX10_busTold, 3, (some .int), none)
theorem mf_X10_busTold : fc_mf X10_busTold 2 := ⟨fc_b1 1 rfl rfl, fc_b3 151 rfl rfl, ⟨by decide +kernel, by decide +kernel, by decide +kernel⟩, by decide⟩
abbrev X10_call : fc_MI := (yX10_call, cX10_call, 2, (some .int), none)
theorem mf_X10_call : fc_mf X10_call 1 := ⟨fc_b1 1 rfl rfl, fc_b3 232 rfl rfl, ⟨by decide +kernel, by decide +kernel, by decide +kernel⟩, by decide⟩
abbrev X10_cell : fc_MI := (yX10_cell, cX10_cell, 4, (some .int), none)
theorem mf_X10_cell : fc_mf X10_cell 3 := ⟨fc_b1 1 rfl rfl, fc_b4 123 rfl rfl, ⟨by decide +kernel, by decide +kernel, by decide +kernel⟩, by decide⟩
abbrev X10_copy : fc_MI := (yX10_copy, cX10_copy, 6, (some .int), none)
theorem mf_X10_copy : fc_mf X10_copy 5 := ⟨fc_b1 1 rfl rfl, fc_b4 131 rfl rfl, ⟨by decide +kernel, by decide +kernel, by decide +kernel⟩, by decide⟩
abbrev X10_count : fc_MI := (yX10_count, cX10_count, 2, (some .int), none)
theorem mf_X10_count : fc_mf X10_count 1 := ⟨fc_b1 1 rfl rfl, fc_b4 105 rfl rfl, ⟨by decide +kernel, by decide +kernel, by decide +kernel⟩, by decide⟩
abbrev X10_end : fc_MI := (yX10_end, cX10_end, 3, (some .int), none)
theorem mf_X10_end : fc_mf X10_end 1 := ⟨fc_b1 1 rfl rfl, fc_b3 155 rfl rfl, ⟨by decide +kernel, by decide +kernel, by decide +kernel⟩, by decide⟩
abbrev X10_feed : fc_MI := (yX10_feed, cX10_feed, 4, (some .int), none)
theorem mf_X10_feed : fc_mf X10_feed 2 := ⟨fc_b1 1 rfl rfl, fc_b3 196 rfl rfl, ⟨by decide +kernel, by decide +kernel, by decide +kernel⟩, by decide⟩
abbrev X10_force : fc_MI := (yX10_force, cX10_force, 3, (some .int), none)
theorem mf_X10_force : fc_mf X10_force 1 := ⟨fc_b1 1 rfl rfl, fc_b3 208 rfl rfl, ⟨by decide +kernel, by decide +kernel, by decide +kernel⟩, by decide⟩
abbrev X10_foresee : fc_MI := (yX10_foresee, cX10_foresee, 9, (some .long), none)
theorem mf_X10_foresee : fc_mf X10_foresee 2 := ⟨fc_b1 1 rfl rfl, fc_b4 52 rfl rfl, ⟨by decide +kernel, by decide +kernel, by decide +kernel⟩, by decide⟩
abbrev X10_good : fc_MI := (yX10_good, cX10_good, 3, (some .int), none)
theorem mf_X10_good : fc_mf X10_good 1 := ⟨fc_b1 1 rfl rfl, fc_b3 236 rfl rfl, ⟨by decide +kernel, by decide +kernel, by decide +kernel⟩, by decide⟩
abbrev X10_inWater : fc_MI := (yX10_inWater, cX10_inWater, 1, (some .int), none)
theorem mf_X10_inWater : fc_mf X10_inWater 0 := ⟨fc_b1 1 rfl rfl, fc_b4 44 rfl rfl, ⟨by decide +kernel, by decide +kernel, by decide +kernel⟩, by decide⟩
abbrev X10_init : fc_MI := (yX10_init, cX10_init, 1, (none : Option ClassFile.FieldType), none)
theorem mf_X10_init : fc_mf X10_init 0 := ⟨fc_b1 1 rfl rfl, fc_b1 25 rfl rfl, ⟨by decide +kernel, by decide +kernel, by decide +kernel⟩, by decide⟩
abbrev X10_isNoGoal : fc_MI := (yX10_isNoGoal, cX10_isNoGoal, 2, (some .boolean), none)
theorem mf_X10_isNoGoal : fc_mf X10_isNoGoal 1 := ⟨fc_b1 1 rfl rfl, fc_b3 94 rfl rfl, ⟨by decide +kernel, by decide +kernel, by decide +kernel⟩, by decide⟩
abbrev X10_isNoRoad : fc_MI := (yX10_isNoRoad, cX10_isNoRoad, 2, (some .boolean), none)
theorem mf_X10_isNoRoad : fc_mf X10_isNoRoad 1 := ⟨fc_b1 1 rfl rfl, fc_b3 106 rfl rfl, ⟨by decide +kernel, by decide +kernel, by decide +kernel⟩, by decide⟩
abbrev X10_isNoSheet : fc_MI := (yX10_isNoSheet, cX10_isNoSheet, 1, (some .boolean), none)
theorem mf_X10_isNoSheet : fc_mf X10_isNoSheet 1 := ⟨fc_b1 1 rfl rfl, fc_b4 115 rfl rfl, ⟨by decide +kernel, by decide +kernel, by decide +kernel⟩, by decide⟩
abbrev X10_isNoShelter : fc_MI := (yX10_isNoShelter, cX10_isNoShelter, 2, (some .boolean), none)
theorem mf_X10_isNoShelter : fc_mf X10_isNoShelter 1 := ⟨fc_b1 1 rfl rfl, fc_b3 118 rfl rfl, ⟨by decide +kernel, by decide +kernel, by decide +kernel⟩, by decide⟩
abbrev X10_isNoTrack : fc_MI := (yX10_isNoTrack, cX10_isNoTrack, 1, (some .boolean), none)
theorem mf_X10_isNoTrack : fc_mf X10_isNoTrack 1 := ⟨fc_b1 1 rfl rfl, fc_b3 162 rfl rfl, ⟨by decide +kernel, by decide +kernel, by decide +kernel⟩, by decide⟩
abbrev X10_isNoZone : fc_MI := (yX10_isNoZone, cX10_isNoZone, 2, (some .boolean), none)
theorem mf_X10_isNoZone : fc_mf X10_isNoZone 1 := ⟨fc_b1 1 rfl rfl, fc_b3 90 rfl rfl, ⟨by decide +kernel, by decide +kernel, by decide +kernel⟩, by decide⟩
abbrev X10_isOutside : fc_MI := (yX10_isOutside, cX10_isOutside, 3, (some .boolean), none)
theorem mf_X10_isOutside : fc_mf X10_isOutside 3 := ⟨fc_b1 1 rfl rfl, fc_b3 77 rfl rfl, ⟨by decide +kernel, by decide +kernel, by decide +kernel⟩, by decide⟩
abbrev X10_known : fc_MI := (yX10_known, cX10_known, 5, (some .int), none)
theorem mf_X10_known : fc_mf X10_known 4 := ⟨fc_b1 1 rfl rfl, fc_b3 180 rfl rfl, ⟨by decide +kernel, by decide +kernel, by decide +kernel⟩, by decide⟩
abbrev X10_likely : fc_MI := (yX10_likely, cX10_likely, 4, (some .int), none)
theorem mf_X10_likely : fc_mf X10_likely 2 := ⟨fc_b1 1 rfl rfl, fc_b3 159 rfl rfl, ⟨by decide +kernel, by decide +kernel, by decide +kernel⟩, by decide⟩
abbrev X10_news : fc_MI := (yX10_news, cX10_news, 6, (some .int), none)
theorem mf_X10_news : fc_mf X10_news 5 := ⟨fc_b1 1 rfl rfl, fc_b3 170 rfl rfl, ⟨by decide +kernel, by decide +kernel, by decide +kernel⟩, by decide⟩
abbrev X10_newsRow : fc_MI := (yX10_newsRow, cX10_newsRow, 10, (some .int), none)
theorem mf_X10_newsRow : fc_mf X10_newsRow 5 := ⟨fc_b1 1 rfl rfl, fc_b4 140 rfl rfl, ⟨by decide +kernel, by decide +kernel, by decide +kernel⟩, by decide⟩
abbrev X10_pass : fc_MI := (yX10_pass, cX10_pass, 3, (some .int), none)
theorem mf_X10_pass : fc_mf X10_pass 1 := ⟨fc_b1 1 rfl rfl, fc_b4 8 rfl rfl, ⟨by decide +kernel, by decide +kernel, by decide +kernel⟩, by decide⟩
abbrev X10_road : fc_MI := (yX10_road, cX10_road, 5, (some .int), none)
theorem mf_X10_road : fc_mf X10_road 4 := ⟨fc_b1 1 rfl rfl, fc_b3 86 rfl rfl, ⟨by decide +kernel, by decide +kernel, by decide +kernel⟩, by decide⟩
abbrev X10_roadTold : fc_MI := (yX10_roadTold, cX10_roadTold, 3, (some .int), none)
theorem mf_X10_roadTold : fc_mf X10_roadTold 2 := ⟨fc_b1 1 rfl rfl, fc_b3 138 rfl rfl, ⟨by decide +kernel, by decide +kernel, by decide +kernel⟩, by decide⟩
abbrev X10_says : fc_MI := (yX10_says, cX10_says, 3, (some .long), none)
theorem mf_X10_says : fc_mf X10_says 2 := ⟨fc_b1 1 rfl rfl, fc_b3 212 rfl rfl, ⟨by decide +kernel, by decide +kernel, by decide +kernel⟩, by decide⟩
abbrev X10_sheet : fc_MI := (yX10_sheet, cX10_sheet, 4, (some .int), none)
theorem mf_X10_sheet : fc_mf X10_sheet 3 := ⟨fc_b1 1 rfl rfl, fc_b4 112 rfl rfl, ⟨by decide +kernel, by decide +kernel, by decide +kernel⟩, by decide⟩
abbrev X10_shelter : fc_MI := (yX10_shelter, cX10_shelter, 3, (some .int), none)
theorem mf_X10_shelter : fc_mf X10_shelter 1 := ⟨fc_b1 1 rfl rfl, fc_b3 82 rfl rfl, ⟨by decide +kernel, by decide +kernel, by decide +kernel⟩, by decide⟩
abbrev X10_shelterTold : fc_MI := (yX10_shelterTold, cX10_shelterTold, 3, (some .int), none)
theorem mf_X10_shelterTold : fc_mf X10_shelterTold 2 := ⟨fc_b1 1 rfl rfl, fc_b3 134 rfl rfl, ⟨by decide +kernel, by decide +kernel, by decide +kernel⟩, by decide⟩
abbrev X10_sum : fc_MI := (yX10_sum, cX10_sum, 6, (some .int), none)
theorem mf_X10_sum : fc_mf X10_sum 1 := ⟨fc_b1 1 rfl rfl, fc_b4 108 rfl rfl, ⟨by decide +kernel, by decide +kernel, by decide +kernel⟩, by decide⟩
abbrev X10_taken : fc_MI := (yX10_taken, cX10_taken, 3, (some .int), none)
theorem mf_X10_taken : fc_mf X10_taken 2 := ⟨fc_b1 1 rfl rfl, fc_b4 144 rfl rfl, ⟨by decide +kernel, by decide +kernel, by decide +kernel⟩, by decide⟩
abbrev X10_text : fc_MI := (yX10_text, cX10_text, 1, (some .int), none)
theorem mf_X10_text : fc_mf X10_text 0 := ⟨fc_b1 1 rfl rfl, fc_b3 204 rfl rfl, ⟨by decide +kernel, by decide +kernel, by decide +kernel⟩, by decide⟩
abbrev X10_truth : fc_MI := (yX10_truth, cX10_truth, 3, (some .int), none)
theorem mf_X10_truth : fc_mf X10_truth 1 := ⟨fc_b1 1 rfl rfl, fc_b3 166 rfl rfl, ⟨by decide +kernel, by decide +kernel, by decide +kernel⟩, by decide⟩
abbrev X10_turn : fc_MI := (yX10_turn, cX10_turn, 2, (some .int), none)
theorem mf_X10_turn : fc_mf X10_turn 1 := ⟨fc_b1 1 rfl rfl, fc_b3 110 rfl rfl, ⟨by decide +kernel, by decide +kernel, by decide +kernel⟩, by decide⟩
abbrev X10_use : fc_MI := (yX10_use, cX10_use, 4, (some .int), none)
theorem mf_X10_use : fc_mf X10_use 1 := ⟨fc_b1 1 rfl rfl, fc_b3 102 rfl rfl, ⟨by decide +kernel, by decide +kernel, by decide +kernel⟩, by decide⟩
abbrev X10_zone : fc_MI := (yX10_zone, cX10_zone, 5, (some .int), none)
theorem mf_X10_zone : fc_mf X10_zone 3 := ⟨fc_b1 1 rfl rfl, fc_b3 74 rfl rfl, ⟨by decide +kernel, by decide +kernel, by decide +kernel⟩, by decide⟩
abbrev X10_zoneTold : fc_MI := (yX10_zoneTold, cX10_zoneTold, 3, (some .int), none)
theorem mf_X10_zoneTold : fc_mf X10_zoneTold 2 := ⟨fc_b1 1 rfl rfl, fc_b3 126 rfl rfl, ⟨by decide +kernel, by decide +kernel, by decide +kernel⟩, by decide⟩
abbrev X11_ahead : fc_MI := (yX11_ahead, cX11_ahead, 3, (some .boolean), none)
theorem mf_X11_ahead : fc_mf X11_ahead 1 := ⟨fc_b1 17 rfl rfl, fc_b5 83 rfl rfl, ⟨by decide +kernel, by decide +kernel, by decide +kernel⟩, by decide⟩
abbrev X11_await : fc_MI := (yX11_await, cX11_await, 2, (none : Option ClassFile.FieldType), none)
theorem mf_X11_await : fc_mf X11_await 1 := ⟨fc_b1 17 rfl rfl, fc_b5 87 rfl rfl, ⟨by decide +kernel, by decide +kernel, by decide +kernel⟩, by decide⟩
abbrev X11_best : fc_MI := (yX11_best, cX11_best, 9, (some .long), none)
theorem mf_X11_best : fc_mf X11_best 1 := ⟨fc_b1 17 rfl rfl, fc_b6 174 rfl rfl, ⟨by decide +kernel, by decide +kernel, by decide +kernel⟩, by decide⟩
abbrev X11_bestCall : fc_MI := (yX11_bestCall, cX11_bestCall, 2, (some .int), none)
theorem mf_X11_bestCall : fc_mf X11_bestCall 1 := ⟨fc_b1 17 rfl rfl, fc_b6 193 rfl rfl, ⟨by decide +kernel, by decide +kernel, by decide +kernel⟩, by decide⟩
abbrev X11_between : fc_MI := (yX11_between, cX11_between, 2, (some .boolean), none)
theorem mf_X11_between : fc_mf X11_between 0 := ⟨fc_b1 17 rfl rfl, fc_b5 91 rfl rfl, ⟨by decide +kernel, by decide +kernel, by decide +kernel⟩, by decide⟩
abbrev X11_bringBack : fc_MI := (yX11_bringBack, cX11_bringBack, 2, (none : Option ClassFile.FieldType), none)
theorem mf_X11_bringBack : fc_mf X11_bringBack 0 := ⟨fc_b1 17 rfl rfl, fc_b6 170 rfl rfl, ⟨by decide +kernel, by decide +kernel, by decide +kernel⟩, by decide⟩
abbrev X11_bus : fc_MI := (yX11_bus, cX11_bus, 5, (some .int), none)
theorem mf_X11_bus : fc_mf X11_bus 4 := ⟨fc_b1 17 rfl rfl, fc_b4 199 rfl rfl, ⟨by decide +kernel, by decide +kernel, by decide +kernel⟩, by decide⟩
abbrev X11_busTold : fc_MI := (yX11_busTold, cX11_busTold, 3, (some .int), none)
theorem mf_X11_busTold : fc_mf X11_busTold 2 := ⟨fc_b1 17 rfl rfl, fc_b4 229 rfl rfl, ⟨by decide +kernel, by decide +kernel, by decide +kernel⟩, by decide⟩
abbrev X11_call : fc_MI := (yX11_call, cX11_call, 2, (some .int), none)
theorem mf_X11_call : fc_mf X11_call 1 := ⟨fc_b1 17 rfl rfl, fc_b6 111 rfl rfl, ⟨by decide +kernel, by decide +kernel, by decide +kernel⟩, by decide⟩
abbrev X11_canTake : fc_MI := (yX11_canTake, cX11_canTake, 7, (some .int), none)
theorem mf_X11_canTake : fc_mf X11_canTake 3 := ⟨fc_b1 17 rfl rfl, fc_b4 225 rfl rfl, ⟨by decide +kernel, by decide +kernel, by decide +kernel⟩, by decide⟩
abbrev X11_cell : fc_MI := (yX11_cell, cX11_cell, 4, (some .int), none)
theorem mf_X11_cell : fc_mf X11_cell 3 := ⟨fc_b1 17 rfl rfl, fc_b6 213 rfl rfl, ⟨by decide +kernel, by decide +kernel, by decide +kernel⟩, by decide⟩
abbrev X11_choose : fc_MI := (yX11_choose, cX11_choose, 8, (some .int), none)
theorem mf_X11_choose : fc_mf X11_choose 3 := ⟨fc_b1 17 rfl rfl, fc_b6 185 rfl rfl, ⟨by decide +kernel, by decide +kernel, by decide +kernel⟩, by decide⟩
abbrev X11_closes : fc_MI := (yX11_closes, cX11_closes, 1, (some .boolean), none)
theorem mf_X11_closes : fc_mf X11_closes 0 := ⟨fc_b1 17 rfl rfl, fc_b5 95 rfl rfl, ⟨by decide +kernel, by decide +kernel, by decide +kernel⟩, by decide⟩
abbrev X11_copy : fc_MI := (yX11_copy, cX11_copy, 7, (some .int), none)
theorem mf_X11_copy : fc_mf X11_copy 5 := ⟨fc_b1 17 rfl rfl, fc_b6 220 rfl rfl, ⟨by decide +kernel, by decide +kernel, by decide +kernel⟩, by decide⟩
abbrev X11_count : fc_MI := (yX11_count, cX11_count, 2, (some .int), none)
theorem mf_X11_count : fc_mf X11_count 1 := ⟨fc_b1 17 rfl rfl, fc_b6 197 rfl rfl, ⟨by decide +kernel, by decide +kernel, by decide +kernel⟩, by decide⟩
abbrev X11_countBits : fc_MI := (yX11_countBits, cX11_countBits, 3, (some .int), none)
theorem mf_X11_countBits : fc_mf X11_countBits 1 := ⟨fc_b1 17 rfl rfl, fc_b6 181 rfl rfl, ⟨by decide +kernel, by decide +kernel, by decide +kernel⟩, by decide⟩
abbrev X11_cutTo : fc_MI := (yX11_cutTo, cX11_cutTo, 2, (some .int), none)
theorem mf_X11_cutTo : fc_mf X11_cutTo 2 := ⟨fc_b1 17 rfl rfl, fc_b6 216 rfl rfl, ⟨by decide +kernel, by decide +kernel, by decide +kernel⟩, by decide⟩
abbrev X11_doAll : fc_MI := (yX11_doAll, cX11_doAll, 2, (none : Option ClassFile.FieldType), none)
theorem mf_X11_doAll : fc_mf X11_doAll 1 := ⟨fc_b1 17 rfl rfl, fc_b5 72 rfl rfl, ⟨by decide +kernel, by decide +kernel, by decide +kernel⟩, by decide⟩
abbrev X11_done : fc_MI := (yX11_done, cX11_done, 3, (some .int), none)
theorem mf_X11_done : fc_mf X11_done 3 := ⟨fc_b1 17 rfl rfl, fc_b5 114 rfl rfl, ⟨by decide +kernel, by decide +kernel, by decide +kernel⟩, by decide⟩
abbrev X11_emit : fc_MI := (yX11_emit, cX11_emit, 2, (none : Option ClassFile.FieldType), none)
theorem mf_X11_emit : fc_mf X11_emit 1 := ⟨fc_b1 17 rfl rfl, fc_b5 68 rfl rfl, ⟨by decide +kernel, by decide +kernel, by decide +kernel⟩, by decide⟩
abbrev X11_end : fc_MI := (yX11_end, cX11_end, 3, (some .int), none)
theorem mf_X11_end : fc_mf X11_end 1 := ⟨fc_b1 17 rfl rfl, fc_b4 238 rfl rfl, ⟨by decide +kernel, by decide +kernel, by decide +kernel⟩, by decide⟩
abbrev X11_feed : fc_MI := (yX11_feed, cX11_feed, 5, (some .int), none)
theorem mf_X11_feed : fc_mf X11_feed 2 := ⟨fc_b1 17 rfl rfl, fc_b5 27 rfl rfl, ⟨by decide +kernel, by decide +kernel, by decide +kernel⟩, by decide⟩
abbrev X11_force : fc_MI := (yX11_force, cX11_force, 3, (some .int), none)
theorem mf_X11_force : fc_mf X11_force 1 := ⟨fc_b1 17 rfl rfl, fc_b5 99 rfl rfl, ⟨by decide +kernel, by decide +kernel, by decide +kernel⟩, by decide⟩
abbrev X11_foresee : fc_MI := (yX11_foresee, cX11_foresee, 4, (some .long), none)
theorem mf_X11_foresee : fc_mf X11_foresee 2 := ⟨fc_b1 17 rfl rfl, fc_b6 153 rfl rfl, ⟨by decide +kernel, by decide +kernel, by decide +kernel⟩, by decide⟩
abbrev X11_good : fc_MI := (yX11_good, cX11_good, 4, (some .int), none)
theorem mf_X11_good : fc_mf X11_good 1 := ⟨fc_b1 17 rfl rfl, fc_b6 115 rfl rfl, ⟨by decide +kernel, by decide +kernel, by decide +kernel⟩, by decide⟩
abbrev X11_inWater : fc_MI := (yX11_inWater, cX11_inWater, 1, (some .int), none)
theorem mf_X11_inWater : fc_mf X11_inWater 0 := ⟨fc_b1 17 rfl rfl, fc_b6 145 rfl rfl, ⟨by decide +kernel, by decide +kernel, by decide +kernel⟩, by decide⟩
abbrev X11_inWaterOf : fc_MI := (yX11_inWaterOf, cX11_inWaterOf, 4, (some .int), none)
theorem mf_X11_inWaterOf : fc_mf X11_inWaterOf 1 := ⟨fc_b1 17 rfl rfl, fc_b6 149 rfl rfl, ⟨by decide +kernel, by decide +kernel, by decide +kernel⟩, by decide⟩
abbrev X11_init : fc_MI := (yX11_init, cX11_init, 1, (none : Option ClassFile.FieldType), none)
theorem mf_X11_init : fc_mf X11_init 0 := ⟨fc_b1 17 rfl rfl, fc_b5 119 rfl rfl, ⟨by decide +kernel, by decide +kernel, by decide +kernel⟩, by decide⟩
abbrev X11_isBus : fc_MI := (yX11_isBus, cX11_isBus, 2, (some .boolean), none)
theorem mf_X11_isBus : fc_mf X11_isBus 1 := ⟨fc_b1 17 rfl rfl, fc_b4 233 rfl rfl, ⟨by decide +kernel, by decide +kernel, by decide +kernel⟩, by decide⟩
abbrev X11_isDigit : fc_MI := (yX11_isDigit, cX11_isDigit, 2, (some .boolean), none)
theorem mf_X11_isDigit : fc_mf X11_isDigit 1 := ⟨fc_b1 17 rfl rfl, fc_b5 52 rfl rfl, ⟨by decide +kernel, by decide +kernel, by decide +kernel⟩, by decide⟩
abbrev X11_isGoal : fc_MI := (yX11_isGoal, cX11_isGoal, 2, (some .boolean), none)
theorem mf_X11_isGoal : fc_mf X11_isGoal 1 := ⟨fc_b1 17 rfl rfl, fc_b4 178 rfl rfl, ⟨by decide +kernel, by decide +kernel, by decide +kernel⟩, by decide⟩
abbrev X11_isIn : fc_MI := (yX11_isIn, cX11_isIn, 6, (some .boolean), none)
theorem mf_X11_isIn : fc_mf X11_isIn 3 := ⟨fc_b1 17 rfl rfl, fc_b4 158 rfl rfl, ⟨by decide +kernel, by decide +kernel, by decide +kernel⟩, by decide⟩
abbrev X11_isKey : fc_MI := (yX11_isKey, cX11_isKey, 2, (some .boolean), none)
theorem mf_X11_isKey : fc_mf X11_isKey 1 := ⟨fc_b1 17 rfl rfl, fc_b5 60 rfl rfl, ⟨by decide +kernel, by decide +kernel, by decide +kernel⟩, by decide⟩
abbrev X11_isLetter : fc_MI := (yX11_isLetter, cX11_isLetter, 2, (some .boolean), none)
theorem mf_X11_isLetter : fc_mf X11_isLetter 1 := ⟨fc_b1 17 rfl rfl, fc_b5 44 rfl rfl, ⟨by decide +kernel, by decide +kernel, by decide +kernel⟩, by decide⟩
abbrev X11_isRoad : fc_MI := (yX11_isRoad, cX11_isRoad, 2, (some .boolean), none)
theorem mf_X11_isRoad : fc_mf X11_isRoad 1 := ⟨fc_b1 17 rfl rfl, fc_b4 191 rfl rfl, ⟨by decide +kernel, by decide +kernel, by decide +kernel⟩, by decide⟩
abbrev X11_isSheet : fc_MI := (yX11_isSheet, cX11_isSheet, 1, (some .boolean), none)
theorem mf_X11_isSheet : fc_mf X11_isSheet 1 := ⟨fc_b1 17 rfl rfl, fc_b6 207 rfl rfl, ⟨by decide +kernel, by decide +kernel, by decide +kernel⟩, by decide⟩
abbrev X11_isShelter : fc_MI := (yX11_isShelter, cX11_isShelter, 2, (some .boolean), none)
theorem mf_X11_isShelter : fc_mf X11_isShelter 1 := ⟨fc_b1 17 rfl rfl, fc_b4 182 rfl rfl, ⟨by decide +kernel, by decide +kernel, by decide +kernel⟩, by decide⟩
abbrev X11_isSign : fc_MI := (yX11_isSign, cX11_isSign, 2, (some .boolean), none)
theorem mf_X11_isSign : fc_mf X11_isSign 1 := ⟨fc_b1 17 rfl rfl, fc_b5 79 rfl rfl, ⟨by decide +kernel, by decide +kernel, by decide +kernel⟩, by decide⟩
abbrev X11_isTrack : fc_MI := (yX11_isTrack, cX11_isTrack, 1, (some .boolean), none)
theorem mf_X11_isTrack : fc_mf X11_isTrack 1 := ⟨fc_b1 17 rfl rfl, fc_b5 6 rfl rfl, ⟨by decide +kernel, by decide +kernel, by decide +kernel⟩, by decide⟩
abbrev X11_isWet : fc_MI := (yX11_isWet, cX11_isWet, 4, (some .boolean), none)
theorem mf_X11_isWet : fc_mf X11_isWet 3 := ⟨fc_b1 17 rfl rfl, fc_b4 209 rfl rfl, ⟨by decide +kernel, by decide +kernel, by decide +kernel⟩, by decide⟩
abbrev X11_isZone : fc_MI := (yX11_isZone, cX11_isZone, 2, (some .boolean), none)
theorem mf_X11_isZone : fc_mf X11_isZone 1 := ⟨fc_b1 17 rfl rfl, fc_b4 174 rfl rfl, ⟨by decide +kernel, by decide +kernel, by decide +kernel⟩, by decide⟩
abbrev X11_keepAll : fc_MI := (yX11_keepAll, cX11_keepAll, 2, (none : Option ClassFile.FieldType), none)
theorem mf_X11_keepAll : fc_mf X11_keepAll 0 := ⟨fc_b1 17 rfl rfl, fc_b6 166 rfl rfl, ⟨by decide +kernel, by decide +kernel, by decide +kernel⟩, by decide⟩
abbrev X11_known : fc_MI := (yX11_known, cX11_known, 5, (some .int), none)
theorem mf_X11_known : fc_mf X11_known 4 := ⟨fc_b1 17 rfl rfl, fc_b5 19 rfl rfl, ⟨by decide +kernel, by decide +kernel, by decide +kernel⟩, by decide⟩
abbrev X11_knownOf : fc_MI := (yX11_knownOf, cX11_knownOf, 8, (some .int), none)
theorem mf_X11_knownOf : fc_mf X11_knownOf 4 := ⟨fc_b1 17 rfl rfl, fc_b5 23 rfl rfl, ⟨by decide +kernel, by decide +kernel, by decide +kernel⟩, by decide⟩
abbrev X11_leave : fc_MI := (yX11_leave, cX11_leave, 6, (none : Option ClassFile.FieldType), none)
theorem mf_X11_leave : fc_mf X11_leave 1 := ⟨fc_b1 17 rfl rfl, fc_b6 131 rfl rfl, ⟨by decide +kernel, by decide +kernel, by decide +kernel⟩, by decide⟩
abbrev X11_likely : fc_MI := (yX11_likely, cX11_likely, 4, (some .int), none)
theorem mf_X11_likely : fc_mf X11_likely 2 := ⟨fc_b1 17 rfl rfl, fc_b5 3 rfl rfl, ⟨by decide +kernel, by decide +kernel, by decide +kernel⟩, by decide⟩
abbrev X11_mayAsk : fc_MI := (yX11_mayAsk, cX11_mayAsk, 6, (some .boolean), none)
theorem mf_X11_mayAsk : fc_mf X11_mayAsk 1 := ⟨fc_b1 17 rfl rfl, fc_b6 178 rfl rfl, ⟨by decide +kernel, by decide +kernel, by decide +kernel⟩, by decide⟩
abbrev X11_move : fc_MI := (yX11_move, cX11_move, 4, (none : Option ClassFile.FieldType), none)
theorem mf_X11_move : fc_mf X11_move 1 := ⟨fc_b1 17 rfl rfl, fc_b6 137 rfl rfl, ⟨by decide +kernel, by decide +kernel, by decide +kernel⟩, by decide⟩
abbrev X11_nameOf : fc_MI := (yX11_nameOf, cX11_nameOf, 5, (some .int), none)
theorem mf_X11_nameOf : fc_mf X11_nameOf 4 := ⟨fc_b1 17 rfl rfl, fc_b5 111 rfl rfl, ⟨by decide +kernel, by decide +kernel, by decide +kernel⟩, by decide⟩
abbrev X11_news : fc_MI := (yX11_news, cX11_news, 7, (some .int), none)
theorem mf_X11_news : fc_mf X11_news 5 := ⟨fc_b1 17 rfl rfl, fc_b5 14 rfl rfl, ⟨by decide +kernel, by decide +kernel, by decide +kernel⟩, by decide⟩
abbrev X11_newsRow : fc_MI := (yX11_newsRow, cX11_newsRow, 11, (some .int), none)
theorem mf_X11_newsRow : fc_mf X11_newsRow 5 := ⟨fc_b1 17 rfl rfl, fc_b6 224 rfl rfl, ⟨by decide +kernel, by decide +kernel, by decide +kernel⟩, by decide⟩
abbrev X11_next : fc_MI := (yX11_next, cX11_next, 2, (none : Option ClassFile.FieldType), none)
theorem mf_X11_next : fc_mf X11_next 0 := ⟨fc_b1 17 rfl rfl, fc_b5 40 rfl rfl, ⟨by decide +kernel, by decide +kernel, by decide +kernel⟩, by decide⟩
abbrev X11_pass : fc_MI := (yX11_pass, cX11_pass, 3, (some .int), none)
theorem mf_X11_pass : fc_mf X11_pass 1 := ⟨fc_b1 17 rfl rfl, fc_b6 123 rfl rfl, ⟨by decide +kernel, by decide +kernel, by decide +kernel⟩, by decide⟩
abbrev X11_played : fc_MI := (yX11_played, cX11_played, 3, (some .int), none)
theorem mf_X11_played : fc_mf X11_played 1 := ⟨fc_b1 17 rfl rfl, fc_b6 162 rfl rfl, ⟨by decide +kernel, by decide +kernel, by decide +kernel⟩, by decide⟩
abbrev X11_rank : fc_MI := (yX11_rank, cX11_rank, 1, (some .int), none)
theorem mf_X11_rank : fc_mf X11_rank 1 := ⟨fc_b1 17 rfl rfl, fc_b5 75 rfl rfl, ⟨by decide +kernel, by decide +kernel, by decide +kernel⟩, by decide⟩
abbrev X11_readAll : fc_MI := (yX11_readAll, cX11_readAll, 3, (some .int), none)
theorem mf_X11_readAll : fc_mf X11_readAll 1 := ⟨fc_b1 17 rfl rfl, fc_b5 36 rfl rfl, ⟨by decide +kernel, by decide +kernel, by decide +kernel⟩, by decide⟩
abbrev X11_readE : fc_MI := (yX11_readE, cX11_readE, 5, (some .boolean), none)
theorem mf_X11_readE : fc_mf X11_readE 1 := ⟨fc_b1 17 rfl rfl, fc_b5 64 rfl rfl, ⟨by decide +kernel, by decide +kernel, by decide +kernel⟩, by decide⟩
abbrev X11_readNumber : fc_MI := (yX11_readNumber, cX11_readNumber, 1, (none : Option ClassFile.FieldType), none)
theorem mf_X11_readNumber : fc_mf X11_readNumber 0 := ⟨fc_b1 17 rfl rfl, fc_b5 56 rfl rfl, ⟨by decide +kernel, by decide +kernel, by decide +kernel⟩, by decide⟩
abbrev X11_readWord : fc_MI := (yX11_readWord, cX11_readWord, 5, (none : Option ClassFile.FieldType), none)
theorem mf_X11_readWord : fc_mf X11_readWord 0 := ⟨fc_b1 17 rfl rfl, fc_b5 48 rfl rfl, ⟨by decide +kernel, by decide +kernel, by decide +kernel⟩, by decide⟩
abbrev X11_ride : fc_MI := (yX11_ride, cX11_ride, 5, (none : Option ClassFile.FieldType), none)
theorem mf_X11_ride : fc_mf X11_ride 1 := ⟨fc_b1 17 rfl rfl, fc_b6 141 rfl rfl, ⟨by decide +kernel, by decide +kernel, by decide +kernel⟩, by decide⟩
abbrev X11_road : fc_MI := (yX11_road, cX11_road, 5, (some .int), none)
theorem mf_X11_road : fc_mf X11_road 4 := ⟨fc_b1 17 rfl rfl, fc_b4 168 rfl rfl, ⟨by decide +kernel, by decide +kernel, by decide +kernel⟩, by decide⟩
abbrev X11_roadTold : fc_MI := (yX11_roadTold, cX11_roadTold, 3, (some .int), none)
theorem mf_X11_roadTold : fc_mf X11_roadTold 2 := ⟨fc_b1 17 rfl rfl, fc_b4 221 rfl rfl, ⟨by decide +kernel, by decide +kernel, by decide +kernel⟩, by decide⟩
abbrev X11_roomLeft : fc_MI := (yX11_roomLeft, cX11_roomLeft, 2, (some .int), none)
theorem mf_X11_roomLeft : fc_mf X11_roomLeft 1 := ⟨fc_b1 17 rfl rfl, fc_b4 217 rfl rfl, ⟨by decide +kernel, by decide +kernel, by decide +kernel⟩, by decide⟩
abbrev X11_says : fc_MI := (yX11_says, cX11_says, 3, (some .long), none)
theorem mf_X11_says : fc_mf X11_says 2 := ⟨fc_b1 17 rfl rfl, fc_b5 103 rfl rfl, ⟨by decide +kernel, by decide +kernel, by decide +kernel⟩, by decide⟩
abbrev X11_sheet : fc_MI := (yX11_sheet, cX11_sheet, 5, (some .int), none)
theorem mf_X11_sheet : fc_mf X11_sheet 3 := ⟨fc_b1 17 rfl rfl, fc_b6 204 rfl rfl, ⟨by decide +kernel, by decide +kernel, by decide +kernel⟩, by decide⟩
abbrev X11_shelter : fc_MI := (yX11_shelter, cX11_shelter, 2, (some .int), none)
theorem mf_X11_shelter : fc_mf X11_shelter 1 := ⟨fc_b1 17 rfl rfl, fc_b4 164 rfl rfl, ⟨by decide +kernel, by decide +kernel, by decide +kernel⟩, by decide⟩
abbrev X11_shelterTold : fc_MI := (yX11_shelterTold, cX11_shelterTold, 3, (some .int), none)
theorem mf_X11_shelterTold : fc_mf X11_shelterTold 2 := ⟨fc_b1 17 rfl rfl, fc_b4 213 rfl rfl, ⟨by decide +kernel, by decide +kernel, by decide +kernel⟩, by decide⟩
abbrev X11_step : fc_MI := (yX11_step, cX11_step, 3, (none : Option ClassFile.FieldType), none)
theorem mf_X11_step : fc_mf X11_step 1 := ⟨fc_b1 17 rfl rfl, fc_b6 127 rfl rfl, ⟨by decide +kernel, by decide +kernel, by decide +kernel⟩, by decide⟩
abbrev X11_sumOf : fc_MI := (yX11_sumOf, cX11_sumOf, 4, (some .int), none)
theorem mf_X11_sumOf : fc_mf X11_sumOf 2 := ⟨fc_b1 17 rfl rfl, fc_b6 200 rfl rfl, ⟨by decide +kernel, by decide +kernel, by decide +kernel⟩, by decide⟩
abbrev X11_takeCalls : fc_MI := (yX11_takeCalls, cX11_takeCalls, 8, (some .boolean), none)
theorem mf_X11_takeCalls : fc_mf X11_takeCalls 1 := ⟨fc_b1 17 rfl rfl, fc_b6 157 rfl rfl, ⟨by decide +kernel, by decide +kernel, by decide +kernel⟩, by decide⟩
abbrev X11_taken : fc_MI := (yX11_taken, cX11_taken, 5, (some .int), none)
theorem mf_X11_taken : fc_mf X11_taken 2 := ⟨fc_b1 17 rfl rfl, fc_b6 231 rfl rfl, ⟨by decide +kernel, by decide +kernel, by decide +kernel⟩, by decide⟩
abbrev X11_text : fc_MI := (yX11_text, cX11_text, 2, (some .int), none)
theorem mf_X11_text : fc_mf X11_text 0 := ⟨fc_b1 17 rfl rfl, fc_b5 32 rfl rfl, ⟨by decide +kernel, by decide +kernel, by decide +kernel⟩, by decide⟩
abbrev X11_truth : fc_MI := (yX11_truth, cX11_truth, 3, (some .int), none)
theorem mf_X11_truth : fc_mf X11_truth 1 := ⟨fc_b1 17 rfl rfl, fc_b5 10 rfl rfl, ⟨by decide +kernel, by decide +kernel, by decide +kernel⟩, by decide⟩
abbrev X11_turn : fc_MI := (yX11_turn, cX11_turn, 2, (some .int), none)
theorem mf_X11_turn : fc_mf X11_turn 1 := ⟨fc_b1 17 rfl rfl, fc_b4 195 rfl rfl, ⟨by decide +kernel, by decide +kernel, by decide +kernel⟩, by decide⟩
abbrev X11_use : fc_MI := (yX11_use, cX11_use, 3, (some .int), none)
theorem mf_X11_use : fc_mf X11_use 1 := ⟨fc_b1 17 rfl rfl, fc_b4 187 rfl rfl, ⟨by decide +kernel, by decide +kernel, by decide +kernel⟩, by decide⟩
abbrev X11_wasWet : fc_MI := (yX11_wasWet, cX11_wasWet, 6, (some .boolean), none)
theorem mf_X11_wasWet : fc_mf X11_wasWet 3 := ⟨fc_b1 17 rfl rfl, fc_b6 119 rfl rfl, ⟨by decide +kernel, by decide +kernel, by decide +kernel⟩, by decide⟩
abbrev X11_worst : fc_MI := (yX11_worst, cX11_worst, 3, (some .int), none)
theorem mf_X11_worst : fc_mf X11_worst 0 := ⟨fc_b1 17 rfl rfl, fc_b6 189 rfl rfl, ⟨by decide +kernel, by decide +kernel, by decide +kernel⟩, by decide⟩
abbrev X11_worthOf : fc_MI := (yX11_worthOf, cX11_worthOf, 9, (some .int), none)
theorem mf_X11_worthOf : fc_mf X11_worthOf 4 := ⟨fc_b1 17 rfl rfl, fc_b5 107 rfl rfl, ⟨by decide +kernel, by decide +kernel, by decide +kernel⟩, by decide⟩
abbrev X11_zone : fc_MI := (yX11_zone, cX11_zone, 4, (some .int), none)
theorem mf_X11_zone : fc_mf X11_zone 3 := ⟨fc_b1 17 rfl rfl, fc_b4 154 rfl rfl, ⟨by decide +kernel, by decide +kernel, by decide +kernel⟩, by decide⟩
abbrev X11_zoneTold : fc_MI := (yX11_zoneTold, cX11_zoneTold, 3, (some .int), none)
theorem mf_X11_zoneTold : fc_mf X11_zoneTold 2 := ⟨fc_b1 17 rfl rfl, fc_b4 204 rfl rfl, ⟨by decide +kernel, by decide +kernel, by decide +kernel⟩, by decide⟩
abbrev X1_hire : fc_MI := (yX1_hire, cX1_hire, 6, (some .int), none)
theorem mf_X1_hire : fc_mf X1_hire 4 := ⟨fc_b1 5 rfl rfl, fc_b3 122 rfl rfl, ⟨by decide +kernel, by decide +kernel, by decide +kernel⟩, by decide⟩
abbrev X1_init : fc_MI := (yX1_init, cX1_init, 1, (none : Option ClassFile.FieldType), none)
theorem mf_X1_init : fc_mf X1_init 0 := ⟨fc_b1 5 rfl rfl, fc_b1 96 rfl rfl, ⟨by decide +kernel, by decide +kernel, by decide +kernel⟩, by decide⟩
abbrev X2_become : fc_MI := (yX2_become, cX2_become, 2, (none : Option ClassFile.FieldType), none)
theorem mf_X2_become : fc_mf X2_become 1 := ⟨fc_b1 13 rfl rfl, fc_b4 61 rfl rfl, ⟨by decide +kernel, by decide +kernel, by decide +kernel⟩, by decide⟩
abbrev X2_init : fc_MI := (yX2_init, cX2_init, 1, (none : Option ClassFile.FieldType), none)
theorem mf_X2_init : fc_mf X2_init 0 := ⟨fc_b1 13 rfl rfl, fc_b2 141 rfl rfl, ⟨by decide +kernel, by decide +kernel, by decide +kernel⟩, by decide⟩
abbrev X2_isCalled : fc_MI := (yX2_isCalled, cX2_isCalled, 2, (some .boolean), none)
theorem mf_X2_isCalled : fc_mf X2_isCalled 1 := ⟨fc_b1 13 rfl rfl, fc_b3 221 rfl rfl, ⟨by decide +kernel, by decide +kernel, by decide +kernel⟩, by decide⟩
abbrev X3_foreseen : fc_MI := (yX3_foreseen, cX3_foreseen, 4, (some .int), none)
theorem mf_X3_foreseen : fc_mf X3_foreseen 1 := ⟨fc_b1 15 rfl rfl, fc_b4 57 rfl rfl, ⟨by decide +kernel, by decide +kernel, by decide +kernel⟩, by decide⟩
abbrev X3_init : fc_MI := (yX3_init, cX3_init, 5, (none : Option ClassFile.FieldType), none)
theorem mf_X3_init : fc_mf X3_init 4 := ⟨fc_b1 15 rfl rfl, fc_b2 230 rfl rfl, ⟨by decide +kernel, by decide +kernel, by decide +kernel⟩, by decide⟩
abbrev X3_plan : fc_MI := (yX3_plan, cX3_plan, 6, (some .int), none)
theorem mf_X3_plan : fc_mf X3_plan 2 := ⟨fc_b1 15 rfl rfl, fc_b4 91 rfl rfl, ⟨by decide +kernel, by decide +kernel, by decide +kernel⟩, by decide⟩
abbrev X3_search : fc_MI := (yX3_search, cX3_search, 7, (some .long), none)
theorem mf_X3_search : fc_mf X3_search 1 := ⟨fc_b1 15 rfl rfl, fc_b4 86 rfl rfl, ⟨by decide +kernel, by decide +kernel, by decide +kernel⟩, by decide⟩
abbrev X3_settled : fc_MI := (yX3_settled, cX3_settled, 5, (some .int), none)
theorem mf_X3_settled : fc_mf X3_settled 1 := ⟨fc_b1 15 rfl rfl, fc_b4 68 rfl rfl, ⟨by decide +kernel, by decide +kernel, by decide +kernel⟩, by decide⟩
abbrev X3_worst : fc_MI := (yX3_worst, cX3_worst, 4, (some .int), none)
theorem mf_X3_worst : fc_mf X3_worst 1 := ⟨fc_b1 15 rfl rfl, fc_b4 95 rfl rfl, ⟨by decide +kernel, by decide +kernel, by decide +kernel⟩, by decide⟩
abbrev X4_board : fc_MI := (yX4_board, cX4_board, 7, (none : Option ClassFile.FieldType), none)
theorem mf_X4_board : fc_mf X4_board 2 := ⟨fc_b1 14 rfl rfl, fc_b4 36 rfl rfl, ⟨by decide +kernel, by decide +kernel, by decide +kernel⟩, by decide⟩
abbrev X4_chooseMoving : fc_MI := (yX4_chooseMoving, cX4_chooseMoving, 7, (none : Option ClassFile.FieldType), none)
theorem mf_X4_chooseMoving : fc_mf X4_chooseMoving 2 := ⟨fc_b1 14 rfl rfl, fc_b4 26 rfl rfl, ⟨by decide +kernel, by decide +kernel, by decide +kernel⟩, by decide⟩
abbrev X4_freeBuses : fc_MI := (yX4_freeBuses, cX4_freeBuses, 3, (none : Option ClassFile.FieldType), none)
theorem mf_X4_freeBuses : fc_mf X4_freeBuses 1 := ⟨fc_b1 14 rfl rfl, fc_b4 40 rfl rfl, ⟨by decide +kernel, by decide +kernel, by decide +kernel⟩, by decide⟩
abbrev X4_gather : fc_MI := (yX4_gather, cX4_gather, 4, (none : Option ClassFile.FieldType), none)
theorem mf_X4_gather : fc_mf X4_gather 3 := ⟨fc_b1 14 rfl rfl, fc_b3 217 rfl rfl, ⟨by decide +kernel, by decide +kernel, by decide +kernel⟩, by decide⟩
abbrev X4_goBy : fc_MI := (yX4_goBy, cX4_goBy, 3, (none : Option ClassFile.FieldType), none)
theorem mf_X4_goBy : fc_mf X4_goBy 2 := ⟨fc_b1 14 rfl rfl, fc_b4 12 rfl rfl, ⟨by decide +kernel, by decide +kernel, by decide +kernel⟩, by decide⟩
abbrev X4_init : fc_MI := (yX4_init, cX4_init, 6, (none : Option ClassFile.FieldType), none)
theorem mf_X4_init : fc_mf X4_init 5 := ⟨fc_b1 14 rfl rfl, fc_b2 201 rfl rfl, ⟨by decide +kernel, by decide +kernel, by decide +kernel⟩, by decide⟩
abbrev X4_isWet : fc_MI := (yX4_isWet, cX4_isWet, 4, (some .boolean), none)
theorem mf_X4_isWet : fc_mf X4_isWet 3 := ⟨fc_b1 14 rfl rfl, fc_b3 130 rfl rfl, ⟨by decide +kernel, by decide +kernel, by decide +kernel⟩, by decide⟩
abbrev X4_move : fc_MI := (yX4_move, cX4_move, 5, (none : Option ClassFile.FieldType), none)
theorem mf_X4_move : fc_mf X4_move 1 := ⟨fc_b1 14 rfl rfl, fc_b4 32 rfl rfl, ⟨by decide +kernel, by decide +kernel, by decide +kernel⟩, by decide⟩
abbrev X4_openFlow : fc_MI := (yX4_openFlow, cX4_openFlow, 5, (some .int), none)
theorem mf_X4_openFlow : fc_mf X4_openFlow 3 := ⟨fc_b1 14 rfl rfl, fc_b3 142 rfl rfl, ⟨by decide +kernel, by decide +kernel, by decide +kernel⟩, by decide⟩
abbrev X4_setOut : fc_MI := (yX4_setOut, cX4_setOut, 6, (none : Option ClassFile.FieldType), none)
theorem mf_X4_setOut : fc_mf X4_setOut 2 := ⟨fc_b1 14 rfl rfl, fc_b4 16 rfl rfl, ⟨by decide +kernel, by decide +kernel, by decide +kernel⟩, by decide⟩
abbrev X4_standInWater : fc_MI := (yX4_standInWater, cX4_standInWater, 6, (some .int), none)
theorem mf_X4_standInWater : fc_mf X4_standInWater 3 := ⟨fc_b1 14 rfl rfl, fc_b4 48 rfl rfl, ⟨by decide +kernel, by decide +kernel, by decide +kernel⟩, by decide⟩
abbrev X5_expect : fc_MI := (yX5_expect, cX5_expect, 2, (none : Option ClassFile.FieldType), none)
theorem mf_X5_expect : fc_mf X5_expect 1 := ⟨fc_b1 8 rfl rfl, fc_b2 113 rfl rfl, ⟨by decide +kernel, by decide +kernel, by decide +kernel⟩, by decide⟩
abbrev X5_fail : fc_MI := (yX5_fail, cX5_fail, 1, (none : Option ClassFile.FieldType), none)
theorem mf_X5_fail : fc_mf X5_fail 0 := ⟨fc_b1 8 rfl rfl, fc_b2 117 rfl rfl, ⟨by decide +kernel, by decide +kernel, by decide +kernel⟩, by decide⟩
abbrev X5_init : fc_MI := (yX5_init, cX5_init, 2, (none : Option ClassFile.FieldType), none)
theorem mf_X5_init : fc_mf X5_init 1 := ⟨fc_b1 8 rfl rfl, fc_b1 184 rfl rfl, ⟨by decide +kernel, by decide +kernel, by decide +kernel⟩, by decide⟩
abbrev X5_isDigit : fc_MI := (yX5_isDigit, cX5_isDigit, 1, (some .boolean), none)
theorem mf_X5_isDigit : fc_mf X5_isDigit 1 := ⟨fc_b1 8 rfl rfl, fc_b2 102 rfl rfl, ⟨by decide +kernel, by decide +kernel, by decide +kernel⟩, by decide⟩
abbrev X5_isLetter : fc_MI := (yX5_isLetter, cX5_isLetter, 1, (some .boolean), none)
theorem mf_X5_isLetter : fc_mf X5_isLetter 1 := ⟨fc_b1 8 rfl rfl, fc_b2 78 rfl rfl, ⟨by decide +kernel, by decide +kernel, by decide +kernel⟩, by decide⟩
abbrev X5_isSign : fc_MI := (yX5_isSign, cX5_isSign, 1, (some .boolean), none)
theorem mf_X5_isSign : fc_mf X5_isSign 1 := ⟨fc_b1 8 rfl rfl, fc_b2 109 rfl rfl, ⟨by decide +kernel, by decide +kernel, by decide +kernel⟩, by decide⟩
abbrev X5_joinLevel : fc_MI := (yX5_joinLevel, cX5_joinLevel, 1, (some .int), none)
theorem mf_X5_joinLevel : fc_mf X5_joinLevel 1 := ⟨fc_b1 8 rfl rfl, fc_b2 136 rfl rfl, ⟨by decide +kernel, by decide +kernel, by decide +kernel⟩, by decide⟩
abbrev X5_nextToken : fc_MI := (yX5_nextToken, cX5_nextToken, 1, (none : Option ClassFile.FieldType), none)
theorem mf_X5_nextToken : fc_mf X5_nextToken 0 := ⟨fc_b1 8 rfl rfl, fc_b2 75 rfl rfl, ⟨by decide +kernel, by decide +kernel, by decide +kernel⟩, by decide⟩
abbrev X5_put : fc_MI := (yX5_put, cX5_put, 2, (none : Option ClassFile.FieldType), none)
theorem mf_X5_put : fc_mf X5_put 1 := ⟨fc_b1 8 rfl rfl, fc_b2 129 rfl rfl, ⟨by decide +kernel, by decide +kernel, by decide +kernel⟩, by decide⟩
abbrev X5_read : fc_MI := (yX5_read, cX5_read, 3, (some .int), none)
theorem mf_X5_read : fc_mf X5_read 2 := ⟨fc_b1 8 rfl rfl, fc_b2 71 rfl rfl, ⟨by decide +kernel, by decide +kernel, by decide +kernel⟩, by decide⟩
abbrev X5_readLeaf : fc_MI := (yX5_readLeaf, cX5_readLeaf, 1, (none : Option ClassFile.FieldType), none)
theorem mf_X5_readLeaf : fc_mf X5_readLeaf 0 := ⟨fc_b1 8 rfl rfl, fc_b2 133 rfl rfl, ⟨by decide +kernel, by decide +kernel, by decide +kernel⟩, by decide⟩
abbrev X5_readLevel : fc_MI := (yX5_readLevel, cX5_readLevel, 7, (none : Option ClassFile.FieldType), none)
theorem mf_X5_readLevel : fc_mf X5_readLevel 2 := ⟨fc_b1 8 rfl rfl, fc_b2 121 rfl rfl, ⟨by decide +kernel, by decide +kernel, by decide +kernel⟩, by decide⟩
abbrev X5_readOpened : fc_MI := (yX5_readOpened, cX5_readOpened, 4, (none : Option ClassFile.FieldType), none)
theorem mf_X5_readOpened : fc_mf X5_readOpened 2 := ⟨fc_b1 8 rfl rfl, fc_b2 125 rfl rfl, ⟨by decide +kernel, by decide +kernel, by decide +kernel⟩, by decide⟩
abbrev X5_spells : fc_MI := (yX5_spells, cX5_spells, 3, (some .boolean), none)
theorem mf_X5_spells : fc_mf X5_spells 1 := ⟨fc_b1 8 rfl rfl, fc_b2 87 rfl rfl, ⟨by decide +kernel, by decide +kernel, by decide +kernel⟩, by decide⟩
abbrev X5_takeNumber : fc_MI := (yX5_takeNumber, cX5_takeNumber, 1, (none : Option ClassFile.FieldType), none)
theorem mf_X5_takeNumber : fc_mf X5_takeNumber 0 := ⟨fc_b1 8 rfl rfl, fc_b2 106 rfl rfl, ⟨by decide +kernel, by decide +kernel, by decide +kernel⟩, by decide⟩
abbrev X5_takeWord : fc_MI := (yX5_takeWord, cX5_takeWord, 1, (none : Option ClassFile.FieldType), none)
theorem mf_X5_takeWord : fc_mf X5_takeWord 0 := ⟨fc_b1 8 rfl rfl, fc_b2 82 rfl rfl, ⟨by decide +kernel, by decide +kernel, by decide +kernel⟩, by decide⟩
abbrev X6_build : fc_MI := (yX6_build, cX6_build, 6, (some .int), none)
theorem mf_X6_build : fc_mf X6_build 4 := ⟨fc_b1 4 rfl rfl, fc_b3 98 rfl rfl, ⟨by decide +kernel, by decide +kernel, by decide +kernel⟩, by decide⟩
abbrev X6_canTake : fc_MI := (yX6_canTake, cX6_canTake, 7, (some .int), none)
theorem mf_X6_canTake : fc_mf X6_canTake 3 := ⟨fc_b1 4 rfl rfl, fc_b3 147 rfl rfl, ⟨by decide +kernel, by decide +kernel, by decide +kernel⟩, by decide⟩
abbrev X6_init : fc_MI := (yX6_init, cX6_init, 1, (none : Option ClassFile.FieldType), none)
theorem mf_X6_init : fc_mf X6_init 0 := ⟨fc_b1 4 rfl rfl, fc_b1 62 rfl rfl, ⟨by decide +kernel, by decide +kernel, by decide +kernel⟩, by decide⟩
abbrev X6_isOfKind : fc_MI := (yX6_isOfKind, cX6_isOfKind, 5, (some .boolean), none)
theorem mf_X6_isOfKind : fc_mf X6_isOfKind 2 := ⟨fc_b1 4 rfl rfl, fc_b4 148 rfl rfl, ⟨by decide +kernel, by decide +kernel, by decide +kernel⟩, by decide⟩
abbrev X7_holds : fc_MI := (yX7_holds, cX7_holds, 4, (some .boolean), none)
theorem mf_X7_holds : fc_mf X7_holds 3 := ⟨fc_b1 16 rfl rfl, fc_b4 135 rfl rfl, ⟨by decide +kernel, by decide +kernel, by decide +kernel⟩, by decide⟩
abbrev X7_init : fc_MI := (yX7_init, cX7_init, 1, (none : Option ClassFile.FieldType), none)
theorem mf_X7_init : fc_mf X7_init 0 := ⟨fc_b1 16 rfl rfl, fc_b3 26 rfl rfl, ⟨by decide +kernel, by decide +kernel, by decide +kernel⟩, by decide⟩
abbrev X7_lay : fc_MI := (yX7_lay, cX7_lay, 4, (none : Option ClassFile.FieldType), none)
theorem mf_X7_lay : fc_mf X7_lay 3 := ⟨fc_b1 16 rfl rfl, fc_b4 119 rfl rfl, ⟨by decide +kernel, by decide +kernel, by decide +kernel⟩, by decide⟩
abbrev X7_write : fc_MI := (yX7_write, cX7_write, 4, (none : Option ClassFile.FieldType), none)
theorem mf_X7_write : fc_mf X7_write 3 := ⟨fc_b1 16 rfl rfl, fc_b4 127 rfl rfl, ⟨by decide +kernel, by decide +kernel, by decide +kernel⟩, by decide⟩
abbrev X8_hear : fc_MI := (yX8_hear, cX8_hear, 8, (some .int), none)
theorem mf_X8_hear : fc_mf X8_hear 6 := ⟨fc_b1 6 rfl rfl, fc_b3 174 rfl rfl, ⟨by decide +kernel, by decide +kernel, by decide +kernel⟩, by decide⟩
abbrev X8_init : fc_MI := (yX8_init, cX8_init, 1, (none : Option ClassFile.FieldType), none)
theorem mf_X8_init : fc_mf X8_init 0 := ⟨fc_b1 6 rfl rfl, fc_b1 124 rfl rfl, ⟨by decide +kernel, by decide +kernel, by decide +kernel⟩, by decide⟩
abbrev X8_teller : fc_MI := (yX8_teller, cX8_teller, 5, (some .int), none)
theorem mf_X8_teller : fc_mf X8_teller 3 := ⟨fc_b1 6 rfl rfl, fc_b3 188 rfl rfl, ⟨by decide +kernel, by decide +kernel, by decide +kernel⟩, by decide⟩
abbrev X8_wasDanger : fc_MI := (yX8_wasDanger, cX8_wasDanger, 6, (some .boolean), none)
theorem mf_X8_wasDanger : fc_mf X8_wasDanger 2 := ⟨fc_b1 6 rfl rfl, fc_b4 0 rfl rfl, ⟨by decide +kernel, by decide +kernel, by decide +kernel⟩, by decide⟩
abbrev X8_waterKnown : fc_MI := (yX8_waterKnown, cX8_waterKnown, 5, (some .int), none)
theorem mf_X8_waterKnown : fc_mf X8_waterKnown 3 := ⟨fc_b1 6 rfl rfl, fc_b3 184 rfl rfl, ⟨by decide +kernel, by decide +kernel, by decide +kernel⟩, by decide⟩
abbrev X8_windKnown : fc_MI := (yX8_windKnown, cX8_windKnown, 5, (some .int), none)
theorem mf_X8_windKnown : fc_mf X8_windKnown 3 := ⟨fc_b1 6 rfl rfl, fc_b3 192 rfl rfl, ⟨by decide +kernel, by decide +kernel, by decide +kernel⟩, by decide⟩
abbrev X9_init : fc_MI := (yX9_init, cX9_init, 1, (none : Option ClassFile.FieldType), none)
theorem mf_X9_init : fc_mf X9_init 0 := ⟨fc_b1 2 rfl rfl, fc_b1 33 rfl rfl, ⟨by decide +kernel, by decide +kernel, by decide +kernel⟩, by decide⟩
theorem fl_X0_9 : fc_fl RX0 9 0 0 := ⟨(RX0, TX0, 9), rfl, by decide, rfl, fc_b1 220 rfl rfl⟩
theorem fl_X0_17 : fc_fl RX0 17 0 1 := ⟨(RX0, TX0, 9), rfl, by decide, rfl, fc_b1 221 rfl rfl⟩
theorem fl_X0_20 : fc_fl RX0 20 0 2 := ⟨(RX0, TX0, 9), rfl, by decide, rfl, fc_b1 222 rfl rfl⟩
theorem fl_X0_24 : fc_fl RX0 24 0 3 := ⟨(RX0, TX0, 9), rfl, by decide, rfl, fc_b1 223 rfl rfl⟩
theorem fl_X0_27 : fc_fl RX0 27 0 4 := ⟨(RX0, TX0, 9), rfl, by decide, rfl, fc_b1 224 rfl rfl⟩
theorem fl_X0_35 : fc_fl RX0 35 0 5 := ⟨(RX0, TX0, 9), rfl, by decide, rfl, fc_b1 225 rfl rfl⟩
theorem fl_X0_45 : fc_fl RX0 45 0 6 := ⟨(RX0, TX0, 9), rfl, by decide, rfl, fc_b1 226 rfl rfl⟩
theorem fl_X0_53 : fc_fl RX0 53 0 7 := ⟨(RX0, TX0, 9), rfl, by decide, rfl, fc_b1 228 rfl rfl⟩
theorem fl_X0_60 : fc_fl RX0 60 5 3 := ⟨(RX5, TX5, 10), rfl, by decide, rfl, fc_b1 191 rfl rfl⟩
theorem fl_X0_62 : fc_fl RX0 62 5 2 := ⟨(RX5, TX5, 10), rfl, by decide, rfl, fc_b1 189 rfl rfl⟩
theorem fl_X0_64 : fc_fl RX0 64 0 8 := ⟨(RX0, TX0, 9), rfl, by decide, rfl, fc_b1 230 rfl rfl⟩
theorem fl_X1_9 : fc_fl RX1 9 1 0 := ⟨(RX1, TX1, 5), rfl, by decide, rfl, fc_b1 98 rfl rfl⟩
theorem fl_X1_15 : fc_fl RX1 15 1 1 := ⟨(RX1, TX1, 5), rfl, by decide, rfl, fc_b1 100 rfl rfl⟩
theorem fl_X1_18 : fc_fl RX1 18 1 2 := ⟨(RX1, TX1, 5), rfl, by decide, rfl, fc_b1 102 rfl rfl⟩
theorem fl_X1_21 : fc_fl RX1 21 1 3 := ⟨(RX1, TX1, 5), rfl, by decide, rfl, fc_b1 104 rfl rfl⟩
theorem fl_X1_24 : fc_fl RX1 24 1 4 := ⟨(RX1, TX1, 5), rfl, by decide, rfl, fc_b1 106 rfl rfl⟩
theorem fl_X10_10 : fc_fl RX10 10 10 0 := ⟨(RX10, TX10, 9), rfl, by decide, rfl, fc_b3 43 rfl rfl⟩
theorem fl_X10_19 : fc_fl RX10 19 10 1 := ⟨(RX10, TX10, 9), rfl, by decide, rfl, fc_b3 44 rfl rfl⟩
theorem fl_X10_26 : fc_fl RX10 26 10 2 := ⟨(RX10, TX10, 9), rfl, by decide, rfl, fc_b3 45 rfl rfl⟩
theorem fl_X10_33 : fc_fl RX10 33 10 3 := ⟨(RX10, TX10, 9), rfl, by decide, rfl, fc_b3 46 rfl rfl⟩
theorem fl_X10_40 : fc_fl RX10 40 10 4 := ⟨(RX10, TX10, 9), rfl, by decide, rfl, fc_b3 47 rfl rfl⟩
theorem fl_X10_57 : fc_fl RX10 57 10 5 := ⟨(RX10, TX10, 9), rfl, by decide, rfl, fc_b3 48 rfl rfl⟩
theorem fl_X10_66 : fc_fl RX10 66 10 6 := ⟨(RX10, TX10, 9), rfl, by decide, rfl, fc_b3 49 rfl rfl⟩
theorem fl_X10_75 : fc_fl RX10 75 10 7 := ⟨(RX10, TX10, 9), rfl, by decide, rfl, fc_b3 50 rfl rfl⟩
theorem fl_X10_82 : fc_fl RX10 82 10 8 := ⟨(RX10, TX10, 9), rfl, by decide, rfl, fc_b3 51 rfl rfl⟩
theorem fl_X10_91 : fc_fl RX10 91 2 9 := ⟨(RX2, TX2, 10), rfl, by decide, rfl, fc_b2 172 rfl rfl⟩
theorem fl_X10_95 : fc_fl RX10 95 9 2 := ⟨(RX9, TX9, 4), rfl, by decide, rfl, fc_b1 45 rfl rfl⟩
theorem fl_X10_98 : fc_fl RX10 98 9 0 := ⟨(RX9, TX9, 4), rfl, by decide, rfl, fc_b1 40 rfl rfl⟩
theorem fl_X10_102 : fc_fl RX10 102 2 0 := ⟨(RX2, TX2, 10), rfl, by decide, rfl, fc_b2 145 rfl rfl⟩
theorem fl_X10_105 : fc_fl RX10 105 2 2 := ⟨(RX2, TX2, 10), rfl, by decide, rfl, fc_b2 151 rfl rfl⟩
theorem fl_X10_108 : fc_fl RX10 108 9 3 := ⟨(RX9, TX9, 4), rfl, by decide, rfl, fc_b1 47 rfl rfl⟩
theorem fl_X10_111 : fc_fl RX10 111 2 4 := ⟨(RX2, TX2, 10), rfl, by decide, rfl, fc_b2 158 rfl rfl⟩
theorem fl_X10_121 : fc_fl RX10 121 6 5 := ⟨(RX6, TX6, 6), rfl, by decide, rfl, fc_b1 77 rfl rfl⟩
theorem fl_X10_131 : fc_fl RX10 131 6 1 := ⟨(RX6, TX6, 6), rfl, by decide, rfl, fc_b1 68 rfl rfl⟩
theorem fl_X10_134 : fc_fl RX10 134 9 1 := ⟨(RX9, TX9, 4), rfl, by decide, rfl, fc_b1 42 rfl rfl⟩
theorem fl_X10_137 : fc_fl RX10 137 6 4 := ⟨(RX6, TX6, 6), rfl, by decide, rfl, fc_b1 75 rfl rfl⟩
theorem fl_X10_143 : fc_fl RX10 143 1 4 := ⟨(RX1, TX1, 5), rfl, by decide, rfl, fc_b1 107 rfl rfl⟩
theorem fl_X10_147 : fc_fl RX10 147 2 1 := ⟨(RX2, TX2, 10), rfl, by decide, rfl, fc_b2 149 rfl rfl⟩
theorem fl_X10_150 : fc_fl RX10 150 2 3 := ⟨(RX2, TX2, 10), rfl, by decide, rfl, fc_b2 156 rfl rfl⟩
theorem fl_X10_153 : fc_fl RX10 153 8 10 := ⟨(RX8, TX8, 12), rfl, by decide, rfl, fc_b1 143 rfl rfl⟩
theorem fl_X10_159 : fc_fl RX10 159 2 5 := ⟨(RX2, TX2, 10), rfl, by decide, rfl, fc_b2 161 rfl rfl⟩
theorem fl_X10_162 : fc_fl RX10 162 6 0 := ⟨(RX6, TX6, 6), rfl, by decide, rfl, fc_b1 65 rfl rfl⟩
theorem fl_X10_165 : fc_fl RX10 165 6 2 := ⟨(RX6, TX6, 6), rfl, by decide, rfl, fc_b1 71 rfl rfl⟩
theorem fl_X10_168 : fc_fl RX10 168 6 3 := ⟨(RX6, TX6, 6), rfl, by decide, rfl, fc_b1 73 rfl rfl⟩
theorem fl_X10_175 : fc_fl RX10 175 2 7 := ⟨(RX2, TX2, 10), rfl, by decide, rfl, fc_b2 168 rfl rfl⟩
theorem fl_X10_178 : fc_fl RX10 178 2 6 := ⟨(RX2, TX2, 10), rfl, by decide, rfl, fc_b2 165 rfl rfl⟩
theorem fl_X10_181 : fc_fl RX10 181 8 11 := ⟨(RX8, TX8, 12), rfl, by decide, rfl, fc_b1 146 rfl rfl⟩
theorem fl_X10_187 : fc_fl RX10 187 8 0 := ⟨(RX8, TX8, 12), rfl, by decide, rfl, fc_b1 130 rfl rfl⟩
theorem fl_X10_205 : fc_fl RX10 205 0 7 := ⟨(RX0, TX0, 9), rfl, by decide, rfl, fc_b1 229 rfl rfl⟩
theorem fl_X10_206 : fc_fl RX10 206 0 8 := ⟨(RX0, TX0, 9), rfl, by decide, rfl, fc_b1 231 rfl rfl⟩
theorem fl_X10_215 : fc_fl RX10 215 4 5 := ⟨(RX4, TX4, 7), rfl, by decide, rfl, fc_b2 209 rfl rfl⟩
theorem fl_X10_236 : fc_fl RX10 236 3 5 := ⟨(RX3, TX3, 8), rfl, by decide, rfl, fc_b3 1 rfl rfl⟩
theorem fl_X10_252 : fc_fl RX10 252 3 6 := ⟨(RX3, TX3, 8), rfl, by decide, rfl, fc_b3 3 rfl rfl⟩
theorem fl_X10_255 : fc_fl RX10 255 8 9 := ⟨(RX8, TX8, 12), rfl, by decide, rfl, fc_b1 142 rfl rfl⟩
theorem fl_X10_260 : fc_fl RX10 260 2 8 := ⟨(RX2, TX2, 10), rfl, by decide, rfl, fc_b2 171 rfl rfl⟩
theorem fl_X10_263 : fc_fl RX10 263 0 6 := ⟨(RX0, TX0, 9), rfl, by decide, rfl, fc_b1 227 rfl rfl⟩
theorem fl_X10_269 : fc_fl RX10 269 7 1 := ⟨(RX7, TX7, 3), rfl, by decide, rfl, fc_b3 33 rfl rfl⟩
theorem fl_X10_276 : fc_fl RX10 276 7 2 := ⟨(RX7, TX7, 3), rfl, by decide, rfl, fc_b3 35 rfl rfl⟩
theorem fl_X10_284 : fc_fl RX10 284 7 0 := ⟨(RX7, TX7, 3), rfl, by decide, rfl, fc_b3 31 rfl rfl⟩
theorem fl_X11_1 : fc_fl RX11 1 11 2 := ⟨(RX11, TX11, 75), rfl, by decide, rfl, fc_b5 123 rfl rfl⟩
theorem fl_X11_7 : fc_fl RX11 7 11 9 := ⟨(RX11, TX11, 75), rfl, by decide, rfl, fc_b5 130 rfl rfl⟩
theorem fl_X11_10 : fc_fl RX11 10 11 13 := ⟨(RX11, TX11, 75), rfl, by decide, rfl, fc_b5 134 rfl rfl⟩
theorem fl_X11_13 : fc_fl RX11 13 11 19 := ⟨(RX11, TX11, 75), rfl, by decide, rfl, fc_b5 140 rfl rfl⟩
theorem fl_X11_26 : fc_fl RX11 26 11 0 := ⟨(RX11, TX11, 75), rfl, by decide, rfl, fc_b5 121 rfl rfl⟩
theorem fl_X11_29 : fc_fl RX11 29 11 3 := ⟨(RX11, TX11, 75), rfl, by decide, rfl, fc_b5 124 rfl rfl⟩
theorem fl_X11_33 : fc_fl RX11 33 11 4 := ⟨(RX11, TX11, 75), rfl, by decide, rfl, fc_b5 125 rfl rfl⟩
theorem fl_X11_36 : fc_fl RX11 36 11 6 := ⟨(RX11, TX11, 75), rfl, by decide, rfl, fc_b5 127 rfl rfl⟩
theorem fl_X11_39 : fc_fl RX11 39 11 10 := ⟨(RX11, TX11, 75), rfl, by decide, rfl, fc_b5 131 rfl rfl⟩
theorem fl_X11_56 : fc_fl RX11 56 11 14 := ⟨(RX11, TX11, 75), rfl, by decide, rfl, fc_b5 135 rfl rfl⟩
theorem fl_X11_59 : fc_fl RX11 59 11 15 := ⟨(RX11, TX11, 75), rfl, by decide, rfl, fc_b5 136 rfl rfl⟩
theorem fl_X11_62 : fc_fl RX11 62 11 16 := ⟨(RX11, TX11, 75), rfl, by decide, rfl, fc_b5 137 rfl rfl⟩
theorem fl_X11_65 : fc_fl RX11 65 11 17 := ⟨(RX11, TX11, 75), rfl, by decide, rfl, fc_b5 138 rfl rfl⟩
theorem fl_X11_68 : fc_fl RX11 68 11 18 := ⟨(RX11, TX11, 75), rfl, by decide, rfl, fc_b5 139 rfl rfl⟩
theorem fl_X11_74 : fc_fl RX11 74 11 8 := ⟨(RX11, TX11, 75), rfl, by decide, rfl, fc_b5 129 rfl rfl⟩
theorem fl_X11_79 : fc_fl RX11 79 11 20 := ⟨(RX11, TX11, 75), rfl, by decide, rfl, fc_b5 141 rfl rfl⟩
theorem fl_X11_82 : fc_fl RX11 82 11 21 := ⟨(RX11, TX11, 75), rfl, by decide, rfl, fc_b5 142 rfl rfl⟩
theorem fl_X11_85 : fc_fl RX11 85 11 22 := ⟨(RX11, TX11, 75), rfl, by decide, rfl, fc_b5 143 rfl rfl⟩
theorem fl_X11_88 : fc_fl RX11 88 11 23 := ⟨(RX11, TX11, 75), rfl, by decide, rfl, fc_b5 144 rfl rfl⟩
theorem fl_X11_93 : fc_fl RX11 93 11 5 := ⟨(RX11, TX11, 75), rfl, by decide, rfl, fc_b5 126 rfl rfl⟩
theorem fl_X11_96 : fc_fl RX11 96 11 7 := ⟨(RX11, TX11, 75), rfl, by decide, rfl, fc_b5 128 rfl rfl⟩
theorem fl_X11_99 : fc_fl RX11 99 11 28 := ⟨(RX11, TX11, 75), rfl, by decide, rfl, fc_b5 149 rfl rfl⟩
theorem fl_X11_106 : fc_fl RX11 106 11 11 := ⟨(RX11, TX11, 75), rfl, by decide, rfl, fc_b5 132 rfl rfl⟩
theorem fl_X11_109 : fc_fl RX11 109 11 12 := ⟨(RX11, TX11, 75), rfl, by decide, rfl, fc_b5 133 rfl rfl⟩
theorem fl_X11_125 : fc_fl RX11 125 11 24 := ⟨(RX11, TX11, 75), rfl, by decide, rfl, fc_b5 145 rfl rfl⟩
theorem fl_X11_128 : fc_fl RX11 128 11 25 := ⟨(RX11, TX11, 75), rfl, by decide, rfl, fc_b5 146 rfl rfl⟩
theorem fl_X11_131 : fc_fl RX11 131 11 36 := ⟨(RX11, TX11, 75), rfl, by decide, rfl, fc_b5 157 rfl rfl⟩
theorem fl_X11_136 : fc_fl RX11 136 11 1 := ⟨(RX11, TX11, 75), rfl, by decide, rfl, fc_b5 122 rfl rfl⟩
theorem fl_X11_142 : fc_fl RX11 142 11 27 := ⟨(RX11, TX11, 75), rfl, by decide, rfl, fc_b5 148 rfl rfl⟩
theorem fl_X11_147 : fc_fl RX11 147 11 29 := ⟨(RX11, TX11, 75), rfl, by decide, rfl, fc_b5 150 rfl rfl⟩
theorem fl_X11_150 : fc_fl RX11 150 11 30 := ⟨(RX11, TX11, 75), rfl, by decide, rfl, fc_b5 151 rfl rfl⟩
theorem fl_X11_153 : fc_fl RX11 153 11 31 := ⟨(RX11, TX11, 75), rfl, by decide, rfl, fc_b5 152 rfl rfl⟩
theorem fl_X11_156 : fc_fl RX11 156 11 32 := ⟨(RX11, TX11, 75), rfl, by decide, rfl, fc_b5 153 rfl rfl⟩
theorem fl_X11_159 : fc_fl RX11 159 11 33 := ⟨(RX11, TX11, 75), rfl, by decide, rfl, fc_b5 154 rfl rfl⟩
theorem fl_X11_162 : fc_fl RX11 162 11 34 := ⟨(RX11, TX11, 75), rfl, by decide, rfl, fc_b5 155 rfl rfl⟩
theorem fl_X11_165 : fc_fl RX11 165 11 35 := ⟨(RX11, TX11, 75), rfl, by decide, rfl, fc_b5 156 rfl rfl⟩
theorem fl_X11_168 : fc_fl RX11 168 11 37 := ⟨(RX11, TX11, 75), rfl, by decide, rfl, fc_b5 158 rfl rfl⟩
theorem fl_X11_177 : fc_fl RX11 177 11 39 := ⟨(RX11, TX11, 75), rfl, by decide, rfl, fc_b5 160 rfl rfl⟩
theorem fl_X11_180 : fc_fl RX11 180 11 38 := ⟨(RX11, TX11, 75), rfl, by decide, rfl, fc_b5 159 rfl rfl⟩
theorem fl_X11_184 : fc_fl RX11 184 11 44 := ⟨(RX11, TX11, 75), rfl, by decide, rfl, fc_b5 165 rfl rfl⟩
theorem fl_X11_190 : fc_fl RX11 190 11 45 := ⟨(RX11, TX11, 75), rfl, by decide, rfl, fc_b5 166 rfl rfl⟩
theorem fl_X11_193 : fc_fl RX11 193 11 49 := ⟨(RX11, TX11, 75), rfl, by decide, rfl, fc_b5 170 rfl rfl⟩
theorem fl_X11_196 : fc_fl RX11 196 11 47 := ⟨(RX11, TX11, 75), rfl, by decide, rfl, fc_b5 168 rfl rfl⟩
theorem fl_X11_199 : fc_fl RX11 199 11 48 := ⟨(RX11, TX11, 75), rfl, by decide, rfl, fc_b5 169 rfl rfl⟩
theorem fl_X11_203 : fc_fl RX11 203 11 46 := ⟨(RX11, TX11, 75), rfl, by decide, rfl, fc_b5 167 rfl rfl⟩
theorem fl_X11_216 : fc_fl RX11 216 11 42 := ⟨(RX11, TX11, 75), rfl, by decide, rfl, fc_b5 163 rfl rfl⟩
theorem fl_X11_219 : fc_fl RX11 219 11 55 := ⟨(RX11, TX11, 75), rfl, by decide, rfl, fc_b5 176 rfl rfl⟩
theorem fl_X11_222 : fc_fl RX11 222 11 56 := ⟨(RX11, TX11, 75), rfl, by decide, rfl, fc_b5 177 rfl rfl⟩
theorem fl_X11_225 : fc_fl RX11 225 11 51 := ⟨(RX11, TX11, 75), rfl, by decide, rfl, fc_b5 172 rfl rfl⟩
theorem fl_X11_228 : fc_fl RX11 228 11 50 := ⟨(RX11, TX11, 75), rfl, by decide, rfl, fc_b5 171 rfl rfl⟩
theorem fl_X11_234 : fc_fl RX11 234 11 52 := ⟨(RX11, TX11, 75), rfl, by decide, rfl, fc_b5 173 rfl rfl⟩
theorem fl_X11_247 : fc_fl RX11 247 11 54 := ⟨(RX11, TX11, 75), rfl, by decide, rfl, fc_b5 175 rfl rfl⟩
theorem fl_X11_251 : fc_fl RX11 251 11 53 := ⟨(RX11, TX11, 75), rfl, by decide, rfl, fc_b5 174 rfl rfl⟩
theorem fl_X11_264 : fc_fl RX11 264 11 43 := ⟨(RX11, TX11, 75), rfl, by decide, rfl, fc_b5 164 rfl rfl⟩
theorem fl_X11_280 : fc_fl RX11 280 11 40 := ⟨(RX11, TX11, 75), rfl, by decide, rfl, fc_b5 161 rfl rfl⟩
theorem fl_X11_286 : fc_fl RX11 286 11 41 := ⟨(RX11, TX11, 75), rfl, by decide, rfl, fc_b5 162 rfl rfl⟩
theorem fl_X11_289 : fc_fl RX11 289 11 57 := ⟨(RX11, TX11, 75), rfl, by decide, rfl, fc_b5 178 rfl rfl⟩
theorem fl_X11_309 : fc_fl RX11 309 11 58 := ⟨(RX11, TX11, 75), rfl, by decide, rfl, fc_b5 179 rfl rfl⟩
theorem fl_X11_312 : fc_fl RX11 312 11 59 := ⟨(RX11, TX11, 75), rfl, by decide, rfl, fc_b5 180 rfl rfl⟩
theorem fl_X11_315 : fc_fl RX11 315 11 60 := ⟨(RX11, TX11, 75), rfl, by decide, rfl, fc_b5 181 rfl rfl⟩
theorem fl_X11_318 : fc_fl RX11 318 11 61 := ⟨(RX11, TX11, 75), rfl, by decide, rfl, fc_b5 182 rfl rfl⟩
theorem fl_X11_321 : fc_fl RX11 321 11 62 := ⟨(RX11, TX11, 75), rfl, by decide, rfl, fc_b5 183 rfl rfl⟩
theorem fl_X11_324 : fc_fl RX11 324 11 63 := ⟨(RX11, TX11, 75), rfl, by decide, rfl, fc_b5 184 rfl rfl⟩
theorem fl_X11_327 : fc_fl RX11 327 11 64 := ⟨(RX11, TX11, 75), rfl, by decide, rfl, fc_b5 185 rfl rfl⟩
theorem fl_X11_330 : fc_fl RX11 330 11 65 := ⟨(RX11, TX11, 75), rfl, by decide, rfl, fc_b5 186 rfl rfl⟩
theorem fl_X11_333 : fc_fl RX11 333 11 66 := ⟨(RX11, TX11, 75), rfl, by decide, rfl, fc_b5 187 rfl rfl⟩
theorem fl_X11_336 : fc_fl RX11 336 11 69 := ⟨(RX11, TX11, 75), rfl, by decide, rfl, fc_b5 190 rfl rfl⟩
theorem fl_X11_339 : fc_fl RX11 339 11 70 := ⟨(RX11, TX11, 75), rfl, by decide, rfl, fc_b5 191 rfl rfl⟩
theorem fl_X11_342 : fc_fl RX11 342 11 71 := ⟨(RX11, TX11, 75), rfl, by decide, rfl, fc_b5 192 rfl rfl⟩
theorem fl_X11_345 : fc_fl RX11 345 11 72 := ⟨(RX11, TX11, 75), rfl, by decide, rfl, fc_b5 193 rfl rfl⟩
theorem fl_X11_348 : fc_fl RX11 348 11 73 := ⟨(RX11, TX11, 75), rfl, by decide, rfl, fc_b5 194 rfl rfl⟩
theorem fl_X11_351 : fc_fl RX11 351 11 74 := ⟨(RX11, TX11, 75), rfl, by decide, rfl, fc_b5 195 rfl rfl⟩
theorem fl_X11_366 : fc_fl RX11 366 11 26 := ⟨(RX11, TX11, 75), rfl, by decide, rfl, fc_b5 147 rfl rfl⟩
theorem fl_X11_384 : fc_fl RX11 384 11 67 := ⟨(RX11, TX11, 75), rfl, by decide, rfl, fc_b5 188 rfl rfl⟩
theorem fl_X11_387 : fc_fl RX11 387 11 68 := ⟨(RX11, TX11, 75), rfl, by decide, rfl, fc_b5 189 rfl rfl⟩
theorem fl_X2_9 : fc_fl RX2 9 2 0 := ⟨(RX2, TX2, 10), rfl, by decide, rfl, fc_b2 144 rfl rfl⟩
theorem fl_X2_15 : fc_fl RX2 15 2 1 := ⟨(RX2, TX2, 10), rfl, by decide, rfl, fc_b2 147 rfl rfl⟩
theorem fl_X2_18 : fc_fl RX2 18 2 2 := ⟨(RX2, TX2, 10), rfl, by decide, rfl, fc_b2 150 rfl rfl⟩
theorem fl_X2_21 : fc_fl RX2 21 2 3 := ⟨(RX2, TX2, 10), rfl, by decide, rfl, fc_b2 153 rfl rfl⟩
theorem fl_X2_24 : fc_fl RX2 24 2 4 := ⟨(RX2, TX2, 10), rfl, by decide, rfl, fc_b2 157 rfl rfl⟩
theorem fl_X2_27 : fc_fl RX2 27 2 5 := ⟨(RX2, TX2, 10), rfl, by decide, rfl, fc_b2 160 rfl rfl⟩
theorem fl_X2_30 : fc_fl RX2 30 2 6 := ⟨(RX2, TX2, 10), rfl, by decide, rfl, fc_b2 163 rfl rfl⟩
theorem fl_X2_33 : fc_fl RX2 33 2 7 := ⟨(RX2, TX2, 10), rfl, by decide, rfl, fc_b2 166 rfl rfl⟩
theorem fl_X2_48 : fc_fl RX2 48 2 8 := ⟨(RX2, TX2, 10), rfl, by decide, rfl, fc_b2 169 rfl rfl⟩
theorem fl_X2_52 : fc_fl RX2 52 2 9 := ⟨(RX2, TX2, 10), rfl, by decide, rfl, fc_b2 174 rfl rfl⟩
theorem fl_X3_12 : fc_fl RX3 12 3 4 := ⟨(RX3, TX3, 8), rfl, by decide, rfl, fc_b2 239 rfl rfl⟩
theorem fl_X3_18 : fc_fl RX3 18 3 5 := ⟨(RX3, TX3, 8), rfl, by decide, rfl, fc_b3 0 rfl rfl⟩
theorem fl_X3_22 : fc_fl RX3 22 3 6 := ⟨(RX3, TX3, 8), rfl, by decide, rfl, fc_b3 2 rfl rfl⟩
theorem fl_X3_25 : fc_fl RX3 25 3 7 := ⟨(RX3, TX3, 8), rfl, by decide, rfl, fc_b3 4 rfl rfl⟩
theorem fl_X3_28 : fc_fl RX3 28 3 0 := ⟨(RX3, TX3, 8), rfl, by decide, rfl, fc_b2 235 rfl rfl⟩
theorem fl_X3_32 : fc_fl RX3 32 3 1 := ⟨(RX3, TX3, 8), rfl, by decide, rfl, fc_b2 236 rfl rfl⟩
theorem fl_X3_36 : fc_fl RX3 36 3 2 := ⟨(RX3, TX3, 8), rfl, by decide, rfl, fc_b2 237 rfl rfl⟩
theorem fl_X3_39 : fc_fl RX3 39 3 3 := ⟨(RX3, TX3, 8), rfl, by decide, rfl, fc_b2 238 rfl rfl⟩
theorem fl_X3_53 : fc_fl RX3 53 9 2 := ⟨(RX9, TX9, 4), rfl, by decide, rfl, fc_b1 44 rfl rfl⟩
theorem fl_X3_59 : fc_fl RX3 59 2 3 := ⟨(RX2, TX2, 10), rfl, by decide, rfl, fc_b2 154 rfl rfl⟩
theorem fl_X3_62 : fc_fl RX3 62 2 9 := ⟨(RX2, TX2, 10), rfl, by decide, rfl, fc_b2 173 rfl rfl⟩
theorem fl_X3_75 : fc_fl RX3 75 8 11 := ⟨(RX8, TX8, 12), rfl, by decide, rfl, fc_b1 145 rfl rfl⟩
theorem fl_X3_107 : fc_fl RX3 107 8 0 := ⟨(RX8, TX8, 12), rfl, by decide, rfl, fc_b1 129 rfl rfl⟩
theorem fl_X4_9 : fc_fl RX4 9 4 5 := ⟨(RX4, TX4, 7), rfl, by decide, rfl, fc_b2 208 rfl rfl⟩
theorem fl_X4_15 : fc_fl RX4 15 4 6 := ⟨(RX4, TX4, 7), rfl, by decide, rfl, fc_b2 210 rfl rfl⟩
theorem fl_X4_18 : fc_fl RX4 18 4 0 := ⟨(RX4, TX4, 7), rfl, by decide, rfl, fc_b2 203 rfl rfl⟩
theorem fl_X4_22 : fc_fl RX4 22 4 1 := ⟨(RX4, TX4, 7), rfl, by decide, rfl, fc_b2 204 rfl rfl⟩
theorem fl_X4_26 : fc_fl RX4 26 4 2 := ⟨(RX4, TX4, 7), rfl, by decide, rfl, fc_b2 205 rfl rfl⟩
theorem fl_X4_30 : fc_fl RX4 30 4 3 := ⟨(RX4, TX4, 7), rfl, by decide, rfl, fc_b2 206 rfl rfl⟩
theorem fl_X4_34 : fc_fl RX4 34 4 4 := ⟨(RX4, TX4, 7), rfl, by decide, rfl, fc_b2 207 rfl rfl⟩
theorem fl_X4_38 : fc_fl RX4 38 8 1 := ⟨(RX8, TX8, 12), rfl, by decide, rfl, fc_b1 132 rfl rfl⟩
theorem fl_X4_44 : fc_fl RX4 44 9 0 := ⟨(RX9, TX9, 4), rfl, by decide, rfl, fc_b1 39 rfl rfl⟩
theorem fl_X4_49 : fc_fl RX4 49 6 2 := ⟨(RX6, TX6, 6), rfl, by decide, rfl, fc_b1 70 rfl rfl⟩
theorem fl_X4_54 : fc_fl RX4 54 6 1 := ⟨(RX6, TX6, 6), rfl, by decide, rfl, fc_b1 67 rfl rfl⟩
theorem fl_X4_61 : fc_fl RX4 61 8 2 := ⟨(RX8, TX8, 12), rfl, by decide, rfl, fc_b1 134 rfl rfl⟩
theorem fl_X4_68 : fc_fl RX4 68 9 2 := ⟨(RX9, TX9, 4), rfl, by decide, rfl, fc_b1 46 rfl rfl⟩
theorem fl_X4_72 : fc_fl RX4 72 2 0 := ⟨(RX2, TX2, 10), rfl, by decide, rfl, fc_b2 146 rfl rfl⟩
theorem fl_X4_77 : fc_fl RX4 77 2 1 := ⟨(RX2, TX2, 10), rfl, by decide, rfl, fc_b2 148 rfl rfl⟩
theorem fl_X4_80 : fc_fl RX4 80 2 2 := ⟨(RX2, TX2, 10), rfl, by decide, rfl, fc_b2 152 rfl rfl⟩
theorem fl_X4_87 : fc_fl RX4 87 2 9 := ⟨(RX2, TX2, 10), rfl, by decide, rfl, fc_b2 175 rfl rfl⟩
theorem fl_X4_90 : fc_fl RX4 90 2 3 := ⟨(RX2, TX2, 10), rfl, by decide, rfl, fc_b2 155 rfl rfl⟩
theorem fl_X4_129 : fc_fl RX4 129 6 5 := ⟨(RX6, TX6, 6), rfl, by decide, rfl, fc_b1 78 rfl rfl⟩
theorem fl_X4_132 : fc_fl RX4 132 9 1 := ⟨(RX9, TX9, 4), rfl, by decide, rfl, fc_b1 43 rfl rfl⟩
theorem fl_X4_141 : fc_fl RX4 141 2 4 := ⟨(RX2, TX2, 10), rfl, by decide, rfl, fc_b2 159 rfl rfl⟩
theorem fl_X4_144 : fc_fl RX4 144 2 5 := ⟨(RX2, TX2, 10), rfl, by decide, rfl, fc_b2 162 rfl rfl⟩
theorem fl_X4_147 : fc_fl RX4 147 2 8 := ⟨(RX2, TX2, 10), rfl, by decide, rfl, fc_b2 170 rfl rfl⟩
theorem fl_X4_150 : fc_fl RX4 150 1 4 := ⟨(RX1, TX1, 5), rfl, by decide, rfl, fc_b1 108 rfl rfl⟩
theorem fl_X4_153 : fc_fl RX4 153 1 0 := ⟨(RX1, TX1, 5), rfl, by decide, rfl, fc_b1 99 rfl rfl⟩
theorem fl_X4_156 : fc_fl RX4 156 1 1 := ⟨(RX1, TX1, 5), rfl, by decide, rfl, fc_b1 101 rfl rfl⟩
theorem fl_X4_159 : fc_fl RX4 159 1 2 := ⟨(RX1, TX1, 5), rfl, by decide, rfl, fc_b1 103 rfl rfl⟩
theorem fl_X4_162 : fc_fl RX4 162 2 7 := ⟨(RX2, TX2, 10), rfl, by decide, rfl, fc_b2 167 rfl rfl⟩
theorem fl_X4_165 : fc_fl RX4 165 2 6 := ⟨(RX2, TX2, 10), rfl, by decide, rfl, fc_b2 164 rfl rfl⟩
theorem fl_X4_168 : fc_fl RX4 168 1 3 := ⟨(RX1, TX1, 5), rfl, by decide, rfl, fc_b1 105 rfl rfl⟩
theorem fl_X5_11 : fc_fl RX5 11 5 0 := ⟨(RX5, TX5, 10), rfl, by decide, rfl, fc_b1 186 rfl rfl⟩
theorem fl_X5_15 : fc_fl RX5 15 5 1 := ⟨(RX5, TX5, 10), rfl, by decide, rfl, fc_b1 187 rfl rfl⟩
theorem fl_X5_19 : fc_fl RX5 19 5 4 := ⟨(RX5, TX5, 10), rfl, by decide, rfl, fc_b1 192 rfl rfl⟩
theorem fl_X5_23 : fc_fl RX5 23 5 2 := ⟨(RX5, TX5, 10), rfl, by decide, rfl, fc_b1 188 rfl rfl⟩
theorem fl_X5_26 : fc_fl RX5 26 5 6 := ⟨(RX5, TX5, 10), rfl, by decide, rfl, fc_b1 194 rfl rfl⟩
theorem fl_X5_29 : fc_fl RX5 29 5 9 := ⟨(RX5, TX5, 10), rfl, by decide, rfl, fc_b1 197 rfl rfl⟩
theorem fl_X5_43 : fc_fl RX5 43 5 3 := ⟨(RX5, TX5, 10), rfl, by decide, rfl, fc_b1 190 rfl rfl⟩
theorem fl_X5_46 : fc_fl RX5 46 5 7 := ⟨(RX5, TX5, 10), rfl, by decide, rfl, fc_b1 195 rfl rfl⟩
theorem fl_X5_52 : fc_fl RX5 52 5 5 := ⟨(RX5, TX5, 10), rfl, by decide, rfl, fc_b1 193 rfl rfl⟩
theorem fl_X5_68 : fc_fl RX5 68 5 8 := ⟨(RX5, TX5, 10), rfl, by decide, rfl, fc_b1 196 rfl rfl⟩
theorem fl_X6_9 : fc_fl RX6 9 6 0 := ⟨(RX6, TX6, 6), rfl, by decide, rfl, fc_b1 64 rfl rfl⟩
theorem fl_X6_15 : fc_fl RX6 15 6 1 := ⟨(RX6, TX6, 6), rfl, by decide, rfl, fc_b1 66 rfl rfl⟩
theorem fl_X6_18 : fc_fl RX6 18 6 2 := ⟨(RX6, TX6, 6), rfl, by decide, rfl, fc_b1 69 rfl rfl⟩
theorem fl_X6_21 : fc_fl RX6 21 6 3 := ⟨(RX6, TX6, 6), rfl, by decide, rfl, fc_b1 72 rfl rfl⟩
theorem fl_X6_24 : fc_fl RX6 24 6 4 := ⟨(RX6, TX6, 6), rfl, by decide, rfl, fc_b1 74 rfl rfl⟩
theorem fl_X6_27 : fc_fl RX6 27 6 5 := ⟨(RX6, TX6, 6), rfl, by decide, rfl, fc_b1 76 rfl rfl⟩
theorem fl_X7_11 : fc_fl RX7 11 7 0 := ⟨(RX7, TX7, 3), rfl, by decide, rfl, fc_b3 30 rfl rfl⟩
theorem fl_X7_16 : fc_fl RX7 16 7 1 := ⟨(RX7, TX7, 3), rfl, by decide, rfl, fc_b3 32 rfl rfl⟩
theorem fl_X7_20 : fc_fl RX7 20 7 2 := ⟨(RX7, TX7, 3), rfl, by decide, rfl, fc_b3 34 rfl rfl⟩
theorem fl_X8_9 : fc_fl RX8 9 8 0 := ⟨(RX8, TX8, 12), rfl, by decide, rfl, fc_b1 128 rfl rfl⟩
theorem fl_X8_17 : fc_fl RX8 17 8 1 := ⟨(RX8, TX8, 12), rfl, by decide, rfl, fc_b1 131 rfl rfl⟩
theorem fl_X8_20 : fc_fl RX8 20 8 2 := ⟨(RX8, TX8, 12), rfl, by decide, rfl, fc_b1 133 rfl rfl⟩
theorem fl_X8_23 : fc_fl RX8 23 8 3 := ⟨(RX8, TX8, 12), rfl, by decide, rfl, fc_b1 135 rfl rfl⟩
theorem fl_X8_27 : fc_fl RX8 27 8 4 := ⟨(RX8, TX8, 12), rfl, by decide, rfl, fc_b1 136 rfl rfl⟩
theorem fl_X8_30 : fc_fl RX8 30 8 5 := ⟨(RX8, TX8, 12), rfl, by decide, rfl, fc_b1 137 rfl rfl⟩
theorem fl_X8_33 : fc_fl RX8 33 8 6 := ⟨(RX8, TX8, 12), rfl, by decide, rfl, fc_b1 138 rfl rfl⟩
theorem fl_X8_36 : fc_fl RX8 36 8 7 := ⟨(RX8, TX8, 12), rfl, by decide, rfl, fc_b1 139 rfl rfl⟩
theorem fl_X8_39 : fc_fl RX8 39 8 8 := ⟨(RX8, TX8, 12), rfl, by decide, rfl, fc_b1 140 rfl rfl⟩
theorem fl_X8_42 : fc_fl RX8 42 8 11 := ⟨(RX8, TX8, 12), rfl, by decide, rfl, fc_b1 144 rfl rfl⟩
theorem fl_X8_54 : fc_fl RX8 54 8 9 := ⟨(RX8, TX8, 12), rfl, by decide, rfl, fc_b1 141 rfl rfl⟩
theorem fl_X9_9 : fc_fl RX9 9 9 0 := ⟨(RX9, TX9, 4), rfl, by decide, rfl, fc_b1 38 rfl rfl⟩
theorem fl_X9_15 : fc_fl RX9 15 9 1 := ⟨(RX9, TX9, 4), rfl, by decide, rfl, fc_b1 41 rfl rfl⟩
theorem cf_J0_335 : fc_cfVS RJ0 335 J0_coder_7d493 0 := ⟨fc_b2 20 rfl rfl, mf_J0_coder_7d493, fc_b2 21 rfl rfl, fc_b2 22 rfl rfl, rfl⟩
theorem cf_J0_492 : fc_cfVS RJ0 492 J0_isLatin1_aae02 0 := ⟨fc_b2 30 rfl rfl, mf_J0_isLatin1_aae02, fc_b2 31 rfl rfl, fc_b2 32 rfl rfl, rfl⟩
theorem cf_J0_495 : fc_cfS RJ0 495 J1_charAt_3b067 2 := ⟨fc_b2 34 rfl rfl, mf_J1_charAt_3b067, fc_b2 35 rfl rfl⟩
theorem cf_J0_498 : fc_cfS RJ0 498 J2_charAt_3b067 2 := ⟨fc_b2 45 rfl rfl, mf_J2_charAt_3b067, fc_b2 46 rfl rfl⟩
theorem cf_J0_1059 : fc_cfS RJ0 1059 J3_checkIndex_8e157 3 := ⟨fc_b2 42 rfl rfl, mf_J3_checkIndex_8e157, fc_b2 43 rfl rfl⟩
theorem cf_J1_9 : fc_cfS RJ1 9 J0_checkIndex_df160 2 := ⟨fc_b2 37 rfl rfl, mf_J0_checkIndex_df160, fc_b2 38 rfl rfl⟩
theorem cf_J2_48 : fc_cfS RJ2 48 J2_length_9d52b 1 := ⟨fc_b2 51 rfl rfl, mf_J2_length_9d52b, fc_b2 52 rfl rfl⟩
theorem cf_J2_67 : fc_cfS RJ2 67 J2_checkIndex_2214a 2 := ⟨fc_b2 48 rfl rfl, mf_J2_checkIndex_2214a, fc_b2 49 rfl rfl⟩
theorem cf_J2_71 : fc_cfS RJ2 71 J2_getChar_3b067 2 := ⟨fc_b2 55 rfl rfl, mf_J2_getChar_3b067, fc_b2 56 rfl rfl⟩
theorem cf_J2_414 : fc_cfS RJ2 414 J0_checkIndex_df160 2 := ⟨fc_b2 54 rfl rfl, mf_J0_checkIndex_df160, fc_b2 38 rfl rfl⟩
theorem cf_L_9 : fc_cfI RL 9 X10_init 0 := ⟨fc_b1 23 rfl rfl, mf_X10_init, rfl, rfl, fc_b1 24 rfl rfl⟩
theorem cf_L_12 : fc_cfI RL 12 X11_init 0 := ⟨fc_b5 117 rfl rfl, mf_X11_init, rfl, rfl, fc_b5 118 rfl rfl⟩
theorem cf_L_13 : fc_cfV RL 13 X10_zone 10 3 := ⟨fc_b3 71 rfl rfl, mf_X10_zone, fc_b3 72 rfl rfl, fc_b3 73 rfl rfl, rfl⟩
theorem cf_L_17 : fc_cfV RL 17 X11_zone 11 3 := ⟨fc_b4 151 rfl rfl, mf_X11_zone, fc_b4 152 rfl rfl, fc_b4 153 rfl rfl, rfl⟩
theorem cf_L_18 : fc_cfV RL 18 X10_shelter 10 1 := ⟨fc_b3 79 rfl rfl, mf_X10_shelter, fc_b3 80 rfl rfl, fc_b3 81 rfl rfl, rfl⟩
theorem cf_L_22 : fc_cfV RL 22 X11_shelter 11 1 := ⟨fc_b4 161 rfl rfl, mf_X11_shelter, fc_b4 162 rfl rfl, fc_b4 163 rfl rfl, rfl⟩
theorem cf_L_23 : fc_cfV RL 23 X10_road 10 4 := ⟨fc_b3 83 rfl rfl, mf_X10_road, fc_b3 84 rfl rfl, fc_b3 85 rfl rfl, rfl⟩
theorem cf_L_27 : fc_cfV RL 27 X11_road 11 4 := ⟨fc_b4 165 rfl rfl, mf_X11_road, fc_b4 166 rfl rfl, fc_b4 167 rfl rfl, rfl⟩
theorem cf_L_28 : fc_cfV RL 28 X10_use 10 1 := ⟨fc_b3 99 rfl rfl, mf_X10_use, fc_b3 100 rfl rfl, fc_b3 101 rfl rfl, rfl⟩
theorem cf_L_31 : fc_cfV RL 31 X11_use 11 1 := ⟨fc_b4 184 rfl rfl, mf_X11_use, fc_b4 185 rfl rfl, fc_b4 186 rfl rfl, rfl⟩
theorem cf_L_32 : fc_cfV RL 32 X10_turn 10 1 := ⟨fc_b3 107 rfl rfl, mf_X10_turn, fc_b3 108 rfl rfl, fc_b3 109 rfl rfl, rfl⟩
theorem cf_L_35 : fc_cfV RL 35 X11_turn 11 1 := ⟨fc_b4 192 rfl rfl, mf_X11_turn, fc_b4 193 rfl rfl, fc_b4 194 rfl rfl, rfl⟩
theorem cf_L_36 : fc_cfV RL 36 X10_bus 10 4 := ⟨fc_b3 111 rfl rfl, mf_X10_bus, fc_b3 112 rfl rfl, fc_b3 113 rfl rfl, rfl⟩
theorem cf_L_39 : fc_cfV RL 39 X11_bus 11 4 := ⟨fc_b4 196 rfl rfl, mf_X11_bus, fc_b4 197 rfl rfl, fc_b4 198 rfl rfl, rfl⟩
theorem cf_L_40 : fc_cfV RL 40 X10_zoneTold 10 2 := ⟨fc_b3 123 rfl rfl, mf_X10_zoneTold, fc_b3 124 rfl rfl, fc_b3 125 rfl rfl, rfl⟩
theorem cf_L_44 : fc_cfV RL 44 X11_zoneTold 11 2 := ⟨fc_b4 201 rfl rfl, mf_X11_zoneTold, fc_b4 202 rfl rfl, fc_b4 203 rfl rfl, rfl⟩
theorem cf_L_45 : fc_cfV RL 45 X10_shelterTold 10 2 := ⟨fc_b3 131 rfl rfl, mf_X10_shelterTold, fc_b3 132 rfl rfl, fc_b3 133 rfl rfl, rfl⟩
theorem cf_L_48 : fc_cfV RL 48 X11_shelterTold 11 2 := ⟨fc_b4 210 rfl rfl, mf_X11_shelterTold, fc_b4 211 rfl rfl, fc_b4 212 rfl rfl, rfl⟩
theorem cf_L_49 : fc_cfV RL 49 X10_roadTold 10 2 := ⟨fc_b3 135 rfl rfl, mf_X10_roadTold, fc_b3 136 rfl rfl, fc_b3 137 rfl rfl, rfl⟩
theorem cf_L_52 : fc_cfV RL 52 X11_roadTold 11 2 := ⟨fc_b4 218 rfl rfl, mf_X11_roadTold, fc_b4 219 rfl rfl, fc_b4 220 rfl rfl, rfl⟩
theorem cf_L_53 : fc_cfV RL 53 X10_busTold 10 2 := ⟨fc_b3 148 rfl rfl, mf_X10_busTold, fc_b3 149 rfl rfl, fc_b3 150 rfl rfl, rfl⟩
theorem cf_L_56 : fc_cfV RL 56 X11_busTold 11 2 := ⟨fc_b4 226 rfl rfl, mf_X11_busTold, fc_b4 227 rfl rfl, fc_b4 228 rfl rfl, rfl⟩
theorem cf_L_57 : fc_cfV RL 57 X10_end 10 1 := ⟨fc_b3 152 rfl rfl, mf_X10_end, fc_b3 153 rfl rfl, fc_b3 154 rfl rfl, rfl⟩
theorem cf_L_60 : fc_cfV RL 60 X11_end 11 1 := ⟨fc_b4 235 rfl rfl, mf_X11_end, fc_b4 236 rfl rfl, fc_b4 237 rfl rfl, rfl⟩
theorem cf_L_61 : fc_cfV RL 61 X10_likely 10 2 := ⟨fc_b3 156 rfl rfl, mf_X10_likely, fc_b3 157 rfl rfl, fc_b3 158 rfl rfl, rfl⟩
theorem cf_L_64 : fc_cfV RL 64 X11_likely 11 2 := ⟨fc_b5 0 rfl rfl, mf_X11_likely, fc_b5 1 rfl rfl, fc_b5 2 rfl rfl, rfl⟩
theorem cf_L_65 : fc_cfV RL 65 X10_truth 10 1 := ⟨fc_b3 163 rfl rfl, mf_X10_truth, fc_b3 164 rfl rfl, fc_b3 165 rfl rfl, rfl⟩
theorem cf_L_68 : fc_cfV RL 68 X11_truth 11 1 := ⟨fc_b5 7 rfl rfl, mf_X11_truth, fc_b5 8 rfl rfl, fc_b5 9 rfl rfl, rfl⟩
theorem cf_L_69 : fc_cfV RL 69 X10_news 10 5 := ⟨fc_b3 167 rfl rfl, mf_X10_news, fc_b3 168 rfl rfl, fc_b3 169 rfl rfl, rfl⟩
theorem cf_L_73 : fc_cfV RL 73 X11_news 11 5 := ⟨fc_b5 11 rfl rfl, mf_X11_news, fc_b5 12 rfl rfl, fc_b5 13 rfl rfl, rfl⟩
theorem cf_L_74 : fc_cfV RL 74 X10_known 10 4 := ⟨fc_b3 177 rfl rfl, mf_X10_known, fc_b3 178 rfl rfl, fc_b3 179 rfl rfl, rfl⟩
theorem cf_L_77 : fc_cfV RL 77 X11_known 11 4 := ⟨fc_b5 16 rfl rfl, mf_X11_known, fc_b5 17 rfl rfl, fc_b5 18 rfl rfl, rfl⟩
theorem cf_L_80 : fc_cfV RL 80 X10_feed 10 2 := ⟨fc_b3 193 rfl rfl, mf_X10_feed, fc_b3 194 rfl rfl, fc_b3 195 rfl rfl, rfl⟩
theorem cf_L_84 : fc_cfV RL 84 X11_feed 11 2 := ⟨fc_b5 24 rfl rfl, mf_X11_feed, fc_b5 25 rfl rfl, fc_b5 26 rfl rfl, rfl⟩
theorem cf_L_85 : fc_cfV RL 85 X10_text 10 0 := ⟨fc_b3 201 rfl rfl, mf_X10_text, fc_b3 202 rfl rfl, fc_b3 203 rfl rfl, rfl⟩
theorem cf_L_89 : fc_cfV RL 89 X11_text 11 0 := ⟨fc_b5 29 rfl rfl, mf_X11_text, fc_b5 30 rfl rfl, fc_b5 31 rfl rfl, rfl⟩
theorem cf_L_90 : fc_cfV RL 90 X10_force 10 1 := ⟨fc_b3 205 rfl rfl, mf_X10_force, fc_b3 206 rfl rfl, fc_b3 207 rfl rfl, rfl⟩
theorem cf_L_93 : fc_cfV RL 93 X11_force 11 1 := ⟨fc_b5 96 rfl rfl, mf_X11_force, fc_b5 97 rfl rfl, fc_b5 98 rfl rfl, rfl⟩
theorem cf_L_94 : fc_cfV RL 94 X10_says 10 2 := ⟨fc_b3 209 rfl rfl, mf_X10_says, fc_b3 210 rfl rfl, fc_b3 211 rfl rfl, rfl⟩
theorem cf_L_98 : fc_cfV RL 98 X11_says 11 2 := ⟨fc_b5 100 rfl rfl, mf_X11_says, fc_b5 101 rfl rfl, fc_b5 102 rfl rfl, rfl⟩
theorem cf_L_99 : fc_cfV RL 99 X10_call 10 1 := ⟨fc_b3 229 rfl rfl, mf_X10_call, fc_b3 230 rfl rfl, fc_b3 231 rfl rfl, rfl⟩
theorem cf_L_102 : fc_cfV RL 102 X11_call 11 1 := ⟨fc_b6 108 rfl rfl, mf_X11_call, fc_b6 109 rfl rfl, fc_b6 110 rfl rfl, rfl⟩
theorem cf_L_103 : fc_cfV RL 103 X10_good 10 1 := ⟨fc_b3 233 rfl rfl, mf_X10_good, fc_b3 234 rfl rfl, fc_b3 235 rfl rfl, rfl⟩
theorem cf_L_106 : fc_cfV RL 106 X11_good 11 1 := ⟨fc_b6 112 rfl rfl, mf_X11_good, fc_b6 113 rfl rfl, fc_b6 114 rfl rfl, rfl⟩
theorem cf_L_107 : fc_cfV RL 107 X10_pass 10 1 := ⟨fc_b4 5 rfl rfl, mf_X10_pass, fc_b4 6 rfl rfl, fc_b4 7 rfl rfl, rfl⟩
theorem cf_L_110 : fc_cfV RL 110 X11_pass 11 1 := ⟨fc_b6 120 rfl rfl, mf_X11_pass, fc_b6 121 rfl rfl, fc_b6 122 rfl rfl, rfl⟩
theorem cf_L_111 : fc_cfV RL 111 X10_inWater 10 0 := ⟨fc_b4 41 rfl rfl, mf_X10_inWater, fc_b4 42 rfl rfl, fc_b4 43 rfl rfl, rfl⟩
theorem cf_L_114 : fc_cfV RL 114 X11_inWater 11 0 := ⟨fc_b6 142 rfl rfl, mf_X11_inWater, fc_b6 143 rfl rfl, fc_b6 144 rfl rfl, rfl⟩
theorem cf_L_115 : fc_cfV RL 115 X10_foresee 10 2 := ⟨fc_b4 49 rfl rfl, mf_X10_foresee, fc_b4 50 rfl rfl, fc_b4 51 rfl rfl, rfl⟩
theorem cf_L_119 : fc_cfV RL 119 X11_foresee 11 2 := ⟨fc_b6 150 rfl rfl, mf_X11_foresee, fc_b6 151 rfl rfl, fc_b6 152 rfl rfl, rfl⟩
theorem cf_L_120 : fc_cfV RL 120 X10_best 10 1 := ⟨fc_b4 73 rfl rfl, mf_X10_best, fc_b4 74 rfl rfl, fc_b4 75 rfl rfl, rfl⟩
theorem cf_L_124 : fc_cfV RL 124 X11_best 11 1 := ⟨fc_b6 171 rfl rfl, mf_X11_best, fc_b6 172 rfl rfl, fc_b6 173 rfl rfl, rfl⟩
theorem cf_L_125 : fc_cfV RL 125 X10_bestCall 10 1 := ⟨fc_b4 98 rfl rfl, mf_X10_bestCall, fc_b4 99 rfl rfl, fc_b4 100 rfl rfl, rfl⟩
theorem cf_L_128 : fc_cfV RL 128 X11_bestCall 11 1 := ⟨fc_b6 190 rfl rfl, mf_X11_bestCall, fc_b6 191 rfl rfl, fc_b6 192 rfl rfl, rfl⟩
theorem cf_L_129 : fc_cfV RL 129 X10_count 10 1 := ⟨fc_b4 102 rfl rfl, mf_X10_count, fc_b4 103 rfl rfl, fc_b4 104 rfl rfl, rfl⟩
theorem cf_L_132 : fc_cfV RL 132 X11_count 11 1 := ⟨fc_b6 194 rfl rfl, mf_X11_count, fc_b6 195 rfl rfl, fc_b6 196 rfl rfl, rfl⟩
theorem cf_L_133 : fc_cfV RL 133 X10_sheet 10 3 := ⟨fc_b4 109 rfl rfl, mf_X10_sheet, fc_b4 110 rfl rfl, fc_b4 111 rfl rfl, rfl⟩
theorem cf_L_136 : fc_cfV RL 136 X11_sheet 11 3 := ⟨fc_b6 201 rfl rfl, mf_X11_sheet, fc_b6 202 rfl rfl, fc_b6 203 rfl rfl, rfl⟩
theorem cf_L_137 : fc_cfV RL 137 X10_cell 10 3 := ⟨fc_b4 120 rfl rfl, mf_X10_cell, fc_b4 121 rfl rfl, fc_b4 122 rfl rfl, rfl⟩
theorem cf_L_140 : fc_cfV RL 140 X11_cell 11 3 := ⟨fc_b6 210 rfl rfl, mf_X11_cell, fc_b6 211 rfl rfl, fc_b6 212 rfl rfl, rfl⟩
theorem cf_L_141 : fc_cfV RL 141 X10_copy 10 5 := ⟨fc_b4 128 rfl rfl, mf_X10_copy, fc_b4 129 rfl rfl, fc_b4 130 rfl rfl, rfl⟩
theorem cf_L_144 : fc_cfV RL 144 X11_copy 11 5 := ⟨fc_b6 217 rfl rfl, mf_X11_copy, fc_b6 218 rfl rfl, fc_b6 219 rfl rfl, rfl⟩
theorem cf_L_145 : fc_cfV RL 145 X10_newsRow 10 5 := ⟨fc_b4 137 rfl rfl, mf_X10_newsRow, fc_b4 138 rfl rfl, fc_b4 139 rfl rfl, rfl⟩
theorem cf_L_148 : fc_cfV RL 148 X11_newsRow 11 5 := ⟨fc_b6 221 rfl rfl, mf_X11_newsRow, fc_b6 222 rfl rfl, fc_b6 223 rfl rfl, rfl⟩
theorem cf_L_149 : fc_cfV RL 149 X10_taken 10 2 := ⟨fc_b4 141 rfl rfl, mf_X10_taken, fc_b4 142 rfl rfl, fc_b4 143 rfl rfl, rfl⟩
theorem cf_L_152 : fc_cfV RL 152 X11_taken 11 2 := ⟨fc_b6 228 rfl rfl, mf_X11_taken, fc_b6 229 rfl rfl, fc_b6 230 rfl rfl, rfl⟩
theorem cf_X0_3 : Cond.methodLink RX0 3 objectInit ∈ fc_tbl ∧ Cond.instanceMethod objectInit ∈ fc_tbl ∧ Cond.code objectInit ⟨#[0xb1]⟩ 1 none ∈ fc_tbl := ⟨fc_b1 178 rfl rfl, fc_b1 27 rfl rfl, fc_b1 28 rfl rfl⟩
theorem cf_X0_32 : fc_cfI RX0 32 X5_init 1 := ⟨fc_b1 182 rfl rfl, mf_X5_init, rfl, rfl, fc_b1 183 rfl rfl⟩
theorem cf_X0_39 : fc_cfVS RX0 39 J0_length_8abf5 0 := ⟨fc_b2 16 rfl rfl, mf_J0_length_8abf5, fc_b2 17 rfl rfl, fc_b2 18 rfl rfl, rfl⟩
theorem cf_X0_49 : fc_cfVS RX0 49 J0_charAt_5068e 1 := ⟨fc_b2 26 rfl rfl, mf_J0_charAt_5068e, fc_b2 27 rfl rfl, fc_b2 28 rfl rfl, rfl⟩
theorem cf_X0_56 : fc_cfV RX0 56 X5_read 5 2 := ⟨fc_b2 68 rfl rfl, mf_X5_read, fc_b2 69 rfl rfl, fc_b2 70 rfl rfl, rfl⟩
theorem cf_X0_67 : fc_cfS RX0 67 X0_joined 3 := ⟨fc_b3 226 rfl rfl, mf_X0_joined, fc_b3 227 rfl rfl⟩
theorem cf_X1_3 : Cond.methodLink RX1 3 objectInit ∈ fc_tbl ∧ Cond.instanceMethod objectInit ∈ fc_tbl ∧ Cond.code objectInit ⟨#[0xb1]⟩ 1 none ∈ fc_tbl := ⟨fc_b1 97 rfl rfl, fc_b1 27 rfl rfl, fc_b1 28 rfl rfl⟩
theorem cf_X10_1 : Cond.methodLink RX10 1 objectInit ∈ fc_tbl ∧ Cond.instanceMethod objectInit ∈ fc_tbl ∧ Cond.code objectInit ⟨#[0xb1]⟩ 1 none ∈ fc_tbl := ⟨fc_b1 26 rfl rfl, fc_b1 27 rfl rfl, fc_b1 28 rfl rfl⟩
theorem cf_X10_9 : fc_cfI RX10 9 X9_init 0 := ⟨fc_b1 31 rfl rfl, mf_X9_init, rfl, rfl, fc_b1 32 rfl rfl⟩
theorem cf_X10_18 : fc_cfIN RX10 18 X6_init "FloodCity" 0 := ⟨List.mem_of_getElem? (i := 0) rfl, mf_X6_init, rfl, rfl, fc_b1 61 rfl rfl⟩
theorem cf_X10_25 : fc_cfIN RX10 25 X1_init "FloodCity" 0 := ⟨List.mem_of_getElem? (i := 1) rfl, mf_X1_init, rfl, rfl, fc_b1 95 rfl rfl⟩
theorem cf_X10_32 : fc_cfI RX10 32 X8_init 0 := ⟨fc_b1 122 rfl rfl, mf_X8_init, rfl, rfl, fc_b1 123 rfl rfl⟩
theorem cf_X10_39 : fc_cfIN RX10 39 X0_init "FloodCity" 0 := ⟨List.mem_of_getElem? (i := 2) rfl, mf_X0_init, rfl, rfl, fc_b1 176 rfl rfl⟩
theorem cf_X10_46 : fc_cfV RX10 46 X0_write 0 1 := ⟨fc_b2 12 rfl rfl, mf_X0_write, fc_b2 13 rfl rfl, fc_b2 14 rfl rfl, rfl⟩
theorem cf_X10_50 : fc_cfV RX10 50 X0_learn 0 0 := ⟨fc_b2 64 rfl rfl, mf_X0_learn, fc_b2 65 rfl rfl, fc_b2 66 rfl rfl, rfl⟩
theorem cf_X10_56 : fc_cfI RX10 56 X2_init 0 := ⟨fc_b2 139 rfl rfl, mf_X2_init, rfl, rfl, fc_b2 140 rfl rfl⟩
theorem cf_X10_63 : fc_cfI RX10 63 X4_init 5 := ⟨fc_b2 199 rfl rfl, mf_X4_init, rfl, rfl, fc_b2 200 rfl rfl⟩
theorem cf_X10_72 : fc_cfI RX10 72 X3_init 4 := ⟨fc_b2 228 rfl rfl, mf_X3_init, rfl, rfl, fc_b2 229 rfl rfl⟩
theorem cf_X10_81 : fc_cfI RX10 81 X7_init 0 := ⟨fc_b3 24 rfl rfl, mf_X7_init, rfl, rfl, fc_b3 25 rfl rfl⟩
theorem cf_X10_86 : fc_cfS RX10 86 X10_isOutside 3 := ⟨fc_b3 75 rfl rfl, mf_X10_isOutside, fc_b3 76 rfl rfl⟩
theorem cf_X10_114 : fc_cfV RX10 114 X10_isNoZone 10 1 := ⟨fc_b3 87 rfl rfl, mf_X10_isNoZone, fc_b3 89 rfl rfl, fc_b0 10 rfl rfl, rfl⟩
theorem cf_X10_118 : fc_cfV RX10 118 X10_isNoGoal 10 1 := ⟨fc_b3 91 rfl rfl, mf_X10_isNoGoal, fc_b3 93 rfl rfl, fc_b0 11 rfl rfl, rfl⟩
theorem cf_X10_124 : fc_cfV RX10 124 X6_build 6 4 := ⟨fc_b3 95 rfl rfl, mf_X6_build, fc_b3 96 rfl rfl, fc_b3 97 rfl rfl, rfl⟩
theorem cf_X10_128 : fc_cfV RX10 128 X10_isNoRoad 10 1 := ⟨fc_b3 103 rfl rfl, mf_X10_isNoRoad, fc_b3 105 rfl rfl, fc_b0 12 rfl rfl, rfl⟩
theorem cf_X10_140 : fc_cfV RX10 140 X10_isNoShelter 10 1 := ⟨fc_b3 115 rfl rfl, mf_X10_isNoShelter, fc_b3 117 rfl rfl, fc_b0 13 rfl rfl, rfl⟩
theorem cf_X10_144 : fc_cfV RX10 144 X1_hire 1 4 := ⟨fc_b3 119 rfl rfl, mf_X1_hire, fc_b3 120 rfl rfl, fc_b3 121 rfl rfl, rfl⟩
theorem cf_X10_156 : fc_cfV RX10 156 X4_isWet 4 3 := ⟨fc_b3 127 rfl rfl, mf_X4_isWet, fc_b3 128 rfl rfl, fc_b3 129 rfl rfl, rfl⟩
theorem cf_X10_171 : fc_cfV RX10 171 X4_openFlow 4 3 := ⟨fc_b3 139 rfl rfl, mf_X4_openFlow, fc_b3 140 rfl rfl, fc_b3 141 rfl rfl, rfl⟩
theorem cf_X10_184 : fc_cfS RX10 184 X10_isNoTrack 1 := ⟨fc_b3 160 rfl rfl, mf_X10_isNoTrack, fc_b3 161 rfl rfl⟩
theorem cf_X10_191 : fc_cfV RX10 191 X8_hear 8 6 := ⟨fc_b3 171 rfl rfl, mf_X8_hear, fc_b3 172 rfl rfl, fc_b3 173 rfl rfl, rfl⟩
theorem cf_X10_195 : fc_cfV RX10 195 X8_waterKnown 8 3 := ⟨fc_b3 181 rfl rfl, mf_X8_waterKnown, fc_b3 182 rfl rfl, fc_b3 183 rfl rfl, rfl⟩
theorem cf_X10_198 : fc_cfV RX10 198 X8_windKnown 8 3 := ⟨fc_b3 189 rfl rfl, mf_X8_windKnown, fc_b3 190 rfl rfl, fc_b3 191 rfl rfl, rfl⟩
theorem cf_X10_201 : fc_cfV RX10 201 X0_append 0 2 := ⟨fc_b3 197 rfl rfl, mf_X0_append, fc_b3 198 rfl rfl, fc_b3 199 rfl rfl, rfl⟩
theorem cf_X10_211 : fc_cfV RX10 211 X4_gather 4 3 := ⟨fc_b3 214 rfl rfl, mf_X4_gather, fc_b3 215 rfl rfl, fc_b3 216 rfl rfl, rfl⟩
theorem cf_X10_218 : fc_cfV RX10 218 X0_worth 0 2 := ⟨fc_b3 222 rfl rfl, mf_X0_worth, fc_b3 223 rfl rfl, fc_b3 224 rfl rfl, rfl⟩
theorem cf_X10_222 : fc_cfV RX10 222 X8_wasDanger 8 2 := ⟨fc_b3 237 rfl rfl, mf_X8_wasDanger, fc_b3 238 rfl rfl, fc_b3 239 rfl rfl, rfl⟩
theorem cf_X10_226 : fc_cfV RX10 226 X4_goBy 4 2 := ⟨fc_b4 9 rfl rfl, mf_X4_goBy, fc_b4 10 rfl rfl, fc_b4 11 rfl rfl, rfl⟩
theorem cf_X10_230 : fc_cfV RX10 230 X4_standInWater 4 3 := ⟨fc_b4 45 rfl rfl, mf_X4_standInWater, fc_b4 46 rfl rfl, fc_b4 47 rfl rfl, rfl⟩
theorem cf_X10_239 : fc_cfV RX10 239 X3_foreseen 3 1 := ⟨fc_b4 54 rfl rfl, mf_X3_foreseen, fc_b4 55 rfl rfl, fc_b4 56 rfl rfl, rfl⟩
theorem cf_X10_243 : fc_cfS RX10 243 J6_bitCount_0f7a4 1 := ⟨fc_b4 77 rfl rfl, mf_J6_bitCount_0f7a4, fc_b4 78 rfl rfl⟩
theorem cf_X10_248 : fc_cfV RX10 248 X3_search 3 1 := ⟨fc_b4 83 rfl rfl, mf_X3_search, fc_b4 84 rfl rfl, fc_b4 85 rfl rfl, rfl⟩
theorem cf_X10_256 : fc_cfS RX10 256 X10_sum 1 := ⟨fc_b4 106 rfl rfl, mf_X10_sum, fc_b4 107 rfl rfl⟩
theorem cf_X10_266 : fc_cfS RX10 266 X10_isNoSheet 1 := ⟨fc_b4 113 rfl rfl, mf_X10_isNoSheet, fc_b4 114 rfl rfl⟩
theorem cf_X10_272 : fc_cfV RX10 272 X7_lay 7 3 := ⟨fc_b4 116 rfl rfl, mf_X7_lay, fc_b4 117 rfl rfl, fc_b4 118 rfl rfl, rfl⟩
theorem cf_X10_279 : fc_cfV RX10 279 X7_write 7 3 := ⟨fc_b4 124 rfl rfl, mf_X7_write, fc_b4 125 rfl rfl, fc_b4 126 rfl rfl, rfl⟩
theorem cf_X10_281 : fc_cfV RX10 281 X7_holds 7 3 := ⟨fc_b4 132 rfl rfl, mf_X7_holds, fc_b4 133 rfl rfl, fc_b4 134 rfl rfl, rfl⟩
theorem cf_X10_288 : Cond.methodLink RX10 288 arraycopyName ∈ fc_tbl ∧ Cond.native arraycopyName ∈ fc_tbl ∧ Cond.static arraycopyName ∈ fc_tbl ∧ Cond.initialized "java/lang/System" ∈ fc_tbl := ⟨fc_b4 136 rfl rfl, fc_b4 64 rfl rfl, fc_b4 63 rfl rfl, fc_b1 19 rfl rfl⟩
theorem cf_X10_294 : fc_cfV RX10 294 X6_isOfKind 6 2 := ⟨fc_b4 145 rfl rfl, mf_X6_isOfKind, fc_b4 146 rfl rfl, fc_b4 147 rfl rfl, rfl⟩
theorem cf_X11_18 : fc_cfS RX11 18 X11_isIn 3 := ⟨fc_b4 156 rfl rfl, mf_X11_isIn, fc_b4 157 rfl rfl⟩
theorem cf_X11_42 : fc_cfV RX11 42 X11_isZone 11 1 := ⟨fc_b4 170 rfl rfl, mf_X11_isZone, fc_b4 172 rfl rfl, fc_b0 23 rfl rfl, rfl⟩
theorem cf_X11_46 : fc_cfV RX11 46 X11_isShelter 11 1 := ⟨fc_b4 179 rfl rfl, mf_X11_isShelter, fc_b4 181 rfl rfl, fc_b0 25 rfl rfl, rfl⟩
theorem cf_X11_51 : fc_cfV RX11 51 X11_isGoal 11 1 := ⟨fc_b4 175 rfl rfl, mf_X11_isGoal, fc_b4 177 rfl rfl, fc_b0 24 rfl rfl, rfl⟩
theorem cf_X11_71 : fc_cfV RX11 71 X11_isRoad 11 1 := ⟨fc_b4 188 rfl rfl, mf_X11_isRoad, fc_b4 190 rfl rfl, fc_b0 26 rfl rfl, rfl⟩
theorem cf_X11_102 : fc_cfV RX11 102 X11_isWet 11 3 := ⟨fc_b4 206 rfl rfl, mf_X11_isWet, fc_b4 208 rfl rfl, fc_b0 27 rfl rfl, rfl⟩
theorem cf_X11_112 : fc_cfV RX11 112 X11_roomLeft 11 1 := ⟨fc_b4 214 rfl rfl, mf_X11_roomLeft, fc_b4 216 rfl rfl, fc_b0 28 rfl rfl, rfl⟩
theorem cf_X11_116 : fc_cfV RX11 116 X11_canTake 11 3 := ⟨fc_b4 222 rfl rfl, mf_X11_canTake, fc_b4 224 rfl rfl, fc_b0 29 rfl rfl, rfl⟩
theorem cf_X11_120 : fc_cfV RX11 120 X11_isBus 11 1 := ⟨fc_b4 230 rfl rfl, mf_X11_isBus, fc_b4 232 rfl rfl, fc_b0 30 rfl rfl, rfl⟩
theorem cf_X11_139 : fc_cfS RX11 139 X11_isTrack 1 := ⟨fc_b5 4 rfl rfl, mf_X11_isTrack, fc_b5 5 rfl rfl⟩
theorem cf_X11_171 : fc_cfV RX11 171 X11_knownOf 11 4 := ⟨fc_b5 20 rfl rfl, mf_X11_knownOf, fc_b5 22 rfl rfl, fc_b0 31 rfl rfl, rfl⟩
theorem cf_X11_187 : fc_cfV RX11 187 X11_isLetter 11 1 := ⟨fc_b5 41 rfl rfl, mf_X11_isLetter, fc_b5 43 rfl rfl, fc_b0 34 rfl rfl, rfl⟩
theorem cf_X11_206 : fc_cfV RX11 206 X11_isDigit 11 1 := ⟨fc_b5 49 rfl rfl, mf_X11_isDigit, fc_b5 51 rfl rfl, fc_b0 36 rfl rfl, rfl⟩
theorem cf_X11_209 : fc_cfV RX11 209 X11_readWord 11 0 := ⟨fc_b5 45 rfl rfl, mf_X11_readWord, fc_b5 47 rfl rfl, fc_b0 35 rfl rfl, rfl⟩
theorem cf_X11_213 : fc_cfV RX11 213 X11_readNumber 11 0 := ⟨fc_b5 53 rfl rfl, mf_X11_readNumber, fc_b5 55 rfl rfl, fc_b0 37 rfl rfl, rfl⟩
theorem cf_X11_231 : fc_cfS RX11 231 X11_rank 1 := ⟨fc_b5 73 rfl rfl, mf_X11_rank, fc_b5 74 rfl rfl⟩
theorem cf_X11_237 : fc_cfV RX11 237 X11_emit 11 1 := ⟨fc_b5 65 rfl rfl, mf_X11_emit, fc_b5 67 rfl rfl, fc_b0 40 rfl rfl, rfl⟩
theorem cf_X11_241 : fc_cfV RX11 241 X11_isSign 11 1 := ⟨fc_b5 76 rfl rfl, mf_X11_isSign, fc_b5 78 rfl rfl, fc_b0 42 rfl rfl, rfl⟩
theorem cf_X11_244 : fc_cfV RX11 244 X11_isKey 11 1 := ⟨fc_b5 57 rfl rfl, mf_X11_isKey, fc_b5 59 rfl rfl, fc_b0 38 rfl rfl, rfl⟩
theorem cf_X11_254 : fc_cfV RX11 254 X11_doAll 11 1 := ⟨fc_b5 69 rfl rfl, mf_X11_doAll, fc_b5 71 rfl rfl, fc_b0 41 rfl rfl, rfl⟩
theorem cf_X11_257 : fc_cfV RX11 257 X11_await 11 1 := ⟨fc_b5 84 rfl rfl, mf_X11_await, fc_b5 86 rfl rfl, fc_b0 44 rfl rfl, rfl⟩
theorem cf_X11_260 : fc_cfV RX11 260 X11_ahead 11 1 := ⟨fc_b5 80 rfl rfl, mf_X11_ahead, fc_b5 82 rfl rfl, fc_b0 43 rfl rfl, rfl⟩
theorem cf_X11_267 : fc_cfV RX11 267 X11_between 11 0 := ⟨fc_b5 88 rfl rfl, mf_X11_between, fc_b5 90 rfl rfl, fc_b0 45 rfl rfl, rfl⟩
theorem cf_X11_271 : fc_cfV RX11 271 X11_closes 11 0 := ⟨fc_b5 92 rfl rfl, mf_X11_closes, fc_b5 94 rfl rfl, fc_b0 46 rfl rfl, rfl⟩
theorem cf_X11_274 : fc_cfV RX11 274 X11_next 11 0 := ⟨fc_b5 37 rfl rfl, mf_X11_next, fc_b5 39 rfl rfl, fc_b0 33 rfl rfl, rfl⟩
theorem cf_X11_277 : fc_cfV RX11 277 X11_readE 11 1 := ⟨fc_b5 61 rfl rfl, mf_X11_readE, fc_b5 63 rfl rfl, fc_b0 39 rfl rfl, rfl⟩
theorem cf_X11_283 : fc_cfV RX11 283 X11_readAll 11 1 := ⟨fc_b5 33 rfl rfl, mf_X11_readAll, fc_b5 35 rfl rfl, fc_b0 32 rfl rfl, rfl⟩
theorem cf_X11_292 : fc_cfV RX11 292 X11_nameOf 11 4 := ⟨fc_b5 108 rfl rfl, mf_X11_nameOf, fc_b5 110 rfl rfl, fc_b0 48 rfl rfl, rfl⟩
theorem cf_X11_296 : fc_cfS RX11 296 X11_done 3 := ⟨fc_b5 112 rfl rfl, mf_X11_done, fc_b5 113 rfl rfl⟩
theorem cf_X11_299 : fc_cfV RX11 299 X11_worthOf 11 4 := ⟨fc_b5 104 rfl rfl, mf_X11_worthOf, fc_b5 106 rfl rfl, fc_b0 47 rfl rfl, rfl⟩
theorem cf_X11_304 : Cond.methodLink RX11 304 objectInit ∈ fc_tbl ∧ Cond.instanceMethod objectInit ∈ fc_tbl ∧ Cond.code objectInit ⟨#[0xb1]⟩ 1 none ∈ fc_tbl := ⟨fc_b5 120 rfl rfl, fc_b1 27 rfl rfl, fc_b1 28 rfl rfl⟩
theorem cf_X11_354 : fc_cfV RX11 354 X11_wasWet 11 3 := ⟨fc_b6 116 rfl rfl, mf_X11_wasWet, fc_b6 118 rfl rfl, fc_b0 49 rfl rfl, rfl⟩
theorem cf_X11_357 : Cond.methodLink RX11 357 Lib.Math.min.name ∈ fc_tbl ∧ Cond.static Lib.Math.min.name ∈ fc_tbl ∧ Cond.initialized "java/lang/Math" ∈ fc_tbl ∧ Cond.code Lib.Math.min.name Lib.Math.min.code 2 (some .int) ∈ fc_tbl := ⟨fc_b6 132 rfl rfl, fc_b4 2 rfl rfl, fc_b1 18 rfl rfl, fc_b4 3 rfl rfl⟩
theorem cf_X11_363 : Cond.methodLink RX11 363 Lib.Math.max.name ∈ fc_tbl ∧ Cond.static Lib.Math.max.name ∈ fc_tbl ∧ Cond.initialized "java/lang/Math" ∈ fc_tbl ∧ Cond.code Lib.Math.max.name Lib.Math.max.code 2 (some .int) ∈ fc_tbl := ⟨fc_b6 133 rfl rfl, fc_b4 21 rfl rfl, fc_b1 18 rfl rfl, fc_b4 22 rfl rfl⟩
theorem cf_X11_369 : fc_cfV RX11 369 X11_leave 11 1 := ⟨fc_b6 128 rfl rfl, mf_X11_leave, fc_b6 130 rfl rfl, fc_b0 51 rfl rfl, rfl⟩
theorem cf_X11_372 : fc_cfV RX11 372 X11_move 11 1 := ⟨fc_b6 134 rfl rfl, mf_X11_move, fc_b6 136 rfl rfl, fc_b0 52 rfl rfl, rfl⟩
theorem cf_X11_375 : fc_cfV RX11 375 X11_ride 11 1 := ⟨fc_b6 138 rfl rfl, mf_X11_ride, fc_b6 140 rfl rfl, fc_b0 53 rfl rfl, rfl⟩
theorem cf_X11_378 : fc_cfV RX11 378 X11_step 11 1 := ⟨fc_b6 124 rfl rfl, mf_X11_step, fc_b6 126 rfl rfl, fc_b0 50 rfl rfl, rfl⟩
theorem cf_X11_381 : fc_cfV RX11 381 X11_inWaterOf 11 1 := ⟨fc_b6 146 rfl rfl, mf_X11_inWaterOf, fc_b6 148 rfl rfl, fc_b0 54 rfl rfl, rfl⟩
theorem cf_X11_390 : fc_cfV RX11 390 X11_keepAll 11 0 := ⟨fc_b6 163 rfl rfl, mf_X11_keepAll, fc_b6 165 rfl rfl, fc_b0 57 rfl rfl, rfl⟩
theorem cf_X11_393 : fc_cfV RX11 393 X11_bringBack 11 0 := ⟨fc_b6 167 rfl rfl, mf_X11_bringBack, fc_b6 169 rfl rfl, fc_b0 58 rfl rfl, rfl⟩
theorem cf_X11_398 : fc_cfV RX11 398 X11_takeCalls 11 1 := ⟨fc_b6 154 rfl rfl, mf_X11_takeCalls, fc_b6 156 rfl rfl, fc_b0 55 rfl rfl, rfl⟩
theorem cf_X11_402 : fc_cfV RX11 402 X11_played 11 1 := ⟨fc_b6 159 rfl rfl, mf_X11_played, fc_b6 161 rfl rfl, fc_b0 56 rfl rfl, rfl⟩
theorem cf_X11_405 : fc_cfV RX11 405 X11_mayAsk 11 1 := ⟨fc_b6 175 rfl rfl, mf_X11_mayAsk, fc_b6 177 rfl rfl, fc_b0 59 rfl rfl, rfl⟩
theorem cf_X11_408 : fc_cfS RX11 408 X11_countBits 1 := ⟨fc_b6 179 rfl rfl, mf_X11_countBits, fc_b6 180 rfl rfl⟩
theorem cf_X11_411 : fc_cfV RX11 411 X11_choose 11 3 := ⟨fc_b6 182 rfl rfl, mf_X11_choose, fc_b6 184 rfl rfl, fc_b0 60 rfl rfl, rfl⟩
theorem cf_X11_414 : fc_cfV RX11 414 X11_worst 11 0 := ⟨fc_b6 186 rfl rfl, mf_X11_worst, fc_b6 188 rfl rfl, fc_b0 61 rfl rfl, rfl⟩
theorem cf_X11_418 : fc_cfS RX11 418 X11_sumOf 2 := ⟨fc_b6 198 rfl rfl, mf_X11_sumOf, fc_b6 199 rfl rfl⟩
theorem cf_X11_424 : fc_cfS RX11 424 X11_isSheet 1 := ⟨fc_b6 205 rfl rfl, mf_X11_isSheet, fc_b6 206 rfl rfl⟩
theorem cf_X11_429 : fc_cfS RX11 429 X11_cutTo 2 := ⟨fc_b6 214 rfl rfl, mf_X11_cutTo, fc_b6 215 rfl rfl⟩
theorem cf_X11_436 : fc_cfV RX11 436 X11_news 11 5 := ⟨fc_b6 227 rfl rfl, mf_X11_news, fc_b5 12 rfl rfl, fc_b5 13 rfl rfl, rfl⟩
theorem cf_X2_3 : Cond.methodLink RX2 3 objectInit ∈ fc_tbl ∧ Cond.instanceMethod objectInit ∈ fc_tbl ∧ Cond.code objectInit ⟨#[0xb1]⟩ 1 none ∈ fc_tbl := ⟨fc_b2 142 rfl rfl, fc_b1 27 rfl rfl, fc_b1 28 rfl rfl⟩
theorem cf_X2_36 : fc_cfS RX2 36 J7_fill_53178 2 := ⟨fc_b2 143 rfl rfl, mf_J7_fill_53178, fc_b1 36 rfl rfl⟩
theorem cf_X2_42 : Cond.methodLink RX2 42 arraycopyName ∈ fc_tbl ∧ Cond.native arraycopyName ∈ fc_tbl ∧ Cond.static arraycopyName ∈ fc_tbl ∧ Cond.initialized "java/lang/System" ∈ fc_tbl := ⟨fc_b4 62 rfl rfl, fc_b4 64 rfl rfl, fc_b4 63 rfl rfl, fc_b1 19 rfl rfl⟩
theorem cf_X3_3 : Cond.methodLink RX3 3 objectInit ∈ fc_tbl ∧ Cond.instanceMethod objectInit ∈ fc_tbl ∧ Cond.code objectInit ⟨#[0xb1]⟩ 1 none ∈ fc_tbl := ⟨fc_b2 231 rfl rfl, fc_b1 27 rfl rfl, fc_b1 28 rfl rfl⟩
theorem cf_X3_11 : fc_cfI RX3 11 X2_init 0 := ⟨fc_b2 233 rfl rfl, mf_X2_init, rfl, rfl, fc_b2 140 rfl rfl⟩
theorem cf_X3_43 : fc_cfS RX3 43 J7_fill_53178 2 := ⟨fc_b2 234 rfl rfl, mf_J7_fill_53178, fc_b1 36 rfl rfl⟩
theorem cf_X3_49 : fc_cfV RX3 49 X2_become 2 1 := ⟨fc_b4 58 rfl rfl, mf_X2_become, fc_b4 59 rfl rfl, fc_b4 60 rfl rfl, rfl⟩
theorem cf_X3_65 : fc_cfV RX3 65 X3_settled 3 1 := ⟨fc_b4 65 rfl rfl, mf_X3_settled, fc_b4 67 rfl rfl, fc_b0 20 rfl rfl, rfl⟩
theorem cf_X3_69 : fc_cfV RX3 69 X4_goBy 4 2 := ⟨fc_b4 71 rfl rfl, mf_X4_goBy, fc_b4 10 rfl rfl, fc_b4 11 rfl rfl, rfl⟩
theorem cf_X3_80 : fc_cfV RX3 80 X4_standInWater 4 3 := ⟨fc_b4 72 rfl rfl, mf_X4_standInWater, fc_b4 46 rfl rfl, fc_b4 47 rfl rfl, rfl⟩
theorem cf_X3_84 : fc_cfV RX3 84 X4_isWet 4 3 := ⟨fc_b4 69 rfl rfl, mf_X4_isWet, fc_b3 128 rfl rfl, fc_b3 129 rfl rfl, rfl⟩
theorem cf_X3_88 : Cond.methodLink RX3 88 Lib.Math.max.name ∈ fc_tbl ∧ Cond.static Lib.Math.max.name ∈ fc_tbl ∧ Cond.initialized "java/lang/Math" ∈ fc_tbl ∧ Cond.code Lib.Math.max.name Lib.Math.max.code 2 (some .int) ∈ fc_tbl := ⟨fc_b4 70 rfl rfl, fc_b4 21 rfl rfl, fc_b1 18 rfl rfl, fc_b4 22 rfl rfl⟩
theorem cf_X3_95 : fc_cfV RX3 95 X3_plan 3 2 := ⟨fc_b4 88 rfl rfl, mf_X3_plan, fc_b4 90 rfl rfl, fc_b0 21 rfl rfl, rfl⟩
theorem cf_X3_98 : fc_cfV RX3 98 X3_worst 3 1 := ⟨fc_b4 92 rfl rfl, mf_X3_worst, fc_b4 94 rfl rfl, fc_b0 22 rfl rfl, rfl⟩
theorem cf_X3_101 : Cond.methodLink RX3 101 arraycopyName ∈ fc_tbl ∧ Cond.native arraycopyName ∈ fc_tbl ∧ Cond.static arraycopyName ∈ fc_tbl ∧ Cond.initialized "java/lang/System" ∈ fc_tbl := ⟨fc_b4 97 rfl rfl, fc_b4 64 rfl rfl, fc_b4 63 rfl rfl, fc_b1 19 rfl rfl⟩
theorem cf_X3_111 : fc_cfV RX3 111 X3_foreseen 3 1 := ⟨fc_b4 96 rfl rfl, mf_X3_foreseen, fc_b4 55 rfl rfl, fc_b4 56 rfl rfl, rfl⟩
theorem cf_X4_3 : Cond.methodLink RX4 3 objectInit ∈ fc_tbl ∧ Cond.instanceMethod objectInit ∈ fc_tbl ∧ Cond.code objectInit ⟨#[0xb1]⟩ 1 none ∈ fc_tbl := ⟨fc_b2 202 rfl rfl, fc_b1 27 rfl rfl, fc_b1 28 rfl rfl⟩
theorem cf_X4_57 : fc_cfV RX4 57 X4_isWet 4 3 := ⟨fc_b3 143 rfl rfl, mf_X4_isWet, fc_b3 128 rfl rfl, fc_b3 129 rfl rfl, rfl⟩
theorem cf_X4_64 : fc_cfV RX4 64 X6_canTake 6 3 := ⟨fc_b3 144 rfl rfl, mf_X6_canTake, fc_b3 145 rfl rfl, fc_b3 146 rfl rfl, rfl⟩
theorem cf_X4_83 : fc_cfV RX4 83 X2_isCalled 2 1 := ⟨fc_b3 218 rfl rfl, mf_X2_isCalled, fc_b3 219 rfl rfl, fc_b3 220 rfl rfl, rfl⟩
theorem cf_X4_93 : fc_cfV RX4 93 X4_setOut 4 2 := ⟨fc_b4 13 rfl rfl, mf_X4_setOut, fc_b4 15 rfl rfl, fc_b0 15 rfl rfl, rfl⟩
theorem cf_X4_97 : fc_cfV RX4 97 X4_chooseMoving 4 2 := ⟨fc_b4 23 rfl rfl, mf_X4_chooseMoving, fc_b4 25 rfl rfl, fc_b0 16 rfl rfl, rfl⟩
theorem cf_X4_100 : fc_cfV RX4 100 X4_move 4 1 := ⟨fc_b4 29 rfl rfl, mf_X4_move, fc_b4 31 rfl rfl, fc_b0 17 rfl rfl, rfl⟩
theorem cf_X4_104 : fc_cfV RX4 104 X4_board 4 2 := ⟨fc_b4 33 rfl rfl, mf_X4_board, fc_b4 35 rfl rfl, fc_b0 18 rfl rfl, rfl⟩
theorem cf_X4_107 : fc_cfV RX4 107 X4_freeBuses 4 1 := ⟨fc_b4 37 rfl rfl, mf_X4_freeBuses, fc_b4 39 rfl rfl, fc_b0 19 rfl rfl, rfl⟩
theorem cf_X4_110 : fc_cfV RX4 110 X4_gather 4 3 := ⟨fc_b4 17 rfl rfl, mf_X4_gather, fc_b3 215 rfl rfl, fc_b3 216 rfl rfl, rfl⟩
theorem cf_X4_114 : fc_cfV RX4 114 X0_worth 0 2 := ⟨fc_b4 18 rfl rfl, mf_X0_worth, fc_b3 223 rfl rfl, fc_b3 224 rfl rfl, rfl⟩
theorem cf_X4_120 : Cond.methodLink RX4 120 Lib.Math.min.name ∈ fc_tbl ∧ Cond.static Lib.Math.min.name ∈ fc_tbl ∧ Cond.initialized "java/lang/Math" ∈ fc_tbl ∧ Cond.code Lib.Math.min.name Lib.Math.min.code 2 (some .int) ∈ fc_tbl := ⟨fc_b4 19 rfl rfl, fc_b4 2 rfl rfl, fc_b1 18 rfl rfl, fc_b4 3 rfl rfl⟩
theorem cf_X4_126 : Cond.methodLink RX4 126 Lib.Math.max.name ∈ fc_tbl ∧ Cond.static Lib.Math.max.name ∈ fc_tbl ∧ Cond.initialized "java/lang/Math" ∈ fc_tbl ∧ Cond.code Lib.Math.max.name Lib.Math.max.code 2 (some .int) ∈ fc_tbl := ⟨fc_b4 20 rfl rfl, fc_b4 21 rfl rfl, fc_b1 18 rfl rfl, fc_b4 22 rfl rfl⟩
theorem cf_X4_135 : fc_cfV RX4 135 X4_openFlow 4 3 := ⟨fc_b4 27 rfl rfl, mf_X4_openFlow, fc_b3 140 rfl rfl, fc_b3 141 rfl rfl, rfl⟩
theorem cf_X4_138 : fc_cfSN RX4 138 X10_isOutside "FloodCity" 3 := ⟨List.mem_of_getElem? (i := 5) rfl, mf_X10_isOutside, fc_b3 76 rfl rfl⟩
theorem cf_X5_5 : Cond.methodLink RX5 5 objectInit ∈ fc_tbl ∧ Cond.instanceMethod objectInit ∈ fc_tbl ∧ Cond.code objectInit ⟨#[0xb1]⟩ 1 none ∈ fc_tbl := ⟨fc_b1 185 rfl rfl, fc_b1 27 rfl rfl, fc_b1 28 rfl rfl⟩
theorem cf_X5_32 : fc_cfV RX5 32 X5_nextToken 5 0 := ⟨fc_b2 72 rfl rfl, mf_X5_nextToken, fc_b2 74 rfl rfl, fc_b0 0 rfl rfl, rfl⟩
theorem cf_X5_35 : fc_cfV RX5 35 X5_expect 5 1 := ⟨fc_b2 110 rfl rfl, mf_X5_expect, fc_b2 112 rfl rfl, fc_b0 4 rfl rfl, rfl⟩
theorem cf_X5_39 : fc_cfV RX5 39 X5_readLevel 5 2 := ⟨fc_b2 118 rfl rfl, mf_X5_readLevel, fc_b2 120 rfl rfl, fc_b0 6 rfl rfl, rfl⟩
theorem cf_X5_49 : fc_cfV RX5 49 X5_fail 5 0 := ⟨fc_b2 114 rfl rfl, mf_X5_fail, fc_b2 116 rfl rfl, fc_b0 5 rfl rfl, rfl⟩
theorem cf_X5_55 : fc_cfV RX5 55 X5_readOpened 5 2 := ⟨fc_b2 122 rfl rfl, mf_X5_readOpened, fc_b2 124 rfl rfl, fc_b0 7 rfl rfl, rfl⟩
theorem cf_X5_58 : fc_cfV RX5 58 X5_readLeaf 5 0 := ⟨fc_b2 130 rfl rfl, mf_X5_readLeaf, fc_b2 132 rfl rfl, fc_b0 9 rfl rfl, rfl⟩
theorem cf_X5_61 : fc_cfS RX5 61 X5_joinLevel 1 := ⟨fc_b2 134 rfl rfl, mf_X5_joinLevel, fc_b2 135 rfl rfl⟩
theorem cf_X5_65 : fc_cfV RX5 65 X5_put 5 1 := ⟨fc_b2 126 rfl rfl, mf_X5_put, fc_b2 128 rfl rfl, fc_b0 8 rfl rfl, rfl⟩
theorem cf_X5_71 : fc_cfS RX5 71 X5_isLetter 1 := ⟨fc_b2 76 rfl rfl, mf_X5_isLetter, fc_b2 77 rfl rfl⟩
theorem cf_X5_75 : fc_cfV RX5 75 X5_takeWord 5 0 := ⟨fc_b2 79 rfl rfl, mf_X5_takeWord, fc_b2 81 rfl rfl, fc_b0 1 rfl rfl, rfl⟩
theorem cf_X5_78 : fc_cfS RX5 78 X5_isDigit 1 := ⟨fc_b2 100 rfl rfl, mf_X5_isDigit, fc_b2 101 rfl rfl⟩
theorem cf_X5_81 : fc_cfV RX5 81 X5_takeNumber 5 0 := ⟨fc_b2 103 rfl rfl, mf_X5_takeNumber, fc_b2 105 rfl rfl, fc_b0 3 rfl rfl, rfl⟩
theorem cf_X5_84 : fc_cfS RX5 84 X5_isSign 1 := ⟨fc_b2 107 rfl rfl, mf_X5_isSign, fc_b2 108 rfl rfl⟩
theorem cf_X5_89 : fc_cfV RX5 89 X5_spells 5 1 := ⟨fc_b2 84 rfl rfl, mf_X5_spells, fc_b2 86 rfl rfl, fc_b0 2 rfl rfl, rfl⟩
theorem cf_X5_113 : fc_cfVS RX5 113 J0_length_8abf5 0 := ⟨fc_b2 88 rfl rfl, mf_J0_length_8abf5, fc_b2 17 rfl rfl, fc_b2 18 rfl rfl, rfl⟩
theorem cf_X5_118 : fc_cfVS RX5 118 J0_charAt_5068e 1 := ⟨fc_b2 89 rfl rfl, mf_J0_charAt_5068e, fc_b2 27 rfl rfl, fc_b2 28 rfl rfl, rfl⟩
theorem cf_X6_3 : Cond.methodLink RX6 3 objectInit ∈ fc_tbl ∧ Cond.instanceMethod objectInit ∈ fc_tbl ∧ Cond.code objectInit ⟨#[0xb1]⟩ 1 none ∈ fc_tbl := ⟨fc_b1 63 rfl rfl, fc_b1 27 rfl rfl, fc_b1 28 rfl rfl⟩
theorem cf_X7_3 : Cond.methodLink RX7 3 objectInit ∈ fc_tbl ∧ Cond.instanceMethod objectInit ∈ fc_tbl ∧ Cond.code objectInit ⟨#[0xb1]⟩ 1 none ∈ fc_tbl := ⟨fc_b3 27 rfl rfl, fc_b1 27 rfl rfl, fc_b1 28 rfl rfl⟩
theorem cf_X7_23 : fc_cfS RX7 23 J7_fill_53178 2 := ⟨fc_b3 29 rfl rfl, mf_J7_fill_53178, fc_b1 36 rfl rfl⟩
theorem cf_X8_3 : Cond.methodLink RX8 3 objectInit ∈ fc_tbl ∧ Cond.instanceMethod objectInit ∈ fc_tbl ∧ Cond.code objectInit ⟨#[0xb1]⟩ 1 none ∈ fc_tbl := ⟨fc_b1 125 rfl rfl, fc_b1 27 rfl rfl, fc_b1 28 rfl rfl⟩
theorem cf_X8_46 : fc_cfSN RX8 46 X10_isNoTrack "FloodCity" 1 := ⟨List.mem_of_getElem? (i := 3) rfl, mf_X10_isNoTrack, fc_b3 161 rfl rfl⟩
theorem cf_X8_50 : fc_cfSN RX8 50 X10_isOutside "FloodCity" 3 := ⟨List.mem_of_getElem? (i := 4) rfl, mf_X10_isOutside, fc_b3 76 rfl rfl⟩
theorem cf_X8_57 : fc_cfV RX8 57 X8_teller 8 3 := ⟨fc_b3 185 rfl rfl, mf_X8_teller, fc_b3 187 rfl rfl, fc_b0 14 rfl rfl, rfl⟩
theorem cf_X8_61 : Cond.methodLink RX8 61 Lib.Math.min.name ∈ fc_tbl ∧ Cond.static Lib.Math.min.name ∈ fc_tbl ∧ Cond.initialized "java/lang/Math" ∈ fc_tbl ∧ Cond.code Lib.Math.min.name Lib.Math.min.code 2 (some .int) ∈ fc_tbl := ⟨fc_b4 1 rfl rfl, fc_b4 2 rfl rfl, fc_b1 18 rfl rfl, fc_b4 3 rfl rfl⟩
theorem cf_X8_67 : fc_cfV RX8 67 X8_waterKnown 8 3 := ⟨fc_b4 4 rfl rfl, mf_X8_waterKnown, fc_b3 182 rfl rfl, fc_b3 183 rfl rfl, rfl⟩
theorem cf_X9_3 : Cond.methodLink RX9 3 objectInit ∈ fc_tbl ∧ Cond.instanceMethod objectInit ∈ fc_tbl ∧ Cond.code objectInit ⟨#[0xb1]⟩ 1 none ∈ fc_tbl := ⟨fc_b1 34 rfl rfl, fc_b1 27 rfl rfl, fc_b1 28 rfl rfl⟩
theorem cf_X9_18 : fc_cfS RX9 18 J7_fill_53178 2 := ⟨fc_b1 35 rfl rfl, mf_J7_fill_53178, fc_b1 36 rfl rfl⟩
theorem kc_X10_90 : Cond.constant RX10 90 (99999 : Int32) ∈ fc_tbl := fc_b3 78 rfl rfl
theorem kc_X10_209 : Cond.constantLong RX10 209 (-4611686018427387904 : Int64) ∈ fc_tbl := fc_b3 213 rfl rfl
theorem kc_X10_234 : Cond.constantLong RX10 234 (100 : Int64) ∈ fc_tbl := fc_b4 53 rfl rfl
theorem kc_J6_265 : Cond.constant RJ6 265 (1431655765 : Int32) ∈ fc_tbl := fc_b4 80 rfl rfl
theorem kc_J6_266 : Cond.constant RJ6 266 (858993459 : Int32) ∈ fc_tbl := fc_b4 81 rfl rfl
theorem kc_J6_267 : Cond.constant RJ6 267 (252645135 : Int32) ∈ fc_tbl := fc_b4 82 rfl rfl
theorem kc_X3_94 : Cond.constant RX3 94 (1000000 : Int32) ∈ fc_tbl := fc_b4 87 rfl rfl
theorem kc_X11_16 : Cond.constantLong RX11 16 (99 : Int64) ∈ fc_tbl := fc_b4 155 rfl rfl
theorem kc_X11_22 : Cond.constantLong RX11 22 (99999 : Int64) ∈ fc_tbl := fc_b4 159 rfl rfl
theorem kc_X11_24 : Cond.constantLong RX11 24 (999 : Int64) ∈ fc_tbl := fc_b4 160 rfl rfl
theorem kc_X11_49 : Cond.constantLong RX11 49 (5 : Int64) ∈ fc_tbl := fc_b4 169 rfl rfl
theorem kc_X11_54 : Cond.constantLong RX11 54 (9999 : Int64) ∈ fc_tbl := fc_b4 183 rfl rfl
theorem kc_X11_77 : Cond.constantLong RX11 77 (9 : Int64) ∈ fc_tbl := fc_b4 200 rfl rfl
theorem kc_X11_91 : Cond.constantLong RX11 91 (6 : Int64) ∈ fc_tbl := fc_b4 205 rfl rfl
theorem kc_X11_123 : Cond.constantLong RX11 123 (2 : Int64) ∈ fc_tbl := fc_b4 234 rfl rfl
theorem kc_X11_134 : Cond.constantLong RX11 134 (60 : Int64) ∈ fc_tbl := fc_b4 239 rfl rfl
theorem kc_X11_145 : Cond.constantLong RX11 145 (61 : Int64) ∈ fc_tbl := fc_b5 15 rfl rfl
theorem kc_X11_175 : Cond.constantLong RX11 175 (8 : Int64) ∈ fc_tbl := fc_b5 28 rfl rfl
theorem kc_X11_302 : Cond.constantLong RX11 302 (-4611686018427387904 : Int64) ∈ fc_tbl := fc_b5 115 rfl rfl
theorem kc_X11_396 : Cond.constantLong RX11 396 (100 : Int64) ∈ fc_tbl := fc_b6 158 rfl rfl
theorem kc_X11_422 : Cond.constantLong RX11 422 (3 : Int64) ∈ fc_tbl := fc_b6 208 rfl rfl
theorem kc_X11_427 : Cond.constantLong RX11 427 (-1 : Int64) ∈ fc_tbl := fc_b6 209 rfl rfl
theorem kc_X11_432 : Cond.constantLong RX11 432 (10 : Int64) ∈ fc_tbl := fc_b6 225 rfl rfl
theorem kc_X11_434 : Cond.constantLong RX11 434 (4 : Int64) ∈ fc_tbl := fc_b6 226 rfl rfl
theorem kc_L_78 : Cond.constantLong RL 78 (4294967295 : Int64) ∈ fc_tbl := fc_b6 232 rfl rfl
theorem ac_I : Cond.arrayClass .int ∈ fc_tbl := fc_b1 57 rfl rfl
theorem ac_B : Cond.arrayClass .byte ∈ fc_tbl := fc_b1 219 rfl rfl
theorem ac_Z : Cond.arrayClass .boolean ∈ fc_tbl := fc_b1 172 rfl rfl
theorem ac_C : Cond.arrayClass .char ∈ fc_tbl := fc_b6 107 rfl rfl
def fc_SH : fc_Sh := [(20, 9), (19, 4), (0, 6), (0, 6), (16, 6), (0, 14), (0, 14), (0, 14), (0, 14), (0, 14), (11, 5), (0, 4), (0, 4), (0, 4), (0, 4), (18, 12), (2, 3), (4, 3), (0, 61), (0, 61), (0, 61), (4, 3), (0, 61), (0, 61), (0, 61), (0, 40), (0, 40), (0, 40), (0, 40), (0, 40), (0, 40), (10, 9), (1, 160), (4, 6), (0, 160), (0, 160), (0, 160), (0, 160), (0, 160), (0, 160), (0, 6), (0, 6), (0, 160), (15, 10), (0, 0), (12, 10), (0, 6), (0, 6), (0, 6), (0, 6), (0, 3), (0, 3), (0, 4), (0, 4), (14, 7), (0, 6), (0, 14), (13, 8), (12, 10), (0, 6), (0, 6), (0, 6), (0, 6), (0, 3), (0, 3), (0, 4), (0, 4), (0, 6), (0, 6), (0, 4), (17, 3), (4, 4), (0, 40), (0, 40), (0, 40), (0, 40), (0, 4), (0, 4), (21, 75), (0, 6), (0, 6), (0, 6), (0, 6), (0, 6), (0, 6), (0, 3), (0, 3), (0, 3), (0, 14), (0, 14), (0, 14), (0, 14), (0, 14), (0, 4), (0, 4), (0, 4), (0, 4), (0, 4), (0, 4), (0, 3), (0, 40), (0, 40), (0, 40), (0, 40), (0, 40), (0, 40), (0, 183), (0, 183), (1, 160), (0, 1920), (0, 12), (3, 44), (0, 12), (0, 170), (2, 8), (0, 170), (0, 6), (0, 6), (0, 6), (0, 6), (0, 6), (0, 3), (0, 3), (0, 4), (0, 4), (0, 6), (0, 6), (0, 4), (0, 4), (0, 160), (0, 40)]
/-- the references of the world; v: where the reader's codes are -/
def fc_PT (v : Nat) : fc_P := fun c k => match c with
  | 0 => ([some 1, some 4, some 10, some 15, some 31, some 45, some 54, some 57, some 70] : List (Option Nat)).getD k none
  | 1 => ([some 2, some 3, none, none] : List (Option Nat)).getD k none
  | 4 => ([some 5, some 6, some 7, some 8, some 9, none] : List (Option Nat)).getD k none
  | 10 => ([some 11, some 12, some 13, some 14, none] : List (Option Nat)).getD k none
  | 15 => ([some 16, some 17, some 21, some 25, some 26, some 27, some 28, some 29, some 30, none, none, none] : List (Option Nat)).getD k none
  | 17 => ([some 18, some 19, some 20] : List (Option Nat)).getD k none
  | 21 => ([some 22, some 23, some 24] : List (Option Nat)).getD k none
  | 31 => ([some 32, some 33, some 40, some 41, some 42, some 43, none, none, none] : List (Option Nat)).getD k none
  | 33 => ([some 34, some 35, some 36, some 37, some 38, some 39] : List (Option Nat)).getD k none
  | 43 => ([some 32, some v, none, none, none, none, none, none, none, none] : List (Option Nat)).getD k none
  | 45 => ([some 46, some 47, some 48, some 49, some 50, some 51, some 52, some 53, none, none] : List (Option Nat)).getD k none
  | 54 => ([some 1, some 4, some 10, some 15, some 31, some 55, some 56] : List (Option Nat)).getD k none
  | 57 => ([some 1, some 15, some 45, some 54, some 58, some 67, some 68, some 69] : List (Option Nat)).getD k none
  | 58 => ([some 59, some 60, some 61, some 62, some 63, some 64, some 65, some 66, none, none] : List (Option Nat)).getD k none
  | 70 => ([some 71, some 76, some 77] : List (Option Nat)).getD k none
  | 71 => ([some 72, some 73, some 74, some 75] : List (Option Nat)).getD k none
  | 78 => ([none, none, none, some 79, some 80, some 81, some 82, some 83, some 84, none, some 85, some 86, some 87, none, some 88, some 89, some 90, some 91, some 92, none, some 93, some 94, some 95, some 96, some 97, some 98, none, some 99, none, none, some 100, some 101, some 102, some 103, some 104, some 105, some 106, some 107, some 108, none, none, none, some 109, some 110, none, none, none, none, some 111, some 112, some 113, none, none, none, some 114, none, none, some 115, some 116, some 117, some 118, some 119, some 120, some 121, some 122, some 123, some 124, none, none, some 125, some 126, some 127, some 128, some 129, some 130] : List (Option Nat)).getD k none
  | _ => none
theorem sh_0 : fc_SH[0]? = some (20, 9) := rfl
theorem sh_1 : fc_SH[1]? = some (19, 4) := rfl
theorem sh_2 : fc_SH[2]? = some (0, 6) := rfl
theorem sh_3 : fc_SH[3]? = some (0, 6) := rfl
theorem sh_4 : fc_SH[4]? = some (16, 6) := rfl
theorem sh_5 : fc_SH[5]? = some (0, 14) := rfl
theorem sh_6 : fc_SH[6]? = some (0, 14) := rfl
theorem sh_7 : fc_SH[7]? = some (0, 14) := rfl
theorem sh_8 : fc_SH[8]? = some (0, 14) := rfl
theorem sh_9 : fc_SH[9]? = some (0, 14) := rfl
theorem sh_10 : fc_SH[10]? = some (11, 5) := rfl
theorem sh_11 : fc_SH[11]? = some (0, 4) := rfl
theorem sh_12 : fc_SH[12]? = some (0, 4) := rfl
theorem sh_13 : fc_SH[13]? = some (0, 4) := rfl
theorem sh_14 : fc_SH[14]? = some (0, 4) := rfl
theorem sh_15 : fc_SH[15]? = some (18, 12) := rfl
theorem sh_16 : fc_SH[16]? = some (2, 3) := rfl
theorem sh_17 : fc_SH[17]? = some (4, 3) := rfl
theorem sh_18 : fc_SH[18]? = some (0, 61) := rfl
theorem sh_19 : fc_SH[19]? = some (0, 61) := rfl
theorem sh_20 : fc_SH[20]? = some (0, 61) := rfl
theorem sh_21 : fc_SH[21]? = some (4, 3) := rfl
theorem sh_22 : fc_SH[22]? = some (0, 61) := rfl
theorem sh_23 : fc_SH[23]? = some (0, 61) := rfl
theorem sh_24 : fc_SH[24]? = some (0, 61) := rfl
theorem sh_25 : fc_SH[25]? = some (0, 40) := rfl
theorem sh_26 : fc_SH[26]? = some (0, 40) := rfl
theorem sh_27 : fc_SH[27]? = some (0, 40) := rfl
theorem sh_28 : fc_SH[28]? = some (0, 40) := rfl
theorem sh_29 : fc_SH[29]? = some (0, 40) := rfl
theorem sh_30 : fc_SH[30]? = some (0, 40) := rfl
theorem sh_31 : fc_SH[31]? = some (10, 9) := rfl
theorem sh_32 : fc_SH[32]? = some (1, 160) := rfl
theorem sh_33 : fc_SH[33]? = some (4, 6) := rfl
theorem sh_34 : fc_SH[34]? = some (0, 160) := rfl
theorem sh_35 : fc_SH[35]? = some (0, 160) := rfl
theorem sh_36 : fc_SH[36]? = some (0, 160) := rfl
theorem sh_37 : fc_SH[37]? = some (0, 160) := rfl
theorem sh_38 : fc_SH[38]? = some (0, 160) := rfl
theorem sh_39 : fc_SH[39]? = some (0, 160) := rfl
theorem sh_40 : fc_SH[40]? = some (0, 6) := rfl
theorem sh_41 : fc_SH[41]? = some (0, 6) := rfl
theorem sh_42 : fc_SH[42]? = some (0, 160) := rfl
theorem sh_43 : fc_SH[43]? = some (15, 10) := rfl
theorem sh_44 : fc_SH[44]? = some (0, 0) := rfl
theorem sh_45 : fc_SH[45]? = some (12, 10) := rfl
theorem sh_46 : fc_SH[46]? = some (0, 6) := rfl
theorem sh_47 : fc_SH[47]? = some (0, 6) := rfl
theorem sh_48 : fc_SH[48]? = some (0, 6) := rfl
theorem sh_49 : fc_SH[49]? = some (0, 6) := rfl
theorem sh_50 : fc_SH[50]? = some (0, 3) := rfl
theorem sh_51 : fc_SH[51]? = some (0, 3) := rfl
theorem sh_52 : fc_SH[52]? = some (0, 4) := rfl
theorem sh_53 : fc_SH[53]? = some (0, 4) := rfl
theorem sh_54 : fc_SH[54]? = some (14, 7) := rfl
theorem sh_55 : fc_SH[55]? = some (0, 6) := rfl
theorem sh_56 : fc_SH[56]? = some (0, 14) := rfl
theorem sh_57 : fc_SH[57]? = some (13, 8) := rfl
theorem sh_58 : fc_SH[58]? = some (12, 10) := rfl
theorem sh_59 : fc_SH[59]? = some (0, 6) := rfl
theorem sh_60 : fc_SH[60]? = some (0, 6) := rfl
theorem sh_61 : fc_SH[61]? = some (0, 6) := rfl
theorem sh_62 : fc_SH[62]? = some (0, 6) := rfl
theorem sh_63 : fc_SH[63]? = some (0, 3) := rfl
theorem sh_64 : fc_SH[64]? = some (0, 3) := rfl
theorem sh_65 : fc_SH[65]? = some (0, 4) := rfl
theorem sh_66 : fc_SH[66]? = some (0, 4) := rfl
theorem sh_67 : fc_SH[67]? = some (0, 6) := rfl
theorem sh_68 : fc_SH[68]? = some (0, 6) := rfl
theorem sh_69 : fc_SH[69]? = some (0, 4) := rfl
theorem sh_70 : fc_SH[70]? = some (17, 3) := rfl
theorem sh_71 : fc_SH[71]? = some (4, 4) := rfl
theorem sh_72 : fc_SH[72]? = some (0, 40) := rfl
theorem sh_73 : fc_SH[73]? = some (0, 40) := rfl
theorem sh_74 : fc_SH[74]? = some (0, 40) := rfl
theorem sh_75 : fc_SH[75]? = some (0, 40) := rfl
theorem sh_76 : fc_SH[76]? = some (0, 4) := rfl
theorem sh_77 : fc_SH[77]? = some (0, 4) := rfl
theorem sh_78 : fc_SH[78]? = some (21, 75) := rfl
theorem sh_79 : fc_SH[79]? = some (0, 6) := rfl
theorem sh_80 : fc_SH[80]? = some (0, 6) := rfl
theorem sh_81 : fc_SH[81]? = some (0, 6) := rfl
theorem sh_82 : fc_SH[82]? = some (0, 6) := rfl
theorem sh_83 : fc_SH[83]? = some (0, 6) := rfl
theorem sh_84 : fc_SH[84]? = some (0, 6) := rfl
theorem sh_85 : fc_SH[85]? = some (0, 3) := rfl
theorem sh_86 : fc_SH[86]? = some (0, 3) := rfl
theorem sh_87 : fc_SH[87]? = some (0, 3) := rfl
theorem sh_88 : fc_SH[88]? = some (0, 14) := rfl
theorem sh_89 : fc_SH[89]? = some (0, 14) := rfl
theorem sh_90 : fc_SH[90]? = some (0, 14) := rfl
theorem sh_91 : fc_SH[91]? = some (0, 14) := rfl
theorem sh_92 : fc_SH[92]? = some (0, 14) := rfl
theorem sh_93 : fc_SH[93]? = some (0, 4) := rfl
theorem sh_94 : fc_SH[94]? = some (0, 4) := rfl
theorem sh_95 : fc_SH[95]? = some (0, 4) := rfl
theorem sh_96 : fc_SH[96]? = some (0, 4) := rfl
theorem sh_97 : fc_SH[97]? = some (0, 4) := rfl
theorem sh_98 : fc_SH[98]? = some (0, 4) := rfl
theorem sh_99 : fc_SH[99]? = some (0, 3) := rfl
theorem sh_100 : fc_SH[100]? = some (0, 40) := rfl
theorem sh_101 : fc_SH[101]? = some (0, 40) := rfl
theorem sh_102 : fc_SH[102]? = some (0, 40) := rfl
theorem sh_103 : fc_SH[103]? = some (0, 40) := rfl
theorem sh_104 : fc_SH[104]? = some (0, 40) := rfl
theorem sh_105 : fc_SH[105]? = some (0, 40) := rfl
theorem sh_106 : fc_SH[106]? = some (0, 183) := rfl
theorem sh_107 : fc_SH[107]? = some (0, 183) := rfl
theorem sh_108 : fc_SH[108]? = some (1, 160) := rfl
theorem sh_109 : fc_SH[109]? = some (0, 1920) := rfl
theorem sh_110 : fc_SH[110]? = some (0, 12) := rfl
theorem sh_111 : fc_SH[111]? = some (3, 44) := rfl
theorem sh_112 : fc_SH[112]? = some (0, 12) := rfl
theorem sh_113 : fc_SH[113]? = some (0, 170) := rfl
theorem sh_114 : fc_SH[114]? = some (2, 8) := rfl
theorem sh_115 : fc_SH[115]? = some (0, 170) := rfl
theorem sh_116 : fc_SH[116]? = some (0, 6) := rfl
theorem sh_117 : fc_SH[117]? = some (0, 6) := rfl
theorem sh_118 : fc_SH[118]? = some (0, 6) := rfl
theorem sh_119 : fc_SH[119]? = some (0, 6) := rfl
theorem sh_120 : fc_SH[120]? = some (0, 6) := rfl
theorem sh_121 : fc_SH[121]? = some (0, 3) := rfl
theorem sh_122 : fc_SH[122]? = some (0, 3) := rfl
theorem sh_123 : fc_SH[123]? = some (0, 4) := rfl
theorem sh_124 : fc_SH[124]? = some (0, 4) := rfl
theorem sh_125 : fc_SH[125]? = some (0, 6) := rfl
theorem sh_126 : fc_SH[126]? = some (0, 6) := rfl
theorem sh_127 : fc_SH[127]? = some (0, 4) := rfl
theorem sh_128 : fc_SH[128]? = some (0, 4) := rfl
theorem sh_129 : fc_SH[129]? = some (0, 160) := rfl
theorem sh_130 : fc_SH[130]? = some (0, 40) := rfl
theorem pt_0_0 {v : Nat} : fc_PT v 0 0 = some 1 := rfl
theorem pt_0_1 {v : Nat} : fc_PT v 0 1 = some 4 := rfl
theorem pt_0_2 {v : Nat} : fc_PT v 0 2 = some 10 := rfl
theorem pt_0_3 {v : Nat} : fc_PT v 0 3 = some 15 := rfl
theorem pt_0_4 {v : Nat} : fc_PT v 0 4 = some 31 := rfl
theorem pt_0_5 {v : Nat} : fc_PT v 0 5 = some 45 := rfl
theorem pt_0_6 {v : Nat} : fc_PT v 0 6 = some 54 := rfl
theorem pt_0_7 {v : Nat} : fc_PT v 0 7 = some 57 := rfl
theorem pt_0_8 {v : Nat} : fc_PT v 0 8 = some 70 := rfl
theorem pt_1_0 {v : Nat} : fc_PT v 1 0 = some 2 := rfl
theorem pt_1_1 {v : Nat} : fc_PT v 1 1 = some 3 := rfl
theorem pt_4_0 {v : Nat} : fc_PT v 4 0 = some 5 := rfl
theorem pt_4_1 {v : Nat} : fc_PT v 4 1 = some 6 := rfl
theorem pt_4_2 {v : Nat} : fc_PT v 4 2 = some 7 := rfl
theorem pt_4_3 {v : Nat} : fc_PT v 4 3 = some 8 := rfl
theorem pt_4_4 {v : Nat} : fc_PT v 4 4 = some 9 := rfl
theorem pt_10_0 {v : Nat} : fc_PT v 10 0 = some 11 := rfl
theorem pt_10_1 {v : Nat} : fc_PT v 10 1 = some 12 := rfl
theorem pt_10_2 {v : Nat} : fc_PT v 10 2 = some 13 := rfl
theorem pt_10_3 {v : Nat} : fc_PT v 10 3 = some 14 := rfl
theorem pt_15_0 {v : Nat} : fc_PT v 15 0 = some 16 := rfl
theorem pt_15_1 {v : Nat} : fc_PT v 15 1 = some 17 := rfl
theorem pt_15_2 {v : Nat} : fc_PT v 15 2 = some 21 := rfl
theorem pt_15_3 {v : Nat} : fc_PT v 15 3 = some 25 := rfl
theorem pt_15_4 {v : Nat} : fc_PT v 15 4 = some 26 := rfl
theorem pt_15_5 {v : Nat} : fc_PT v 15 5 = some 27 := rfl
theorem pt_15_6 {v : Nat} : fc_PT v 15 6 = some 28 := rfl
theorem pt_15_7 {v : Nat} : fc_PT v 15 7 = some 29 := rfl
theorem pt_15_8 {v : Nat} : fc_PT v 15 8 = some 30 := rfl
theorem pt_17_0 {v : Nat} : fc_PT v 17 0 = some 18 := rfl
theorem pt_17_1 {v : Nat} : fc_PT v 17 1 = some 19 := rfl
theorem pt_17_2 {v : Nat} : fc_PT v 17 2 = some 20 := rfl
theorem pt_21_0 {v : Nat} : fc_PT v 21 0 = some 22 := rfl
theorem pt_21_1 {v : Nat} : fc_PT v 21 1 = some 23 := rfl
theorem pt_21_2 {v : Nat} : fc_PT v 21 2 = some 24 := rfl
theorem pt_31_0 {v : Nat} : fc_PT v 31 0 = some 32 := rfl
theorem pt_31_1 {v : Nat} : fc_PT v 31 1 = some 33 := rfl
theorem pt_31_2 {v : Nat} : fc_PT v 31 2 = some 40 := rfl
theorem pt_31_3 {v : Nat} : fc_PT v 31 3 = some 41 := rfl
theorem pt_31_4 {v : Nat} : fc_PT v 31 4 = some 42 := rfl
theorem pt_31_5 {v : Nat} : fc_PT v 31 5 = some 43 := rfl
theorem pt_33_0 {v : Nat} : fc_PT v 33 0 = some 34 := rfl
theorem pt_33_1 {v : Nat} : fc_PT v 33 1 = some 35 := rfl
theorem pt_33_2 {v : Nat} : fc_PT v 33 2 = some 36 := rfl
theorem pt_33_3 {v : Nat} : fc_PT v 33 3 = some 37 := rfl
theorem pt_33_4 {v : Nat} : fc_PT v 33 4 = some 38 := rfl
theorem pt_33_5 {v : Nat} : fc_PT v 33 5 = some 39 := rfl
theorem pt_43_0 {v : Nat} : fc_PT v 43 0 = some 32 := rfl
theorem pt_43_1 {v : Nat} : fc_PT v 43 1 = some v := rfl
theorem pt_45_0 {v : Nat} : fc_PT v 45 0 = some 46 := rfl
theorem pt_45_1 {v : Nat} : fc_PT v 45 1 = some 47 := rfl
theorem pt_45_2 {v : Nat} : fc_PT v 45 2 = some 48 := rfl
theorem pt_45_3 {v : Nat} : fc_PT v 45 3 = some 49 := rfl
theorem pt_45_4 {v : Nat} : fc_PT v 45 4 = some 50 := rfl
theorem pt_45_5 {v : Nat} : fc_PT v 45 5 = some 51 := rfl
theorem pt_45_6 {v : Nat} : fc_PT v 45 6 = some 52 := rfl
theorem pt_45_7 {v : Nat} : fc_PT v 45 7 = some 53 := rfl
theorem pt_54_0 {v : Nat} : fc_PT v 54 0 = some 1 := rfl
theorem pt_54_1 {v : Nat} : fc_PT v 54 1 = some 4 := rfl
theorem pt_54_2 {v : Nat} : fc_PT v 54 2 = some 10 := rfl
theorem pt_54_3 {v : Nat} : fc_PT v 54 3 = some 15 := rfl
theorem pt_54_4 {v : Nat} : fc_PT v 54 4 = some 31 := rfl
theorem pt_54_5 {v : Nat} : fc_PT v 54 5 = some 55 := rfl
theorem pt_54_6 {v : Nat} : fc_PT v 54 6 = some 56 := rfl
theorem pt_57_0 {v : Nat} : fc_PT v 57 0 = some 1 := rfl
theorem pt_57_1 {v : Nat} : fc_PT v 57 1 = some 15 := rfl
theorem pt_57_2 {v : Nat} : fc_PT v 57 2 = some 45 := rfl
theorem pt_57_3 {v : Nat} : fc_PT v 57 3 = some 54 := rfl
theorem pt_57_4 {v : Nat} : fc_PT v 57 4 = some 58 := rfl
theorem pt_57_5 {v : Nat} : fc_PT v 57 5 = some 67 := rfl
theorem pt_57_6 {v : Nat} : fc_PT v 57 6 = some 68 := rfl
theorem pt_57_7 {v : Nat} : fc_PT v 57 7 = some 69 := rfl
theorem pt_58_0 {v : Nat} : fc_PT v 58 0 = some 59 := rfl
theorem pt_58_1 {v : Nat} : fc_PT v 58 1 = some 60 := rfl
theorem pt_58_2 {v : Nat} : fc_PT v 58 2 = some 61 := rfl
theorem pt_58_3 {v : Nat} : fc_PT v 58 3 = some 62 := rfl
theorem pt_58_4 {v : Nat} : fc_PT v 58 4 = some 63 := rfl
theorem pt_58_5 {v : Nat} : fc_PT v 58 5 = some 64 := rfl
theorem pt_58_6 {v : Nat} : fc_PT v 58 6 = some 65 := rfl
theorem pt_58_7 {v : Nat} : fc_PT v 58 7 = some 66 := rfl
theorem pt_70_0 {v : Nat} : fc_PT v 70 0 = some 71 := rfl
theorem pt_70_1 {v : Nat} : fc_PT v 70 1 = some 76 := rfl
theorem pt_70_2 {v : Nat} : fc_PT v 70 2 = some 77 := rfl
theorem pt_71_0 {v : Nat} : fc_PT v 71 0 = some 72 := rfl
theorem pt_71_1 {v : Nat} : fc_PT v 71 1 = some 73 := rfl
theorem pt_71_2 {v : Nat} : fc_PT v 71 2 = some 74 := rfl
theorem pt_71_3 {v : Nat} : fc_PT v 71 3 = some 75 := rfl
theorem pt_78_3 {v : Nat} : fc_PT v 78 3 = some 79 := rfl
theorem pt_78_4 {v : Nat} : fc_PT v 78 4 = some 80 := rfl
theorem pt_78_5 {v : Nat} : fc_PT v 78 5 = some 81 := rfl
theorem pt_78_6 {v : Nat} : fc_PT v 78 6 = some 82 := rfl
theorem pt_78_7 {v : Nat} : fc_PT v 78 7 = some 83 := rfl
theorem pt_78_8 {v : Nat} : fc_PT v 78 8 = some 84 := rfl
theorem pt_78_10 {v : Nat} : fc_PT v 78 10 = some 85 := rfl
theorem pt_78_11 {v : Nat} : fc_PT v 78 11 = some 86 := rfl
theorem pt_78_12 {v : Nat} : fc_PT v 78 12 = some 87 := rfl
theorem pt_78_14 {v : Nat} : fc_PT v 78 14 = some 88 := rfl
theorem pt_78_15 {v : Nat} : fc_PT v 78 15 = some 89 := rfl
theorem pt_78_16 {v : Nat} : fc_PT v 78 16 = some 90 := rfl
theorem pt_78_17 {v : Nat} : fc_PT v 78 17 = some 91 := rfl
theorem pt_78_18 {v : Nat} : fc_PT v 78 18 = some 92 := rfl
theorem pt_78_20 {v : Nat} : fc_PT v 78 20 = some 93 := rfl
theorem pt_78_21 {v : Nat} : fc_PT v 78 21 = some 94 := rfl
theorem pt_78_22 {v : Nat} : fc_PT v 78 22 = some 95 := rfl
theorem pt_78_23 {v : Nat} : fc_PT v 78 23 = some 96 := rfl
theorem pt_78_24 {v : Nat} : fc_PT v 78 24 = some 97 := rfl
theorem pt_78_25 {v : Nat} : fc_PT v 78 25 = some 98 := rfl
theorem pt_78_27 {v : Nat} : fc_PT v 78 27 = some 99 := rfl
theorem pt_78_30 {v : Nat} : fc_PT v 78 30 = some 100 := rfl
theorem pt_78_31 {v : Nat} : fc_PT v 78 31 = some 101 := rfl
theorem pt_78_32 {v : Nat} : fc_PT v 78 32 = some 102 := rfl
theorem pt_78_33 {v : Nat} : fc_PT v 78 33 = some 103 := rfl
theorem pt_78_34 {v : Nat} : fc_PT v 78 34 = some 104 := rfl
theorem pt_78_35 {v : Nat} : fc_PT v 78 35 = some 105 := rfl
theorem pt_78_36 {v : Nat} : fc_PT v 78 36 = some 106 := rfl
theorem pt_78_37 {v : Nat} : fc_PT v 78 37 = some 107 := rfl
theorem pt_78_38 {v : Nat} : fc_PT v 78 38 = some 108 := rfl
theorem pt_78_42 {v : Nat} : fc_PT v 78 42 = some 109 := rfl
theorem pt_78_43 {v : Nat} : fc_PT v 78 43 = some 110 := rfl
theorem pt_78_48 {v : Nat} : fc_PT v 78 48 = some 111 := rfl
theorem pt_78_49 {v : Nat} : fc_PT v 78 49 = some 112 := rfl
theorem pt_78_50 {v : Nat} : fc_PT v 78 50 = some 113 := rfl
theorem pt_78_54 {v : Nat} : fc_PT v 78 54 = some 114 := rfl
theorem pt_78_57 {v : Nat} : fc_PT v 78 57 = some 115 := rfl
theorem pt_78_58 {v : Nat} : fc_PT v 78 58 = some 116 := rfl
theorem pt_78_59 {v : Nat} : fc_PT v 78 59 = some 117 := rfl
theorem pt_78_60 {v : Nat} : fc_PT v 78 60 = some 118 := rfl
theorem pt_78_61 {v : Nat} : fc_PT v 78 61 = some 119 := rfl
theorem pt_78_62 {v : Nat} : fc_PT v 78 62 = some 120 := rfl
theorem pt_78_63 {v : Nat} : fc_PT v 78 63 = some 121 := rfl
theorem pt_78_64 {v : Nat} : fc_PT v 78 64 = some 122 := rfl
theorem pt_78_65 {v : Nat} : fc_PT v 78 65 = some 123 := rfl
theorem pt_78_66 {v : Nat} : fc_PT v 78 66 = some 124 := rfl
theorem pt_78_69 {v : Nat} : fc_PT v 78 69 = some 125 := rfl
theorem pt_78_70 {v : Nat} : fc_PT v 78 70 = some 126 := rfl
theorem pt_78_71 {v : Nat} : fc_PT v 78 71 = some 127 := rfl
theorem pt_78_72 {v : Nat} : fc_PT v 78 72 = some 128 := rfl
theorem pt_78_73 {v : Nat} : fc_PT v 78 73 = some 129 := rfl
theorem pt_78_74 {v : Nat} : fc_PT v 78 74 = some 130 := rfl
theorem fc_PT_w {v w : Nat} : fc_wP (fc_PT v) 43 1 w = fc_PT w := by
  funext c k
  unfold fc_wP
  by_cases h : c = 43 ∧ k = 1
  · rw [if_pos h]; obtain ⟨rfl, rfl⟩ := h; rfl
  · rw [if_neg h]
    by_cases hc : c = 43
    · subst hc
      have hk : k ≠ 1 := fun e => h ⟨rfl, e⟩
      show ([some 32, some v, none, none, none, none, none, none, none, none] : List (Option Nat)).getD k none = ([some 32, some w, none, none, none, none, none, none, none, none] : List (Option Nat)).getD k none
      match k, hk with
      | 0, hk => rfl
      | 1, hk => exact absurd rfl hk
      | 2, hk => rfl
      | 3, hk => rfl
      | 4, hk => rfl
      | 5, hk => rfl
      | 6, hk => rfl
      | 7, hk => rfl
      | 8, hk => rfl
      | 9, hk => rfl
      | k + 10, hk => rfl
    · unfold fc_PT
      split <;> first | rfl | exact absurd rfl hc
