theorem ab_Bc_16 : [ab_M_X10_layEnds, ab_M_X10_time, ab_M_X10_begin, ab_M_X10_come, ab_M_X10_undo, ab_M_X10_run, ab_M_X10_sheet, ab_M_X10_lay, ab_M_X10_row, ab_M_X10_count, ab_M_J6_bitCount_0f7a4, ab_M_J9_max_7cf53, ab_M_J9_min_7cf53, ab_M_J0_length_8abf5, ab_M_J0_charAt_5068e, ab_M_J0_coder_7d493].all ab_cb = true := by decide +kernel
theorem ab_Br_16 : [ab_M_X10_layEnds, ab_M_X10_time, ab_M_X10_begin, ab_M_X10_come, ab_M_X10_undo, ab_M_X10_run, ab_M_X10_sheet, ab_M_X10_lay, ab_M_X10_row, ab_M_X10_count, ab_M_J6_bitCount_0f7a4, ab_M_J9_max_7cf53, ab_M_J9_min_7cf53, ab_M_J0_length_8abf5, ab_M_J0_charAt_5068e, ab_M_J0_coder_7d493].all ab_mr = true := by decide +kernel
theorem ab_Bw_16 : [ab_M_X10_layEnds, ab_M_X10_time, ab_M_X10_begin, ab_M_X10_come, ab_M_X10_undo, ab_M_X10_run, ab_M_X10_sheet, ab_M_X10_lay, ab_M_X10_row, ab_M_X10_count, ab_M_J6_bitCount_0f7a4, ab_M_J9_max_7cf53, ab_M_J9_min_7cf53, ab_M_J0_length_8abf5, ab_M_J0_charAt_5068e, ab_M_J0_coder_7d493].all ab_pw = true := by decide +kernel
theorem ab_K_X10_layEnds : ab_ok ab_G ab_M_X10_layEnds := ab_ok_of4 (ab_al ab_Bc_16 (i := 0) rfl) (ab_al ab_Br_16 (i := 0) rfl) (by decide +kernel) (ab_al ab_Bw_16 (i := 0) rfl)
theorem ab_K_X10_time : ab_ok ab_G ab_M_X10_time := ab_ok_of4 (ab_al ab_Bc_16 (i := 1) rfl) (ab_al ab_Br_16 (i := 1) rfl) (by decide +kernel) (ab_al ab_Bw_16 (i := 1) rfl)
theorem ab_K_X10_begin : ab_ok ab_G ab_M_X10_begin := ab_ok_of4 (ab_al ab_Bc_16 (i := 2) rfl) (ab_al ab_Br_16 (i := 2) rfl) (by decide +kernel) (ab_al ab_Bw_16 (i := 2) rfl)
theorem ab_K_X10_come : ab_ok ab_G ab_M_X10_come := ab_ok_of4 (ab_al ab_Bc_16 (i := 3) rfl) (ab_al ab_Br_16 (i := 3) rfl) (by decide +kernel) (ab_al ab_Bw_16 (i := 3) rfl)
theorem ab_K_X10_undo : ab_ok ab_G ab_M_X10_undo := ab_ok_of4 (ab_al ab_Bc_16 (i := 4) rfl) (ab_al ab_Br_16 (i := 4) rfl) (by decide +kernel) (ab_al ab_Bw_16 (i := 4) rfl)
theorem ab_K_X10_run : ab_ok ab_G ab_M_X10_run := ab_ok_of4 (ab_al ab_Bc_16 (i := 5) rfl) (ab_al ab_Br_16 (i := 5) rfl) (by decide +kernel) (ab_al ab_Bw_16 (i := 5) rfl)
theorem ab_K_X10_sheet : ab_ok ab_G ab_M_X10_sheet := ab_ok_of4 (ab_al ab_Bc_16 (i := 6) rfl) (ab_al ab_Br_16 (i := 6) rfl) (by decide +kernel) (ab_al ab_Bw_16 (i := 6) rfl)
theorem ab_K_X10_lay : ab_ok ab_G ab_M_X10_lay := ab_ok_of4 (ab_al ab_Bc_16 (i := 7) rfl) (ab_al ab_Br_16 (i := 7) rfl) (by decide +kernel) (ab_al ab_Bw_16 (i := 7) rfl)
theorem ab_K_X10_row : ab_ok ab_G ab_M_X10_row := ab_ok_of4 (ab_al ab_Bc_16 (i := 8) rfl) (ab_al ab_Br_16 (i := 8) rfl) (by decide +kernel) (ab_al ab_Bw_16 (i := 8) rfl)
theorem ab_K_X10_count : ab_ok ab_G ab_M_X10_count := ab_ok_of4 (ab_al ab_Bc_16 (i := 9) rfl) (ab_al ab_Br_16 (i := 9) rfl) (by decide +kernel) (ab_al ab_Bw_16 (i := 9) rfl)
theorem ab_K_J6_bitCount_0f7a4 : ab_ok ab_G ab_M_J6_bitCount_0f7a4 := ab_ok_of4 (ab_al ab_Bc_16 (i := 10) rfl) (ab_al ab_Br_16 (i := 10) rfl) (by decide +kernel) (ab_al ab_Bw_16 (i := 10) rfl)
theorem ab_K_J9_max_7cf53 : ab_ok ab_G ab_M_J9_max_7cf53 := ab_ok_of4 (ab_al ab_Bc_16 (i := 11) rfl) (ab_al ab_Br_16 (i := 11) rfl) (by decide +kernel) (ab_al ab_Bw_16 (i := 11) rfl)
theorem ab_K_J9_min_7cf53 : ab_ok ab_G ab_M_J9_min_7cf53 := ab_ok_of4 (ab_al ab_Bc_16 (i := 12) rfl) (ab_al ab_Br_16 (i := 12) rfl) (by decide +kernel) (ab_al ab_Bw_16 (i := 12) rfl)
theorem ab_K_J0_length_8abf5 : ab_ok ab_G ab_M_J0_length_8abf5 := ab_ok_of4 (ab_al ab_Bc_16 (i := 13) rfl) (ab_al ab_Br_16 (i := 13) rfl) (by decide +kernel) (ab_al ab_Bw_16 (i := 13) rfl)
theorem ab_K_J0_charAt_5068e : ab_ok ab_G ab_M_J0_charAt_5068e := ab_ok_of4 (ab_al ab_Bc_16 (i := 14) rfl) (ab_al ab_Br_16 (i := 14) rfl) (by decide +kernel) (ab_al ab_Bw_16 (i := 14) rfl)
theorem ab_K_J0_coder_7d493 : ab_ok ab_G ab_M_J0_coder_7d493 := ab_ok_of4 (ab_al ab_Bc_16 (i := 15) rfl) (ab_al ab_Br_16 (i := 15) rfl) (by decide +kernel) (ab_al ab_Bw_16 (i := 15) rfl)
theorem ab_Bc_17 : [ab_M_J0_isLatin1_aae02, ab_M_J0_checkIndex_df160, ab_M_J1_charAt_3b067, ab_M_J7_fill_53178, ab_M_J3_checkIndex_8e157].all ab_cb = true := by decide +kernel
theorem ab_Br_17 : [ab_M_J0_isLatin1_aae02, ab_M_J0_checkIndex_df160, ab_M_J1_charAt_3b067, ab_M_J7_fill_53178, ab_M_J3_checkIndex_8e157].all ab_mr = true := by decide +kernel
theorem ab_Bw_17 : [ab_M_J0_isLatin1_aae02, ab_M_J0_checkIndex_df160, ab_M_J1_charAt_3b067, ab_M_J7_fill_53178, ab_M_J3_checkIndex_8e157].all ab_pw = true := by decide +kernel
theorem ab_K_J0_isLatin1_aae02 : ab_ok ab_G ab_M_J0_isLatin1_aae02 := ab_ok_of4 (ab_al ab_Bc_17 (i := 0) rfl) (ab_al ab_Br_17 (i := 0) rfl) (by decide +kernel) (ab_al ab_Bw_17 (i := 0) rfl)
theorem ab_K_J0_checkIndex_df160 : ab_ok ab_G ab_M_J0_checkIndex_df160 := ab_ok_of4 (ab_al ab_Bc_17 (i := 1) rfl) (ab_al ab_Br_17 (i := 1) rfl) (by decide +kernel) (ab_al ab_Bw_17 (i := 1) rfl)
theorem ab_K_J1_charAt_3b067 : ab_ok ab_G ab_M_J1_charAt_3b067 := ab_ok_of4 (ab_al ab_Bc_17 (i := 2) rfl) (ab_al ab_Br_17 (i := 2) rfl) (by decide +kernel) (ab_al ab_Bw_17 (i := 2) rfl)
theorem ab_K_J7_fill_53178 : ab_ok ab_G ab_M_J7_fill_53178 := ab_ok_of4 (ab_al ab_Bc_17 (i := 3) rfl) (ab_al ab_Br_17 (i := 3) rfl) (by decide +kernel) (ab_al ab_Bw_17 (i := 3) rfl)
theorem ab_K_J3_checkIndex_8e157 : ab_ok ab_G ab_M_J3_checkIndex_8e157 := ab_ok_of4 (ab_al ab_Bc_17 (i := 4) rfl) (ab_al ab_Br_17 (i := 4) rfl) (by decide +kernel) (ab_al ab_Bw_17 (i := 4) rfl)
