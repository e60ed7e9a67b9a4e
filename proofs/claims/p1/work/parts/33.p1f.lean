theorem p1_o_p1_Hx_1 : ab_fb p1_Hx 1 = some (9, [.ref 2, .ref 4, .ref 12, .ref 15, .ref 30, .ref 37, .ref 40, .ref 41, .ref 52, .ref 63, .ref 71, .int 0, .int 0, .int 0, .int 0, .int (-100), .int (-100)]) := by decide +kernel
theorem p1_o_p1_Hx_2 : ab_fb p1_Hx 2 = some (4, [.ref 3, .int 0, .int 0, .int 0, .int 0, .int 0, .int 0, .int 0, .null]) := by decide +kernel
theorem p1_a_p1_Hx_3_0 : ab_fr p1_Hx 3 0 = some (1, 240, 0) := by decide +kernel
def p1_C1 : ab_H := ((ab_ex ab_G 139 999 ab_M_X9_text 0 [(0, .ref 1)] [] p1_Hx).getD (none, p1_Hx)).2
theorem p1_R1 : ab_obs (ab_ex ab_G 139 999 ab_M_X9_text 0 [(0, .ref 1)] [] p1_Hx) = some (some (.int 0), 120, 21717) := by decide +kernel
def p1_C2 : ab_H := ((ab_ex ab_G 24 999 ab_M_X9_fault 0 [(0, .ref 1)] [] p1_Hx).getD (none, p1_Hx)).2
theorem p1_R2 : ab_obs (ab_ex ab_G 24 999 ab_M_X9_fault 0 [(0, .ref 1)] [] p1_Hx) = some (some (.int 0), 120, 21717) := by decide +kernel
theorem p1_o_p1_Hx_41 : ab_fb p1_Hx 41 = some (3, [.int 0, .int 0, .int 0, .ref 42, .ref 43, .ref 44, .ref 45, .ref 46, .ref 47, .ref 48, .ref 49, .ref 50, .ref 51, .int 0]) := by decide +kernel
def p1_C3 : ab_H := ((ab_ex ab_G 4844 999 ab_M_X9_states 0 [(0, .ref 1)] [] p1_Hx).getD (none, p1_Hx)).2
theorem p1_R3 : ab_obs (ab_ex ab_G 4844 999 ab_M_X9_states 0 [(0, .ref 1)] [] p1_Hx) = some (some (.int 1), 120, 21717) := by decide +kernel
def p1_C4 : ab_H := ((ab_ex ab_G 4846 999 ab_M_X9_right 0 [(0, .ref 1)] [] p1_Hx).getD (none, p1_Hx)).2
theorem p1_R4 : ab_obs (ab_ex ab_G 4846 999 ab_M_X9_right 0 [(0, .ref 1)] [] p1_Hx) = some (some (.int 1), 120, 21717) := by decide +kernel
def p1_C5 : ab_H := ((ab_ex ab_G 4834 998 ab_M_X9_explore 0 [(0, .ref 1)] [] p1_Hx).getD (none, p1_Hx)).2
theorem p1_R5 : ab_obs (ab_ex ab_G 4834 998 ab_M_X9_explore 0 [(0, .ref 1)] [] p1_Hx) = some (none, 120, 21717) := by decide +kernel
theorem p1_o_p1_C5_1 : ab_fb p1_C5 1 = some (9, [.ref 2, .ref 4, .ref 12, .ref 15, .ref 30, .ref 37, .ref 40, .ref 41, .ref 52, .ref 63, .ref 71, .int 1, .int 0, .int 0, .int 0, .int (-100), .int (-100)]) := by decide +kernel
theorem p1_o_p1_C5_4 : ab_fb p1_C5 4 = some (7, [.int 1, .int 0, .int 0, .int 1, .ref 5, .ref 6, .ref 7, .ref 8, .ref 9, .ref 10, .ref 11, .int (-100)]) := by decide +kernel
theorem p1_a_p1_C5_7_0 : ab_fr p1_C5 7 0 = some (0, 200, 0) := by decide +kernel
theorem p1_a_p1_C5_8_0 : ab_fr p1_C5 8 0 = some (0, 200, 0) := by decide +kernel
theorem p1_a_p1_C5_6_0 : ab_fr p1_C5 6 0 = some (0, 200, 0) := by decide +kernel
theorem p1_a_p1_C5_5_0 : ab_fr p1_C5 5 0 = some (0, 200, 0) := by decide +kernel
theorem p1_o_p1_C5_41 : ab_fb p1_C5 41 = some (3, [.int 0, .int 0, .int 0, .ref 42, .ref 43, .ref 44, .ref 45, .ref 46, .ref 47, .ref 48, .ref 49, .ref 50, .ref 51, .int 0]) := by decide +kernel
def p1_C6 : ab_H := ((ab_ex ab_G 4840 998 ab_M_X9_isRight 0 [(0, .ref 1)] [] p1_Hx).getD (none, p1_Hx)).2
theorem p1_R6 : ab_obs (ab_ex ab_G 4840 998 ab_M_X9_isRight 0 [(0, .ref 1)] [] p1_Hx) = some (some (.int 1), 120, 21717) := by decide +kernel
theorem p1_o_p1_C6_1 : ab_fb p1_C6 1 = some (9, [.ref 2, .ref 4, .ref 12, .ref 15, .ref 30, .ref 37, .ref 40, .ref 41, .ref 52, .ref 63, .ref 71, .int 1, .int 0, .int 0, .int 0, .int (-100), .int (-100)]) := by decide +kernel
def p1_C7 : ab_H := ((ab_ex ab_G 734 998 ab_M_X9_findClashes 0 [(0, .ref 1)] [] p1_C6).getD (none, p1_C6)).2
theorem p1_R7 : ab_obs (ab_ex ab_G 734 998 ab_M_X9_findClashes 0 [(0, .ref 1)] [] p1_C6) = some (none, 120, 21717) := by decide +kernel
theorem p1_o_p1_C7_1 : ab_fb p1_C7 1 = some (9, [.ref 2, .ref 4, .ref 12, .ref 15, .ref 30, .ref 37, .ref 40, .ref 41, .ref 52, .ref 63, .ref 71, .int 1, .int 1, .int 0, .int 0, .int (-100), .int (-100)]) := by decide +kernel
theorem p1_o_p1_C7_12 : ab_fb p1_C7 12 = some (0, [.int 0, .int 0, .int (-4), .int (-4), .int 0, .int (-4), .int (-4), .int (-4), .ref 13, .ref 14]) := by decide +kernel
def p1_C8 : ab_H := ((ab_ex ab_G 42 998 ab_M_X7_ends 0 [(0, .ref 4)] [] p1_C5).getD (none, p1_C5)).2
theorem p1_R8 : ab_obs (ab_ex ab_G 42 998 ab_M_X7_ends 0 [(0, .ref 4)] [] p1_C5) = some (some (.int 1), 120, 21717) := by decide +kernel
def p1_C9 : ab_H := ((ab_ex ab_G 1883 998 ab_M_X7_astray 0 [(0, .ref 4)] [] p1_C5).getD (none, p1_C5)).2
theorem p1_R9 : ab_obs (ab_ex ab_G 1883 998 ab_M_X7_astray 0 [(0, .ref 4)] [] p1_C5) = some (some (.int 0), 120, 21717) := by decide +kernel
def p1_C10 : ab_H := ((ab_ex ab_G 62 998 ab_M_J6_bitCount_0f7a4 0 [(0, .int 0)] [] p1_C5).getD (none, p1_C5)).2
theorem p1_R10 : ab_obs (ab_ex ab_G 62 998 ab_M_J6_bitCount_0f7a4 0 [(0, .int 0)] [] p1_C5) = some (some (.int 0), 120, 21717) := by decide +kernel
def p1_C11 : ab_H := ((ab_ex ab_G 4854 999 ab_M_X9_cost 0 [(0, .ref 1)] [] p1_Hx).getD (none, p1_Hx)).2
theorem p1_R11 : ab_obs (ab_ex ab_G 4854 999 ab_M_X9_cost 0 [(0, .ref 1)] [] p1_Hx) = some (some (.int 0), 120, 21717) := by decide +kernel
theorem p1_o_p1_C6_41 : ab_fb p1_C6 41 = some (3, [.int 0, .int 0, .int 0, .ref 42, .ref 43, .ref 44, .ref 45, .ref 46, .ref 47, .ref 48, .ref 49, .ref 50, .ref 51, .int 0]) := by decide +kernel
def p1_C12 : ab_H := ((ab_ex ab_G 36 998 ab_M_X9_searchCures 0 [(0, .ref 1), (1, .int 1)] [] p1_C6).getD (none, p1_C6)).2
theorem p1_R12 : ab_obs (ab_ex ab_G 36 998 ab_M_X9_searchCures 0 [(0, .ref 1), (1, .int 1)] [] p1_C6) = some (none, 120, 21717) := by decide +kernel
theorem p1_o_p1_C12_1 : ab_fb p1_C12 1 = some (9, [.ref 2, .ref 4, .ref 12, .ref 15, .ref 30, .ref 37, .ref 40, .ref 41, .ref 52, .ref 63, .ref 71, .int 1, .int 0, .int 0, .int 0, .int (-4), .int 0]) := by decide +kernel
def p1_C13 : ab_H := ((ab_ex ab_G 36 998 ab_M_X9_searchCures 0 [(0, .ref 1), (1, .int 0)] [] p1_C6).getD (none, p1_C6)).2
theorem p1_R13 : ab_obs (ab_ex ab_G 36 998 ab_M_X9_searchCures 0 [(0, .ref 1), (1, .int 0)] [] p1_C6) = some (none, 120, 21717) := by decide +kernel
theorem p1_o_p1_C13_1 : ab_fb p1_C13 1 = some (9, [.ref 2, .ref 4, .ref 12, .ref 15, .ref 30, .ref 37, .ref 40, .ref 41, .ref 52, .ref 63, .ref 71, .int 1, .int 0, .int 0, .int 0, .int (-4), .int 0]) := by decide +kernel
def p1_C14 : ab_H := ((ab_ex ab_G 119 998 ab_M_X9_findRings 0 [(0, .ref 1)] [] p1_Hx).getD (none, p1_Hx)).2
theorem p1_R14 : ab_obs (ab_ex ab_G 119 998 ab_M_X9_findRings 0 [(0, .ref 1)] [] p1_Hx) = some (none, 120, 21717) := by decide +kernel
theorem p1_o_p1_C14_1 : ab_fb p1_C14 1 = some (9, [.ref 2, .ref 4, .ref 12, .ref 15, .ref 30, .ref 37, .ref 40, .ref 41, .ref 52, .ref 63, .ref 71, .int 0, .int 0, .int 0, .int 1, .int (-100), .int (-100)]) := by decide +kernel
theorem p1_o_p1_C14_30 : ab_fb p1_C14 30 = some (5, [.int 1, .int 0, .int 0, .int 0, .ref 31, .ref 32, .ref 33, .int 0, .ref 34, .ref 35, .ref 36]) := by decide +kernel
def p1_C15 : ab_H := ((ab_ex ab_G 31 999 ab_M_X9_undo 0 [(0, .ref 1)] [] p1_Hx).getD (none, p1_Hx)).2
theorem p1_R15 : ab_obs (ab_ex ab_G 31 999 ab_M_X9_undo 0 [(0, .ref 1)] [] p1_Hx) = some (some (.int (-4)), 120, 21717) := by decide +kernel
theorem p1_o_p1_Hx_37 : ab_fb p1_Hx 37 = some (2, [.int 0, .ref 38, .ref 39]) := by decide +kernel
def p1_C16 : ab_H := ((ab_ex ab_G 30 998 ab_M_X3_readyAt 0 [(0, .ref 41), (1, .int 0)] [] p1_Hx).getD (none, p1_Hx)).2
theorem p1_R16 : ab_obs (ab_ex ab_G 30 998 ab_M_X3_readyAt 0 [(0, .ref 41), (1, .int 0)] [] p1_Hx) = some (some (.int 0), 120, 21717) := by decide +kernel
theorem p1_a_p1_Hx_40_0 : ab_fq p1_Hx 40 0 = some (4, 4, some 74) := by decide +kernel
theorem p1_o_p1_Hx_74 : ab_fb p1_Hx 74 = some (6, [.int (-1), .ref 75, .int 0]) := by decide +kernel
def p1_C17 : ab_H := ((ab_ex ab_G 605 997 ab_M_J7_fill_53178 0 [(0, .ref 75), (1, .int 0)] [] (p1_F 75)).getD (none, (p1_F 75))).2
theorem p1_R17 : ab_obs (ab_ex ab_G 605 997 ab_M_J7_fill_53178 0 [(0, .ref 75), (1, .int 0)] [] (p1_F 75)) = some (none, 120, 21717) := by decide +kernel
theorem p1_a_p1_Hx_40_1 : ab_fq p1_Hx 40 1 = some (4, 4, some 76) := by decide +kernel
theorem p1_o_p1_Hx_76 : ab_fb p1_Hx 76 = some (6, [.int (-1), .ref 77, .int 0]) := by decide +kernel
def p1_C18 : ab_H := ((ab_ex ab_G 605 997 ab_M_J7_fill_53178 0 [(0, .ref 77), (1, .int 0)] [] (p1_F 77)).getD (none, (p1_F 77))).2
theorem p1_R18 : ab_obs (ab_ex ab_G 605 997 ab_M_J7_fill_53178 0 [(0, .ref 77), (1, .int 0)] [] (p1_F 77)) = some (none, 120, 21717) := by decide +kernel
theorem p1_a_p1_Hx_40_2 : ab_fq p1_Hx 40 2 = some (4, 4, some 78) := by decide +kernel
theorem p1_o_p1_Hx_78 : ab_fb p1_Hx 78 = some (6, [.int (-1), .ref 79, .int 0]) := by decide +kernel
def p1_C19 : ab_H := ((ab_ex ab_G 605 997 ab_M_J7_fill_53178 0 [(0, .ref 79), (1, .int 0)] [] (p1_F 79)).getD (none, (p1_F 79))).2
theorem p1_R19 : ab_obs (ab_ex ab_G 605 997 ab_M_J7_fill_53178 0 [(0, .ref 79), (1, .int 0)] [] (p1_F 79)) = some (none, 120, 21717) := by decide +kernel
theorem p1_a_p1_Hx_40_3 : ab_fq p1_Hx 40 3 = some (4, 4, some 80) := by decide +kernel
theorem p1_o_p1_Hx_80 : ab_fb p1_Hx 80 = some (6, [.int (-1), .ref 81, .int 0]) := by decide +kernel
def p1_C20 : ab_H := ((ab_ex ab_G 605 997 ab_M_J7_fill_53178 0 [(0, .ref 81), (1, .int 0)] [] (p1_F 81)).getD (none, (p1_F 81))).2
theorem p1_R20 : ab_obs (ab_ex ab_G 605 997 ab_M_J7_fill_53178 0 [(0, .ref 81), (1, .int 0)] [] (p1_F 81)) = some (none, 120, 21717) := by decide +kernel
def p1_C21 : ab_H := ((ab_ex ab_G 62 998 ab_M_J6_bitCount_0f7a4 0 [(0, .int 0)] [] p1_Hx).getD (none, p1_Hx)).2
theorem p1_R21 : ab_obs (ab_ex ab_G 62 998 ab_M_J6_bitCount_0f7a4 0 [(0, .int 0)] [] p1_Hx) = some (some (.int 0), 120, 21717) := by decide +kernel
theorem p1_o_p1_Hm_82 : ab_fb p1_Hm 82 = some (10, [.int 0, .ref 83, .ref 84, .int 0, .ref 85, .ref 86, .ref 87, .ref 88, .ref 89, .ref 90, .int 0, .int 0, .ref 91, .int 0, .int 0, .int 0, .int 0, .int 0, .int 0, .int 0, .int 0, .int 0, .ref 92, .ref 93, .int 0, .ref 94, .ref 95, .ref 96, .ref 97, .ref 98, .int 0, .int 0, .int 0, .int 0, .ref 99, .ref 100, .ref 101, .int 0, .ref 102, .int 0, .int 0, .int 0, .int 0, .int 0, .int 0, .int 0, .int 0, .long 0, .long 0, .int 0, .ref 103, .ref 104, .ref 105, .ref 106, .ref 107, .ref 108, .ref 109, .int 0, .int 0, .ref 110, .ref 111, .ref 112, .ref 113, .ref 114, .int 0, .ref 115, .ref 116, .ref 117, .ref 118, .ref 119]) := by decide +kernel
theorem p1_a_p1_Hm_91_0 : ab_fr p1_Hm 91 0 = some (0, 240, 0) := by decide +kernel
def p1_C22 : ab_H := ((ab_ex ab_G 1064 999 ab_M_X10_text 0 [(0, .ref 82)] [] p1_Hm).getD (none, p1_Hm)).2
theorem p1_R22 : ab_obs (ab_ex ab_G 1064 999 ab_M_X10_text 0 [(0, .ref 82)] [] p1_Hm) = some (some (.int 0), 120, 21717) := by decide +kernel
def p1_C23 : ab_H := ((ab_ex ab_G 23 999 ab_M_X10_fault 0 [(0, .ref 82)] [] p1_Hm).getD (none, p1_Hm)).2
theorem p1_R23 : ab_obs (ab_ex ab_G 23 999 ab_M_X10_fault 0 [(0, .ref 82)] [] p1_Hm) = some (some (.int 0), 120, 21717) := by decide +kernel
def p1_C24 : ab_H := ((ab_ex ab_G 61 999 ab_M_X10_states 0 [(0, .ref 82)] [] p1_Hm).getD (none, p1_Hm)).2
theorem p1_R24 : ab_obs (ab_ex ab_G 61 999 ab_M_X10_states 0 [(0, .ref 82)] [] p1_Hm) = some (some (.int 1), 120, 21717) := by decide +kernel
def p1_C25 : ab_H := ((ab_ex ab_G 93 999 ab_M_X10_right 0 [(0, .ref 82)] [] p1_Hm).getD (none, p1_Hm)).2
theorem p1_R25 : ab_obs (ab_ex ab_G 93 999 ab_M_X10_right 0 [(0, .ref 82)] [] p1_Hm) = some (some (.int 1), 120, 21717) := by decide +kernel
def p1_C26 : ab_H := ((ab_ex ab_G 87 998 ab_M_X10_layRight 0 [(0, .ref 82)] [] p1_Hm).getD (none, p1_Hm)).2
theorem p1_R26 : ab_obs (ab_ex ab_G 87 998 ab_M_X10_layRight 0 [(0, .ref 82)] [] p1_Hm) = some (some (.int 1), 120, 21717) := by decide +kernel
theorem p1_o_p1_C26_82 : ab_fb p1_C26 82 = some (10, [.int 0, .ref 83, .ref 84, .int 0, .ref 85, .ref 86, .ref 87, .ref 88, .ref 89, .ref 90, .int 0, .int 0, .ref 91, .int 0, .int 0, .int 0, .int 0, .int 0, .int 0, .int 0, .int 0, .int 0, .ref 92, .ref 93, .int 0, .ref 94, .ref 95, .ref 96, .ref 97, .ref 98, .int 0, .int 0, .int 1, .int 1, .ref 99, .ref 100, .ref 101, .int 1, .ref 102, .int 0, .int 0, .int 0, .int 0, .int 0, .int 0, .int 0, .int 0, .long 0, .long 0, .int 0, .ref 103, .ref 104, .ref 105, .ref 106, .ref 107, .ref 108, .ref 109, .int 0, .int 0, .ref 110, .ref 111, .ref 112, .ref 113, .ref 114, .int 0, .ref 115, .ref 116, .ref 117, .ref 118, .ref 119]) := by decide +kernel
theorem p1_a_p1_C26_99_0 : ab_fr p1_C26 99 0 = some (0, 200, 0) := by decide +kernel
theorem p1_a_p1_C26_101_0 : ab_fr p1_C26 101 0 = some (0, 200, 0) := by decide +kernel
def p1_C27 : ab_H := ((ab_ex ab_G 30 997 ab_M_X10_excited 0 [(0, .ref 82), (1, .int 0)] [] p1_C26).getD (none, p1_C26)).2
theorem p1_R27 : ab_obs (ab_ex ab_G 30 997 ab_M_X10_excited 0 [(0, .ref 82), (1, .int 0)] [] p1_C26) = some (some (.int 0), 120, 21717) := by decide +kernel
def p1_C28 : ab_H := ((ab_ex ab_G 53 998 ab_M_X10_layQuarrels 0 [(0, .ref 82)] [] p1_C26).getD (none, p1_C26)).2
theorem p1_R28 : ab_obs (ab_ex ab_G 53 998 ab_M_X10_layQuarrels 0 [(0, .ref 82)] [] p1_C26) = some (none, 120, 21717) := by decide +kernel
theorem p1_o_p1_C28_82 : ab_fb p1_C28 82 = some (10, [.int 0, .ref 83, .ref 84, .int 0, .ref 85, .ref 86, .ref 87, .ref 88, .ref 89, .ref 90, .int 0, .int 0, .ref 91, .int 0, .int 0, .int 0, .int 0, .int 0, .int 0, .int 0, .int 0, .int 0, .ref 92, .ref 93, .int 0, .ref 94, .ref 95, .ref 96, .ref 97, .ref 98, .int 0, .int 0, .int 1, .int 1, .ref 99, .ref 100, .ref 101, .int 1, .ref 102, .int 0, .int 0, .int (-4), .int (-4), .int 0, .int 0, .int 0, .int 0, .long 0, .long 0, .int 0, .ref 103, .ref 104, .ref 105, .ref 106, .ref 107, .ref 108, .ref 109, .int 0, .int 0, .ref 110, .ref 111, .ref 112, .ref 113, .ref 114, .int 0, .ref 115, .ref 116, .ref 117, .ref 118, .ref 119]) := by decide +kernel
def p1_C29 : ab_H := ((ab_ex ab_G 51 998 ab_M_X10_layBacks 0 [(0, .ref 82)] [] p1_C26).getD (none, p1_C26)).2
theorem p1_R29 : ab_obs (ab_ex ab_G 51 998 ab_M_X10_layBacks 0 [(0, .ref 82)] [] p1_C26) = some (none, 120, 21717) := by decide +kernel
theorem p1_o_p1_C29_82 : ab_fb p1_C29 82 = some (10, [.int 0, .ref 83, .ref 84, .int 0, .ref 85, .ref 86, .ref 87, .ref 88, .ref 89, .ref 90, .int 0, .int 0, .ref 91, .int 0, .int 0, .int 0, .int 0, .int 0, .int 0, .int 0, .int 0, .int 0, .ref 92, .ref 93, .int 0, .ref 94, .ref 95, .ref 96, .ref 97, .ref 98, .int 0, .int 0, .int 1, .int 1, .ref 99, .ref 100, .ref 101, .int 1, .ref 102, .int 0, .int 0, .int 0, .int 0, .int 0, .int (-4), .int (-4), .int (-4), .long 0, .long 0, .int 0, .ref 103, .ref 104, .ref 105, .ref 106, .ref 107, .ref 108, .ref 109, .int 0, .int 0, .ref 110, .ref 111, .ref 112, .ref 113, .ref 114, .int 0, .ref 115, .ref 116, .ref 117, .ref 118, .ref 119]) := by decide +kernel
def p1_C30 : ab_H := ((ab_ex ab_G 197 999 ab_M_X10_stuck 0 [(0, .ref 82), (1, .int 0)] [] p1_Hm).getD (none, p1_Hm)).2
theorem p1_R30 : ab_obs (ab_ex ab_G 197 999 ab_M_X10_stuck 0 [(0, .ref 82), (1, .int 0)] [] p1_Hm) = some (some (.int 1), 120, 21717) := by decide +kernel
def p1_C31 : ab_H := ((ab_ex ab_G 200 999 ab_M_X10_stuck 0 [(0, .ref 82), (1, .int 1)] [] p1_Hm).getD (none, p1_Hm)).2
theorem p1_R31 : ab_obs (ab_ex ab_G 200 999 ab_M_X10_stuck 0 [(0, .ref 82), (1, .int 1)] [] p1_Hm) = some (some (.int 0), 120, 21717) := by decide +kernel
def p1_C32 : ab_H := ((ab_ex ab_G 199 999 ab_M_X10_stuck 0 [(0, .ref 82), (1, .int 2)] [] p1_Hm).getD (none, p1_Hm)).2
theorem p1_R32 : ab_obs (ab_ex ab_G 199 999 ab_M_X10_stuck 0 [(0, .ref 82), (1, .int 2)] [] p1_Hm) = some (some (.int 0), 120, 21717) := by decide +kernel
def p1_C33 : ab_H := ((ab_ex ab_G 138 999 ab_M_X10_cost 0 [(0, .ref 82)] [] p1_Hm).getD (none, p1_Hm)).2
theorem p1_R33 : ab_obs (ab_ex ab_G 138 999 ab_M_X10_cost 0 [(0, .ref 82)] [] p1_Hm) = some (some (.int 0), 120, 21717) := by decide +kernel
def p1_C34 : ab_H := ((ab_ex ab_G 2627 998 ab_M_X10_isGraph 0 [(0, .ref 82)] [] p1_Hm).getD (none, p1_Hm)).2
theorem p1_R34 : ab_obs (ab_ex ab_G 2627 998 ab_M_X10_isGraph 0 [(0, .ref 82)] [] p1_Hm) = some (some (.int 1), 120, 21717) := by decide +kernel
theorem p1_o_p1_C34_82 : ab_fb p1_C34 82 = some (10, [.int 0, .ref 83, .ref 84, .int 0, .ref 85, .ref 86, .ref 87, .ref 88, .ref 89, .ref 90, .int 0, .int 0, .ref 91, .int 0, .int 0, .int 0, .int 0, .int 0, .int 0, .int 0, .int 0, .int 0, .ref 92, .ref 93, .int 0, .ref 94, .ref 95, .ref 96, .ref 97, .ref 98, .int 0, .int 0, .int 0, .int 0, .ref 99, .ref 100, .ref 101, .int 0, .ref 102, .int 0, .int 0, .int 0, .int 0, .int 0, .int 0, .int 0, .int 0, .long 0, .long 0, .int 0, .ref 103, .ref 104, .ref 105, .ref 106, .ref 107, .ref 108, .ref 109, .int 0, .int 0, .ref 110, .ref 111, .ref 112, .ref 113, .ref 114, .int 0, .ref 115, .ref 116, .ref 117, .ref 118, .ref 119]) := by decide +kernel
def p1_C35 : ab_H := ((ab_ex ab_G 2615 998 ab_M_X10_hasRing 0 [(0, .ref 82), (1, .int 0), (2, .int 1)] [] p1_C34).getD (none, p1_C34)).2
theorem p1_R35 : ab_obs (ab_ex ab_G 2615 998 ab_M_X10_hasRing 0 [(0, .ref 82), (1, .int 0), (2, .int 1)] [] p1_C34) = some (some (.int 0), 120, 21717) := by decide +kernel
def p1_C36 : ab_H := ((ab_ex ab_G 25 999 ab_M_X10_undo 0 [(0, .ref 82)] [] p1_Hm).getD (none, p1_Hm)).2
theorem p1_R36 : ab_obs (ab_ex ab_G 25 999 ab_M_X10_undo 0 [(0, .ref 82)] [] p1_Hm) = some (some (.int (-4)), 120, 21717) := by decide +kernel
theorem p1_a_p1_Hm_115_0 : ab_fr p1_Hm 115 0 = some (0, 101, 0) := by decide +kernel
theorem p1_a_p1_Hm_117_0 : ab_fr p1_Hm 117 0 = some (0, 4, (-4)) := by decide +kernel
theorem p1_a_p1_Hm_118_0 : ab_fr p1_Hm 118 0 = some (0, 4, 0) := by decide +kernel
theorem p1_a_p1_Hm_119_0 : ab_fr p1_Hm 119 0 = some (0, 256, 0) := by decide +kernel
theorem p1_a_p1_Hm_117_1 : ab_fr p1_Hm 117 1 = some (0, 4, (-4)) := by decide +kernel
theorem p1_a_p1_Hm_117_2 : ab_fr p1_Hm 117 2 = some (0, 4, (-4)) := by decide +kernel
theorem p1_a_p1_Hm_117_3 : ab_fr p1_Hm 117 3 = some (0, 4, (-4)) := by decide +kernel
def p1_C37 : ab_H := ((ab_ex ab_G 289 998 ab_M_X10_sizeOf 0 [(0, .int 0)] [] p1_Hm).getD (none, p1_Hm)).2
theorem p1_R37 : ab_obs (ab_ex ab_G 289 998 ab_M_X10_sizeOf 0 [(0, .int 0)] [] p1_Hm) = some (some (.int 0), 120, 21717) := by decide +kernel
