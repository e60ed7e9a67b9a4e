theorem ab_Bc_13 : [ab_M_X10_ownWires, ab_M_X10_layQuarrels, ab_M_X10_quarrels, ab_M_X10_layBacks, ab_M_X10_back, ab_M_X10_stuck, ab_M_X10_layAims, ab_M_X10_aim, ab_M_X10_cubeAll, ab_M_X10_levelsOf, ab_M_X10_lettersOf, ab_M_X10_layCubes, ab_M_X10_isHopeless, ab_M_X10_hardest, ab_M_X10_canMake, ab_M_X10_layMakes].all ab_cb = true := by decide +kernel
theorem ab_Br_13 : [ab_M_X10_ownWires, ab_M_X10_layQuarrels, ab_M_X10_quarrels, ab_M_X10_layBacks, ab_M_X10_back, ab_M_X10_stuck, ab_M_X10_layAims, ab_M_X10_aim, ab_M_X10_cubeAll, ab_M_X10_levelsOf, ab_M_X10_lettersOf, ab_M_X10_layCubes, ab_M_X10_isHopeless, ab_M_X10_hardest, ab_M_X10_canMake, ab_M_X10_layMakes].all ab_mr = true := by decide +kernel
theorem ab_Bw_13 : [ab_M_X10_ownWires, ab_M_X10_layQuarrels, ab_M_X10_quarrels, ab_M_X10_layBacks, ab_M_X10_back, ab_M_X10_stuck, ab_M_X10_layAims, ab_M_X10_aim, ab_M_X10_cubeAll, ab_M_X10_levelsOf, ab_M_X10_lettersOf, ab_M_X10_layCubes, ab_M_X10_isHopeless, ab_M_X10_hardest, ab_M_X10_canMake, ab_M_X10_layMakes].all ab_pw = true := by decide +kernel
theorem ab_K_X10_ownWires : ab_ok ab_G ab_M_X10_ownWires := ab_ok_of4 (ab_al ab_Bc_13 (i := 0) rfl) (ab_al ab_Br_13 (i := 0) rfl) (by decide +kernel) (ab_al ab_Bw_13 (i := 0) rfl)
theorem ab_K_X10_layQuarrels : ab_ok ab_G ab_M_X10_layQuarrels := ab_ok_of4 (ab_al ab_Bc_13 (i := 1) rfl) (ab_al ab_Br_13 (i := 1) rfl) (by decide +kernel) (ab_al ab_Bw_13 (i := 1) rfl)
theorem ab_K_X10_quarrels : ab_ok ab_G ab_M_X10_quarrels := ab_ok_of4 (ab_al ab_Bc_13 (i := 2) rfl) (ab_al ab_Br_13 (i := 2) rfl) (by decide +kernel) (ab_al ab_Bw_13 (i := 2) rfl)
theorem ab_K_X10_layBacks : ab_ok ab_G ab_M_X10_layBacks := ab_ok_of4 (ab_al ab_Bc_13 (i := 3) rfl) (ab_al ab_Br_13 (i := 3) rfl) (by decide +kernel) (ab_al ab_Bw_13 (i := 3) rfl)
theorem ab_K_X10_back : ab_ok ab_G ab_M_X10_back := ab_ok_of4 (ab_al ab_Bc_13 (i := 4) rfl) (ab_al ab_Br_13 (i := 4) rfl) (by decide +kernel) (ab_al ab_Bw_13 (i := 4) rfl)
theorem ab_K_X10_stuck : ab_ok ab_G ab_M_X10_stuck := ab_ok_of4 (ab_al ab_Bc_13 (i := 5) rfl) (ab_al ab_Br_13 (i := 5) rfl) (by decide +kernel) (ab_al ab_Bw_13 (i := 5) rfl)
theorem ab_K_X10_layAims : ab_ok ab_G ab_M_X10_layAims := ab_ok_of4 (ab_al ab_Bc_13 (i := 6) rfl) (ab_al ab_Br_13 (i := 6) rfl) (by decide +kernel) (ab_al ab_Bw_13 (i := 6) rfl)
theorem ab_K_X10_aim : ab_ok ab_G ab_M_X10_aim := ab_ok_of4 (ab_al ab_Bc_13 (i := 7) rfl) (ab_al ab_Br_13 (i := 7) rfl) (by decide +kernel) (ab_al ab_Bw_13 (i := 7) rfl)
theorem ab_K_X10_cubeAll : ab_ok ab_G ab_M_X10_cubeAll := ab_ok_of4 (ab_al ab_Bc_13 (i := 8) rfl) (ab_al ab_Br_13 (i := 8) rfl) (by decide +kernel) (ab_al ab_Bw_13 (i := 8) rfl)
theorem ab_K_X10_levelsOf : ab_ok ab_G ab_M_X10_levelsOf := ab_ok_of4 (ab_al ab_Bc_13 (i := 9) rfl) (ab_al ab_Br_13 (i := 9) rfl) (by decide +kernel) (ab_al ab_Bw_13 (i := 9) rfl)
theorem ab_K_X10_lettersOf : ab_ok ab_G ab_M_X10_lettersOf := ab_ok_of4 (ab_al ab_Bc_13 (i := 10) rfl) (ab_al ab_Br_13 (i := 10) rfl) (by decide +kernel) (ab_al ab_Bw_13 (i := 10) rfl)
theorem ab_K_X10_layCubes : ab_ok ab_G ab_M_X10_layCubes := ab_ok_of4 (ab_al ab_Bc_13 (i := 11) rfl) (ab_al ab_Br_13 (i := 11) rfl) (by decide +kernel) (ab_al ab_Bw_13 (i := 11) rfl)
theorem ab_K_X10_isHopeless : ab_ok ab_G ab_M_X10_isHopeless := ab_ok_of4 (ab_al ab_Bc_13 (i := 12) rfl) (ab_al ab_Br_13 (i := 12) rfl) (by decide +kernel) (ab_al ab_Bw_13 (i := 12) rfl)
theorem ab_K_X10_hardest : ab_ok ab_G ab_M_X10_hardest := ab_ok_of4 (ab_al ab_Bc_13 (i := 13) rfl) (ab_al ab_Br_13 (i := 13) rfl) (by decide +kernel) (ab_al ab_Bw_13 (i := 13) rfl)
theorem ab_K_X10_canMake : ab_ok ab_G ab_M_X10_canMake := ab_ok_of4 (ab_al ab_Bc_13 (i := 14) rfl) (ab_al ab_Br_13 (i := 14) rfl) (by decide +kernel) (ab_al ab_Bw_13 (i := 14) rfl)
theorem ab_K_X10_layMakes : ab_ok ab_G ab_M_X10_layMakes := ab_ok_of4 (ab_al ab_Bc_13 (i := 15) rfl) (ab_al ab_Br_13 (i := 15) rfl) (by decide +kernel) (ab_al ab_Bw_13 (i := 15) rfl)
theorem ab_Bc_14 : [ab_M_X10_cubeAt, ab_M_X10_isOwn, ab_M_X10_makes, ab_M_X10_judge, ab_M_X10_cost, ab_M_X10_isFull, ab_M_X10_addEvent, ab_M_X10_addCure, ab_M_X10_dropCure, ab_M_X10_tryCure, ab_M_X10_would, ab_M_X10_cure, ab_M_X10_cures, ab_M_X10_delay, ab_M_X10_sizeOf, ab_M_X10_leastOf].all ab_cb = true := by decide +kernel
theorem ab_Br_14 : [ab_M_X10_cubeAt, ab_M_X10_isOwn, ab_M_X10_makes, ab_M_X10_judge, ab_M_X10_cost, ab_M_X10_isFull, ab_M_X10_addEvent, ab_M_X10_addCure, ab_M_X10_dropCure, ab_M_X10_tryCure, ab_M_X10_would, ab_M_X10_cure, ab_M_X10_cures, ab_M_X10_delay, ab_M_X10_sizeOf, ab_M_X10_leastOf].all ab_mr = true := by decide +kernel
theorem ab_Bw_14 : [ab_M_X10_cubeAt, ab_M_X10_isOwn, ab_M_X10_makes, ab_M_X10_judge, ab_M_X10_cost, ab_M_X10_isFull, ab_M_X10_addEvent, ab_M_X10_addCure, ab_M_X10_dropCure, ab_M_X10_tryCure, ab_M_X10_would, ab_M_X10_cure, ab_M_X10_cures, ab_M_X10_delay, ab_M_X10_sizeOf, ab_M_X10_leastOf].all ab_pw = true := by decide +kernel
theorem ab_K_X10_cubeAt : ab_ok ab_G ab_M_X10_cubeAt := ab_ok_of4 (ab_al ab_Bc_14 (i := 0) rfl) (ab_al ab_Br_14 (i := 0) rfl) (by decide +kernel) (ab_al ab_Bw_14 (i := 0) rfl)
theorem ab_K_X10_isOwn : ab_ok ab_G ab_M_X10_isOwn := ab_ok_of4 (ab_al ab_Bc_14 (i := 1) rfl) (ab_al ab_Br_14 (i := 1) rfl) (by decide +kernel) (ab_al ab_Bw_14 (i := 1) rfl)
theorem ab_K_X10_makes : ab_ok ab_G ab_M_X10_makes := ab_ok_of4 (ab_al ab_Bc_14 (i := 2) rfl) (ab_al ab_Br_14 (i := 2) rfl) (by decide +kernel) (ab_al ab_Bw_14 (i := 2) rfl)
theorem ab_K_X10_judge : ab_ok ab_G ab_M_X10_judge := ab_ok_of4 (ab_al ab_Bc_14 (i := 3) rfl) (ab_al ab_Br_14 (i := 3) rfl) (by decide +kernel) (ab_al ab_Bw_14 (i := 3) rfl)
theorem ab_K_X10_cost : ab_ok ab_G ab_M_X10_cost := ab_ok_of4 (ab_al ab_Bc_14 (i := 4) rfl) (ab_al ab_Br_14 (i := 4) rfl) (by decide +kernel) (ab_al ab_Bw_14 (i := 4) rfl)
theorem ab_K_X10_isFull : ab_ok ab_G ab_M_X10_isFull := ab_ok_of4 (ab_al ab_Bc_14 (i := 5) rfl) (ab_al ab_Br_14 (i := 5) rfl) (by decide +kernel) (ab_al ab_Bw_14 (i := 5) rfl)
theorem ab_K_X10_addEvent : ab_ok ab_G ab_M_X10_addEvent := ab_ok_of4 (ab_al ab_Bc_14 (i := 6) rfl) (ab_al ab_Br_14 (i := 6) rfl) (by decide +kernel) (ab_al ab_Bw_14 (i := 6) rfl)
theorem ab_K_X10_addCure : ab_ok ab_G ab_M_X10_addCure := ab_ok_of4 (ab_al ab_Bc_14 (i := 7) rfl) (ab_al ab_Br_14 (i := 7) rfl) (by decide +kernel) (ab_al ab_Bw_14 (i := 7) rfl)
theorem ab_K_X10_dropCure : ab_ok ab_G ab_M_X10_dropCure := ab_ok_of4 (ab_al ab_Bc_14 (i := 8) rfl) (ab_al ab_Br_14 (i := 8) rfl) (by decide +kernel) (ab_al ab_Bw_14 (i := 8) rfl)
theorem ab_K_X10_tryCure : ab_ok ab_G ab_M_X10_tryCure := ab_ok_of4 (ab_al ab_Bc_14 (i := 9) rfl) (ab_al ab_Br_14 (i := 9) rfl) (by decide +kernel) (ab_al ab_Bw_14 (i := 9) rfl)
theorem ab_K_X10_would : ab_ok ab_G ab_M_X10_would := ab_ok_of4 (ab_al ab_Bc_14 (i := 10) rfl) (ab_al ab_Br_14 (i := 10) rfl) (by decide +kernel) (ab_al ab_Bw_14 (i := 10) rfl)
theorem ab_K_X10_cure : ab_ok ab_G ab_M_X10_cure := ab_ok_of4 (ab_al ab_Bc_14 (i := 11) rfl) (ab_al ab_Br_14 (i := 11) rfl) (by decide +kernel) (ab_al ab_Bw_14 (i := 11) rfl)
theorem ab_K_X10_cures : ab_ok ab_G ab_M_X10_cures := ab_ok_of4 (ab_al ab_Bc_14 (i := 12) rfl) (ab_al ab_Br_14 (i := 12) rfl) (by decide +kernel) (ab_al ab_Bw_14 (i := 12) rfl)
theorem ab_K_X10_delay : ab_ok ab_G ab_M_X10_delay := ab_ok_of4 (ab_al ab_Bc_14 (i := 13) rfl) (ab_al ab_Br_14 (i := 13) rfl) (by decide +kernel) (ab_al ab_Bw_14 (i := 13) rfl)
theorem ab_K_X10_sizeOf : ab_ok ab_G ab_M_X10_sizeOf := ab_ok_of4 (ab_al ab_Bc_14 (i := 14) rfl) (ab_al ab_Br_14 (i := 14) rfl) (by decide +kernel) (ab_al ab_Bw_14 (i := 14) rfl)
theorem ab_K_X10_leastOf : ab_ok ab_G ab_M_X10_leastOf := ab_ok_of4 (ab_al ab_Bc_14 (i := 15) rfl) (ab_al ab_Br_14 (i := 15) rfl) (by decide +kernel) (ab_al ab_Bw_14 (i := 15) rfl)
theorem ab_Bc_15 : [ab_M_X10_layWays, ab_M_X10_isGraph, ab_M_X10_hasRing, ab_M_X10_divisor, ab_M_X10_beat].all ab_cb = true := by decide +kernel
theorem ab_Br_15 : [ab_M_X10_layWays, ab_M_X10_isGraph, ab_M_X10_hasRing, ab_M_X10_divisor, ab_M_X10_beat].all ab_mr = true := by decide +kernel
theorem ab_Bw_15 : [ab_M_X10_layWays, ab_M_X10_isGraph, ab_M_X10_hasRing, ab_M_X10_divisor, ab_M_X10_beat].all ab_pw = true := by decide +kernel
theorem ab_K_X10_layWays : ab_ok ab_G ab_M_X10_layWays := ab_ok_of4 (ab_al ab_Bc_15 (i := 0) rfl) (ab_al ab_Br_15 (i := 0) rfl) (by decide +kernel) (ab_al ab_Bw_15 (i := 0) rfl)
theorem ab_K_X10_isGraph : ab_ok ab_G ab_M_X10_isGraph := ab_ok_of4 (ab_al ab_Bc_15 (i := 1) rfl) (ab_al ab_Br_15 (i := 1) rfl) (by decide +kernel) (ab_al ab_Bw_15 (i := 1) rfl)
theorem ab_K_X10_hasRing : ab_ok ab_G ab_M_X10_hasRing := ab_ok_of4 (ab_al ab_Bc_15 (i := 2) rfl) (ab_al ab_Br_15 (i := 2) rfl) (by decide +kernel) (ab_al ab_Bw_15 (i := 2) rfl)
theorem ab_K_X10_divisor : ab_ok ab_G ab_M_X10_divisor := ab_ok_of4 (ab_al ab_Bc_15 (i := 3) rfl) (ab_al ab_Br_15 (i := 3) rfl) (by decide +kernel) (ab_al ab_Bw_15 (i := 3) rfl)
theorem ab_K_X10_beat : ab_ok ab_G ab_M_X10_beat := ab_ok_of4 (ab_al ab_Bc_15 (i := 4) rfl) (ab_al ab_Br_15 (i := 4) rfl) (by decide +kernel) (ab_al ab_Bw_15 (i := 4) rfl)
