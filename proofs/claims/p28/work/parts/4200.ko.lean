def ka_0 : List sx_AA := []
theorem ko_0 : sx_kok sx_SP sx_KT kc_0 ka_0 [] 3000 = true := by decide +kernel
def ka_1 : List sx_AA := []
theorem ko_1 : sx_kok sx_SP sx_KT kc_1 ka_1 [] 3000 = true := by decide +kernel
def ka_2 : List sx_AA := []
theorem ko_2 : sx_kok sx_SP sx_KT kc_2 ka_2 [] 3000 = true := by decide +kernel
def ka_3 : List sx_AA := []
theorem ko_3 : sx_kok sx_SP sx_KT kc_3 ka_3 [] 3000 = true := by decide +kernel
def ka_4 : List sx_AA := []
theorem ko_4 : sx_kok sx_SP sx_KT kc_4 ka_4 [] 3000 = true := by decide +kernel
def ka_5 : List sx_AA := [(4, ([(0, .inr (1, 41)), (1, .inl (0, (0, [(1, 1)]))), (2, .inl (0, (0, [(2, 1)]))), (3, .inl (0, (0, [(3, 1)])))], [], [], [], [(1, 0, 5), (2, (-2147483648), 2147483647), (3, 0, 16)], [], 4), (16, [(3, (-1))]))]
theorem ko_5 : sx_kok sx_SP sx_KT kc_5 ka_5 [] 3000 = true := by decide +kernel
def ka_6 : List sx_AA := []
theorem ko_6 : sx_kok sx_SP sx_KT kc_6 ka_6 [] 3000 = true := by decide +kernel
def ka_7 : List sx_AA := []
theorem ko_7 : sx_kok sx_SP sx_KT kc_7 ka_7 [] 3000 = true := by decide +kernel
def ka_8 : List sx_AA := [(4, ([(0, .inr (1, 52)), (1, .inl (0, (0, [(1, 1)]))), (2, .inl (0, (0, [(2, 1)]))), (3, .inl (0, (0, [(3, 1)])))], [], [], [], [(1, 0, 5), (2, (-2147483648), 2147483647), (3, 0, 16)], [], 4), (16, [(3, (-1))]))]
theorem ko_8 : sx_kok sx_SP sx_KT kc_8 ka_8 [] 3000 = true := by decide +kernel
def ka_9 : List sx_AA := []
theorem ko_9 : sx_kok sx_SP sx_KT kc_9 ka_9 [] 3000 = true := by decide +kernel
def ka_10 : List sx_AA := []
theorem ko_10 : sx_kok sx_SP sx_KT kc_10 ka_10 [] 3000 = true := by decide +kernel
def ka_11 : List sx_AA := []
theorem ko_11 : sx_kok sx_SP sx_KT kc_11 ka_11 [] 3000 = true := by decide +kernel
def ka_12 : List sx_AA := [(15, ([(0, .inr (1, 82)), (1, .inl (0, (0, [(1, 1)]))), (2, .inl (0, (0, [(2, 1)]))), (3, .inl (0, (0, [(3, 1)]))), (4, .inl (0, (0, [(4, 1)])))], [], [], [], [(1, 0, 5), (2, (-2147483648), 2147483647), (3, (-2147483648), 2147483647), (4, 0, 16)], [], 5), (16, [(4, (-1))]))]
theorem ko_12 : sx_kok sx_SP sx_KT kc_12 ka_12 [] 3000 = true := by decide +kernel
def ka_13 : List sx_AA := []
theorem ko_13 : sx_kok sx_SP sx_KT kc_13 ka_13 [] 3000 = true := by decide +kernel
def ka_14 : List sx_AA := []
theorem ko_14 : sx_kok sx_SP sx_KT kc_14 ka_14 [] 3000 = true := by decide +kernel
def ka_15 : List sx_AA := [(5, ([(0, .inr (1, 81)), (1, .inl (0, (0, []))), (2, .inl (0, (0, [(1, 1)]))), (3, .inl (0, (64, [])))], [], [], [], [(1, 0, 64)], [], 2), (64, [(1, (-1))]))]
theorem ko_15 : sx_kok sx_SP sx_KT kc_15 ka_15 [] 3000 = true := by decide +kernel
def ka_16 : List sx_AA := []
theorem ko_16 : sx_kok sx_SP sx_KT kc_16 ka_16 [] 3000 = true := by decide +kernel
def ka_17 : List sx_AA := [(5, ([(0, .inr (1, 79)), (1, .inl (0, (0, []))), (2, .inl (0, (0, [(1, 1)]))), (3, .inl (0, (64, [])))], [], [], [], [(1, 0, 64)], [], 2), (64, [(1, (-1))]))]
theorem ko_17 : sx_kok sx_SP sx_KT kc_17 ka_17 [] 3000 = true := by decide +kernel
def ka_18 : List sx_AA := []
theorem ko_18 : sx_kok sx_SP sx_KT kc_18 ka_18 [] 3000 = true := by decide +kernel
def ka_19 : List sx_AA := [(5, ([(0, .inr (1, 77)), (1, .inl (0, (0, []))), (2, .inl (0, (0, [(1, 1)]))), (3, .inl (0, (64, [])))], [], [], [], [(1, 0, 64)], [], 2), (64, [(1, (-1))]))]
theorem ko_19 : sx_kok sx_SP sx_KT kc_19 ka_19 [] 3000 = true := by decide +kernel
def ka_20 : List sx_AA := []
theorem ko_20 : sx_kok sx_SP sx_KT kc_20 ka_20 [] 3000 = true := by decide +kernel
def ka_21 : List sx_AA := [(5, ([(0, .inr (1, 75)), (1, .inl (0, (0, []))), (2, .inl (0, (0, [(1, 1)]))), (3, .inl (0, (64, [])))], [], [], [], [(1, 0, 64)], [], 2), (64, [(1, (-1))]))]
theorem ko_21 : sx_kok sx_SP sx_KT kc_21 ka_21 [] 3000 = true := by decide +kernel
def ka_22 : List sx_AA := []
theorem ko_22 : sx_kok sx_SP sx_KT kc_22 ka_22 [] 3000 = true := by decide +kernel
def ka_23 : List sx_AA := []
theorem ko_23 : sx_kok sx_SP sx_KT kc_23 ka_23 [] 3000 = true := by decide +kernel
def ka_24 : List sx_AA := []
theorem ko_24 : sx_kok sx_SP sx_KT kc_24 ka_24 [] 3000 = true := by decide +kernel
def ka_25 : List sx_AA := []
theorem ko_25 : sx_kok sx_SP sx_KT kc_25 ka_25 [] 3000 = true := by decide +kernel
def ka_26 : List sx_AA := []
theorem ko_26 : sx_kok sx_SP sx_KT kc_26 ka_26 [] 3000 = true := by decide +kernel
def ka_27 : List sx_AA := [(56, ([(0, .inr (1, 82)), (1, .inl (0, (0, [(1, 1)]))), (2, .inl (0, (0, [(2, 1)]))), (3, .inl (0, (0, [(3, 1)]))), (4, .inl (0, (0, [(4, 1)])))], [], [], [], [(1, 0, 3), (2, 0, 2), (3, 0, 64), (4, 0, 64)], [], 5), (64, [(4, (-1))]))]
theorem ko_27 : sx_kok sx_SP sx_KT kc_27 ka_27 [] 3000 = true := by decide +kernel
