def ka_0 : List sx_AA := []
theorem ko_0 : sx_kok sx_SP sx_KT kc_0 ka_0 [] 3000 = true := by decide +kernel
def ka_1 : List sx_AA := []
theorem ko_1 : sx_kok sx_SP sx_KT kc_1 ka_1 [] 3000 = true := by decide +kernel
def ka_2 : List sx_AA := []
theorem ko_2 : sx_kok sx_SP sx_KT kc_2 ka_2 [] 3000 = true := by decide +kernel
def ka_3 : List sx_AA := []
theorem ko_3 : sx_kok sx_SP sx_KT kc_3 ka_3 [] 3000 = true := by decide +kernel
def ka_4 : List sx_AA := []
theorem ko_4 : sx_kok sx_SP sx_KT kc_4 ka_4 [] 3000 = true := by decide +kernel
def ka_5 : List sx_AA := []
theorem ko_5 : sx_kok sx_SP sx_KT kc_5 ka_5 [] 3000 = true := by decide +kernel
def ka_6 : List sx_AA := []
theorem ko_6 : sx_kok sx_SP sx_KT kc_6 ka_6 [] 3000 = true := by decide +kernel
def ka_7 : List sx_AA := []
theorem ko_7 : sx_kok sx_SP sx_KT kc_7 ka_7 [] 3000 = true := by decide +kernel
def ka_8 : List sx_AA := []
theorem ko_8 : sx_kok sx_SP sx_KT kc_8 ka_8 [] 3000 = true := by decide +kernel
def ka_9 : List sx_AA := []
theorem ko_9 : sx_kok sx_SP sx_KT kc_9 ka_9 [] 3000 = true := by decide +kernel
def ka_10 : List sx_AA := []
theorem ko_10 : sx_kok sx_SP sx_KT kc_10 ka_10 [] 3000 = true := by decide +kernel
def ka_11 : List sx_AA := []
theorem ko_11 : sx_kok sx_SP sx_KT kc_11 ka_11 [] 3000 = true := by decide +kernel
def ka_12 : List sx_AA := []
theorem ko_12 : sx_kok sx_SP sx_KT kc_12 ka_12 [] 3000 = true := by decide +kernel
def ka_13 : List sx_AA := []
theorem ko_13 : sx_kok sx_SP sx_KT kc_13 ka_13 [] 3000 = true := by decide +kernel
def ka_14 : List sx_AA := []
theorem ko_14 : sx_kok sx_SP sx_KT kc_14 ka_14 [] 3000 = true := by decide +kernel
def ka_15 : List sx_AA := [(8, ([(0, .inr (1, 2))], [], [(257, .inl (0, (0, [(1, 1)]))), (260, .inl (0, (0, [(2, 1)])))], [], [(1, 0, 240), (2, 0, 240)], [], 3), (480, [(2, (-1))])), (109, ([(0, .inr (1, 2))], [], [(257, .inl (0, (0, [(1, 1)]))), (260, .inl (0, (0, [(2, 1)])))], [], [(1, 1, 240), (2, 1, 240)], [], 3), (240, [(2, (-1))]))]
theorem ko_15 : sx_kok sx_SP sx_KT kc_15 ka_15 [] 3000 = true := by decide +kernel
def ka_16 : List sx_AA := []
theorem ko_16 : sx_kok sx_SP sx_KT kc_16 ka_16 [] 3000 = true := by decide +kernel
def ka_17 : List sx_AA := []
theorem ko_17 : sx_kok sx_SP sx_KT kc_17 ka_17 [] 3000 = true := by decide +kernel
def ka_18 : List sx_AA := []
theorem ko_18 : sx_kok sx_SP sx_KT kc_18 ka_18 [] 3000 = true := by decide +kernel
def ka_19 : List sx_AA := []
theorem ko_19 : sx_kok sx_SP sx_KT kc_19 ka_19 [] 3000 = true := by decide +kernel
def ka_20 : List sx_AA := []
theorem ko_20 : sx_kok sx_SP sx_KT kc_20 ka_20 [] 3000 = true := by decide +kernel
def ka_21 : List sx_AA := []
theorem ko_21 : sx_kok sx_SP sx_KT kc_21 ka_21 [] 3000 = true := by decide +kernel
def ka_22 : List sx_AA := []
theorem ko_22 : sx_kok sx_SP sx_KT kc_22 ka_22 [] 3000 = true := by decide +kernel
def ka_23 : List sx_AA := [(28, ([(0, .inr (1, 2)), (1, .inr (2, 1)), (2, .inl (0, (0, [(1, 1)])))], [], [], [], [(1, 0, 2)], [], 2), (2, [(1, (-1))]))]
theorem ko_23 : sx_kok sx_SP sx_KT kc_23 ka_23 [] 3000 = true := by decide +kernel
def ka_24 : List sx_AA := []
theorem ko_24 : sx_kok sx_SP sx_KT kc_24 ka_24 [] 3000 = true := by decide +kernel
def ka_25 : List sx_AA := []
theorem ko_25 : sx_kok sx_SP sx_KT kc_25 ka_25 [] 3000 = true := by decide +kernel
def ka_26 : List sx_AA := [(2, ([(0, .inr (1, 52)), (1, .inl (0, (0, [(1, 1)]))), (2, .inl (0, (0, [(2, 1)])))], [], [], [], [(1, (-2147483648), 31), (2, 0, 6)], [], 3), (6, [(2, (-1))]))]
theorem ko_26 : sx_kok sx_SP sx_KT kc_26 ka_26 [] 3000 = true := by decide +kernel
def ka_27 : List sx_AA := []
theorem ko_27 : sx_kok sx_SP sx_KT kc_27 ka_27 [] 3000 = true := by decide +kernel
def ka_28 : List sx_AA := []
theorem ko_28 : sx_kok sx_SP sx_KT kc_28 ka_28 [] 3000 = true := by decide +kernel
def ka_29 : List sx_AA := []
theorem ko_29 : sx_kok sx_SP sx_KT kc_29 ka_29 [] 3000 = true := by decide +kernel
def ka_30 : List sx_AA := []
theorem ko_30 : sx_kok sx_SP sx_KT kc_30 ka_30 [] 3000 = true := by decide +kernel
def ka_31 : List sx_AA := []
theorem ko_31 : sx_kok sx_SP sx_KT kc_31 ka_31 [] 3000 = true := by decide +kernel
def ka_32 : List sx_AA := []
theorem ko_32 : sx_kok sx_SP sx_KT kc_32 ka_32 [] 3000 = true := by decide +kernel
def ka_33 : List sx_AA := []
theorem ko_33 : sx_kok sx_SP sx_KT kc_33 ka_33 [] 3000 = true := by decide +kernel
def ka_34 : List sx_AA := []
theorem ko_34 : sx_kok sx_SP sx_KT kc_34 ka_34 [] 3000 = true := by decide +kernel
def ka_35 : List sx_AA := []
theorem ko_35 : sx_kok sx_SP sx_KT kc_35 ka_35 [] 3000 = true := by decide +kernel
def ka_36 : List sx_AA := []
theorem ko_36 : sx_kok sx_SP sx_KT kc_36 ka_36 [] 3000 = true := by decide +kernel
def ka_37 : List sx_AA := []
theorem ko_37 : sx_kok sx_SP sx_KT kc_37 ka_37 [] 3000 = true := by decide +kernel
def ka_38 : List sx_AA := []
theorem ko_38 : sx_kok sx_SP sx_KT kc_38 ka_38 [] 3000 = true := by decide +kernel
def ka_39 : List sx_AA := []
theorem ko_39 : sx_kok sx_SP sx_KT kc_39 ka_39 [] 3000 = true := by decide +kernel
def ka_40 : List sx_AA := [(28, ([(0, .inr (1, 2)), (1, .inr (2, 2)), (2, .inl (0, (0, [(1, 1)])))], [], [], [], [(1, 0, 3)], [], 2), (3, [(1, (-1))]))]
theorem ko_40 : sx_kok sx_SP sx_KT kc_40 ka_40 [] 3000 = true := by decide +kernel
def ka_41 : List sx_AA := []
theorem ko_41 : sx_kok sx_SP sx_KT kc_41 ka_41 [] 3000 = true := by decide +kernel
def ka_42 : List sx_AA := []
theorem ko_42 : sx_kok sx_SP sx_KT kc_42 ka_42 [] 3000 = true := by decide +kernel
def ka_43 : List sx_AA := []
theorem ko_43 : sx_kok sx_SP sx_KT kc_43 ka_43 [] 3000 = true := by decide +kernel
def ka_44 : List sx_AA := []
theorem ko_44 : sx_kok sx_SP sx_KT kc_44 ka_44 [] 3000 = true := by decide +kernel
def ka_45 : List sx_AA := []
theorem ko_45 : sx_kok sx_SP sx_KT kc_45 ka_45 [] 3000 = true := by decide +kernel
def ka_46 : List sx_AA := []
theorem ko_46 : sx_kok sx_SP sx_KT kc_46 ka_46 [] 3000 = true := by decide +kernel
def ka_47 : List sx_AA := []
theorem ko_47 : sx_kok sx_SP sx_KT kc_47 ka_47 [] 3000 = true := by decide +kernel
def ka_48 : List sx_AA := []
theorem ko_48 : sx_kok sx_SP sx_KT kc_48 ka_48 [] 3000 = true := by decide +kernel
def ka_49 : List sx_AA := []
theorem ko_49 : sx_kok sx_SP sx_KT kc_49 ka_49 [] 3000 = true := by decide +kernel
def ka_50 : List sx_AA := [(28, ([(0, .inr (1, 2)), (1, .inr (2, 3)), (2, .inl (0, (0, [(1, 1)])))], [], [], [], [(1, 0, 5)], [], 2), (5, [(1, (-1))]))]
theorem ko_50 : sx_kok sx_SP sx_KT kc_50 ka_50 [] 3000 = true := by decide +kernel
def ka_51 : List sx_AA := []
theorem ko_51 : sx_kok sx_SP sx_KT kc_51 ka_51 [] 3000 = true := by decide +kernel
def ka_52 : List sx_AA := []
theorem ko_52 : sx_kok sx_SP sx_KT kc_52 ka_52 [] 3000 = true := by decide +kernel
def ka_53 : List sx_AA := []
theorem ko_53 : sx_kok sx_SP sx_KT kc_53 ka_53 [] 3000 = true := by decide +kernel
def ka_54 : List sx_AA := []
theorem ko_54 : sx_kok sx_SP sx_KT kc_54 ka_54 [] 3000 = true := by decide +kernel
def ka_55 : List sx_AA := []
theorem ko_55 : sx_kok sx_SP sx_KT kc_55 ka_55 [] 3000 = true := by decide +kernel
def ka_56 : List sx_AA := []
theorem ko_56 : sx_kok sx_SP sx_KT kc_56 ka_56 [] 3000 = true := by decide +kernel
def ka_57 : List sx_AA := []
theorem ko_57 : sx_kok sx_SP sx_KT kc_57 ka_57 [] 3000 = true := by decide +kernel
def ka_58 : List sx_AA := [(28, ([(0, .inr (1, 2)), (1, .inr (2, 4)), (2, .inl (0, (0, [(1, 1)])))], [], [], [], [(1, 0, 5)], [], 2), (5, [(1, (-1))]))]
theorem ko_58 : sx_kok sx_SP sx_KT kc_58 ka_58 [] 3000 = true := by decide +kernel
def ka_59 : List sx_AA := []
theorem ko_59 : sx_kok sx_SP sx_KT kc_59 ka_59 [] 3000 = true := by decide +kernel
def ka_60 : List sx_AA := []
theorem ko_60 : sx_kok sx_SP sx_KT kc_60 ka_60 [] 3000 = true := by decide +kernel
def ka_61 : List sx_AA := []
theorem ko_61 : sx_kok sx_SP sx_KT kc_61 ka_61 [] 3000 = true := by decide +kernel
def ka_62 : List sx_AA := [(3, ([(0, .inr (1, 52)), (1, .inl (0, (0, [(1, 1)]))), (2, .inl (0, (1, []))), (3, .inl (0, (0, [(2, 1)]))), (4, .inl (0, (0, [(3, 1)])))], [], [], [], [(1, 0, 5), (2, (-2147483648), 99), (3, 0, 16)], [], 4), (16, [(3, (-1))]))]
theorem ko_62 : sx_kok sx_SP sx_KT kc_62 ka_62 [] 3000 = true := by decide +kernel
def ka_63 : List sx_AA := []
theorem ko_63 : sx_kok sx_SP sx_KT kc_63 ka_63 [] 3000 = true := by decide +kernel
def ka_64 : List sx_AA := []
theorem ko_64 : sx_kok sx_SP sx_KT kc_64 ka_64 [] 3000 = true := by decide +kernel
def ka_65 : List sx_AA := []
theorem ko_65 : sx_kok sx_SP sx_KT kc_65 ka_65 [] 3000 = true := by decide +kernel
def ka_66 : List sx_AA := [(3, ([(0, .inr (1, 52)), (1, .inl (0, (0, [(1, 1)]))), (2, .inl (0, (0, []))), (3, .inl (0, (0, [(2, 1)]))), (4, .inl (0, (0, [(3, 1)])))], [], [], [], [(1, 0, 5), (2, (-2147483648), 99), (3, 0, 16)], [], 4), (16, [(3, (-1))]))]
theorem ko_66 : sx_kok sx_SP sx_KT kc_66 ka_66 [] 3000 = true := by decide +kernel
def ka_67 : List sx_AA := []
theorem ko_67 : sx_kok sx_SP sx_KT kc_67 ka_67 [] 3000 = true := by decide +kernel
def ka_68 : List sx_AA := []
theorem ko_68 : sx_kok sx_SP sx_KT kc_68 ka_68 [] 3000 = true := by decide +kernel
def ka_69 : List sx_AA := []
theorem ko_69 : sx_kok sx_SP sx_KT kc_69 ka_69 [] 3000 = true := by decide +kernel
def ka_70 : List sx_AA := []
theorem ko_70 : sx_kok sx_SP sx_KT kc_70 ka_70 [] 3000 = true := by decide +kernel
def ka_71 : List sx_AA := []
theorem ko_71 : sx_kok sx_SP sx_KT kc_71 ka_71 [] 3000 = true := by decide +kernel
def ka_72 : List sx_AA := []
theorem ko_72 : sx_kok sx_SP sx_KT kc_72 ka_72 [] 3000 = true := by decide +kernel
def ka_73 : List sx_AA := []
theorem ko_73 : sx_kok sx_SP sx_KT kc_73 ka_73 [] 3000 = true := by decide +kernel
def ka_74 : List sx_AA := []
theorem ko_74 : sx_kok sx_SP sx_KT kc_74 ka_74 [] 3000 = true := by decide +kernel
def ka_75 : List sx_AA := [(56, ([(0, .inr (1, 52)), (1, .inl (0, (0, [(1, 1)]))), (2, .inl (0, (0, [(2, 1)]))), (3, .inl (0, (0, [(3, 1)]))), (4, .inl (0, (0, [(5, 1)]))), (5, .inl (0, (0, [(6, 1)])))], [], [(6658, .inl (0, (0, [(4, 1)])))], [], [(1, 0, 65535), (2, 0, 65535), (3, (-2147483648), 1), (4, 0, 19), (5, 1, 524288), (6, 0, 16)], [], 7), (16, [(6, (-1))]))]
theorem ko_75 : sx_kok sx_SP sx_KT kc_75 ka_75 [] 3000 = true := by decide +kernel
def ka_76 : List sx_AA := [(31, ([(0, .inr (1, 2)), (1, .inl (0, (0, [(1, 1)]))), (2, .inl (0, (0, [(2, 1)])))], [], [(264, .inr (1, 52))], [], [(1, 0, 65535), (2, 0, 19)], [], 3), (36, [(2, (-1))])), (72, ([(0, .inr (1, 2)), (1, .inl (0, (0, [(1, 1)]))), (2, .inl (0, (0, [(2, 1)]))), (3, .inl (0, (0, [(3, 1)])))], [], [(264, .inr (1, 52))], [], [(1, 0, 65535), (2, 0, 65535), (3, 0, 16)], [], 4), (16, [(3, (-1))]))]
theorem ko_76 : sx_kok sx_SP sx_KT kc_76 ka_76 [] 3000 = true := by decide +kernel
def ka_77 : List sx_AA := []
theorem ko_77 : sx_kok sx_SP sx_KT kc_77 ka_77 [] 3000 = true := by decide +kernel
def ka_78 : List sx_AA := [(33, ([(0, .inr (1, 2)), (1, .inr (1, 52)), (2, .inl (0, (0, [(1, 1)])))], [], [(264, .inr (1, 52))], [], [(1, 0, 240)], [], 2), (240, [(1, (-1))]))]
theorem ko_78 : sx_kok sx_SP sx_KT kc_78 ka_78 [] 3000 = true := by decide +kernel
def ka_79 : List sx_AA := []
theorem ko_79 : sx_kok sx_SP sx_KT kc_79 ka_79 [] 3000 = true := by decide +kernel
def ka_80 : List sx_AA := []
theorem ko_80 : sx_kok sx_SP sx_KT kc_80 ka_80 [] 3000 = true := by decide +kernel
def ka_81 : List sx_AA := []
theorem ko_81 : sx_kok sx_SP sx_KT kc_81 ka_81 [] 3000 = true := by decide +kernel
def ka_82 : List sx_AA := [(2, ([(0, .inr (1, 41)), (1, .inl (0, (0, [(1, 1)]))), (2, .inl (0, (0, [(2, 1)])))], [], [], [], [(1, (-2147483648), 31), (2, 0, 6)], [], 3), (6, [(2, (-1))]))]
theorem ko_82 : sx_kok sx_SP sx_KT kc_82 ka_82 [] 3000 = true := by decide +kernel
def ka_83 : List sx_AA := []
theorem ko_83 : sx_kok sx_SP sx_KT kc_83 ka_83 [] 3000 = true := by decide +kernel
def ka_84 : List sx_AA := []
theorem ko_84 : sx_kok sx_SP sx_KT kc_84 ka_84 [] 3000 = true := by decide +kernel
def ka_85 : List sx_AA := []
theorem ko_85 : sx_kok sx_SP sx_KT kc_85 ka_85 [] 3000 = true := by decide +kernel
def ka_86 : List sx_AA := []
theorem ko_86 : sx_kok sx_SP sx_KT kc_86 ka_86 [] 3000 = true := by decide +kernel
def ka_87 : List sx_AA := []
theorem ko_87 : sx_kok sx_SP sx_KT kc_87 ka_87 [] 3000 = true := by decide +kernel
def ka_88 : List sx_AA := []
theorem ko_88 : sx_kok sx_SP sx_KT kc_88 ka_88 [] 3000 = true := by decide +kernel
def ka_89 : List sx_AA := [(3, ([(0, .inr (1, 41)), (1, .inl (0, (0, [(1, 1)]))), (2, .inl (0, (1, []))), (3, .inl (0, (0, [(2, 1)]))), (4, .inl (0, (0, [(3, 1)])))], [], [], [], [(1, 0, 5), (2, (-2147483648), 99), (3, 0, 16)], [], 4), (16, [(3, (-1))]))]
theorem ko_89 : sx_kok sx_SP sx_KT kc_89 ka_89 [] 3000 = true := by decide +kernel
def ka_90 : List sx_AA := []
theorem ko_90 : sx_kok sx_SP sx_KT kc_90 ka_90 [] 3000 = true := by decide +kernel
def ka_91 : List sx_AA := []
theorem ko_91 : sx_kok sx_SP sx_KT kc_91 ka_91 [] 3000 = true := by decide +kernel
def ka_92 : List sx_AA := [(3, ([(0, .inr (1, 41)), (1, .inl (0, (0, [(1, 1)]))), (2, .inl (0, (0, []))), (3, .inl (0, (0, [(2, 1)]))), (4, .inl (0, (0, [(3, 1)])))], [], [], [], [(1, 0, 5), (2, (-2147483648), 99), (3, 0, 16)], [], 4), (16, [(3, (-1))]))]
theorem ko_92 : sx_kok sx_SP sx_KT kc_92 ka_92 [] 3000 = true := by decide +kernel
def ka_93 : List sx_AA := []
theorem ko_93 : sx_kok sx_SP sx_KT kc_93 ka_93 [] 3000 = true := by decide +kernel
def ka_94 : List sx_AA := []
theorem ko_94 : sx_kok sx_SP sx_KT kc_94 ka_94 [] 3000 = true := by decide +kernel
def ka_95 : List sx_AA := []
theorem ko_95 : sx_kok sx_SP sx_KT kc_95 ka_95 [] 3000 = true := by decide +kernel
def ka_96 : List sx_AA := []
theorem ko_96 : sx_kok sx_SP sx_KT kc_96 ka_96 [] 3000 = true := by decide +kernel
def ka_97 : List sx_AA := [(56, ([(0, .inr (1, 41)), (1, .inl (0, (0, [(1, 1)]))), (2, .inl (0, (0, [(2, 1)]))), (3, .inl (0, (0, [(3, 1)]))), (4, .inl (0, (0, [(5, 1)]))), (5, .inl (0, (0, [(6, 1)])))], [], [(5250, .inl (0, (0, [(4, 1)])))], [], [(1, 0, 65535), (2, 0, 65535), (3, (-2147483648), 1), (4, 0, 19), (5, 1, 524288), (6, 0, 16)], [], 7), (16, [(6, (-1))]))]
theorem ko_97 : sx_kok sx_SP sx_KT kc_97 ka_97 [] 3000 = true := by decide +kernel
def ka_98 : List sx_AA := [(31, ([(0, .inr (1, 2)), (1, .inl (0, (0, [(1, 1)]))), (2, .inl (0, (0, [(2, 1)])))], [], [(264, .inr (1, 41))], [], [(1, 0, 65535), (2, 0, 19)], [], 3), (36, [(2, (-1))])), (72, ([(0, .inr (1, 2)), (1, .inl (0, (0, [(1, 1)]))), (2, .inl (0, (0, [(2, 1)]))), (3, .inl (0, (0, [(3, 1)])))], [], [(264, .inr (1, 41))], [], [(1, 0, 65535), (2, 0, 65535), (3, 0, 16)], [], 4), (16, [(3, (-1))]))]
theorem ko_98 : sx_kok sx_SP sx_KT kc_98 ka_98 [] 3000 = true := by decide +kernel
def ka_99 : List sx_AA := []
theorem ko_99 : sx_kok sx_SP sx_KT kc_99 ka_99 [] 3000 = true := by decide +kernel
def ka_100 : List sx_AA := [(33, ([(0, .inr (1, 2)), (1, .inr (1, 41)), (2, .inl (0, (0, [(1, 1)])))], [], [(264, .inr (1, 41))], [], [(1, 0, 240)], [], 2), (240, [(1, (-1))]))]
theorem ko_100 : sx_kok sx_SP sx_KT kc_100 ka_100 [] 3000 = true := by decide +kernel
def ka_101 : List sx_AA := []
theorem ko_101 : sx_kok sx_SP sx_KT kc_101 ka_101 [] 3000 = true := by decide +kernel
def ka_102 : List sx_AA := []
theorem ko_102 : sx_kok sx_SP sx_KT kc_102 ka_102 [] 3000 = true := by decide +kernel
def ka_103 : List sx_AA := []
theorem ko_103 : sx_kok sx_SP sx_KT kc_103 ka_103 [] 3000 = true := by decide +kernel
def ka_104 : List sx_AA := []
theorem ko_104 : sx_kok sx_SP sx_KT kc_104 ka_104 [] 3000 = true := by decide +kernel
def ka_105 : List sx_AA := []
theorem ko_105 : sx_kok sx_SP sx_KT kc_105 ka_105 [] 3000 = true := by decide +kernel
def ka_106 : List sx_AA := []
theorem ko_106 : sx_kok sx_SP sx_KT kc_106 ka_106 [] 3000 = true := by decide +kernel
def ka_107 : List sx_AA := [(8, ([(0, .inr (1, 82))], [], [(10509, .inl (0, (0, [(1, 1)]))), (10511, .inl (0, (0, []))), (10513, .inl (0, (0, [(2, 1)])))], [], [(1, 0, 240), (2, 0, 240)], [(0, [(2, (-1))])], 3), (722, [(2, (-1))])), (84, ([(0, .inr (1, 82)), (1, .inl (0, (0, [(2, 1)])))], [], [(10509, .inl (0, (0, [(1, 1)]))), (10511, .inl (0, (0, []))), (10513, .inl (0, (0, [(3, 1)])))], [], [(1, 1, 240), (2, 97, 122), (3, 0, 240)], [(0, [(3, (-1))])], 4), (240, [(3, (-1))])), (182, ([(0, .inr (1, 82)), (1, .inl (0, (0, [(2, 1)])))], [], [(10509, .inl (0, (0, [(1, 1)]))), (10511, .inl (0, (0, []))), (10513, .inl (0, (0, [(3, 1)])))], [], [(1, 1, 240), (2, 48, 57), (3, 0, 240)], [(0, [(3, (-1))])], 4), (481, [(3, (-1))]))]
theorem ko_107 : sx_kok sx_SP sx_KT kc_107 ka_107 [] 3000 = true := by decide +kernel
def ka_108 : List sx_AA := []
theorem ko_108 : sx_kok sx_SP sx_KT kc_108 ka_108 [] 3000 = true := by decide +kernel
def ka_109 : List sx_AA := []
theorem ko_109 : sx_kok sx_SP sx_KT kc_109 ka_109 [] 3000 = true := by decide +kernel
def ka_110 : List sx_AA := []
theorem ko_110 : sx_kok sx_SP sx_KT kc_110 ka_110 [] 3000 = true := by decide +kernel
def ka_111 : List sx_AA := [(8, ([(0, .inr (1, 82))], [], [(10509, .inl (0, (0, [(2, 1)]))), (10511, .inl (0, (0, []))), (10513, .inl (0, (0, [(3, 1)])))], [], [(1, 0, 240), (2, 0, 240), (3, 0, 240)], [(0, [(1, 1), (3, (-1))])], 4), (722, [(3, (-1))])), (84, ([(0, .inr (1, 82)), (1, .inl (0, (0, [(3, 1)])))], [], [(10509, .inl (0, (0, [(2, 1)]))), (10511, .inl (0, (0, []))), (10513, .inl (0, (0, [(4, 1)])))], [], [(1, 0, 240), (2, 1, 240), (3, 97, 122), (4, 0, 240)], [(0, [(1, 1), (4, (-1))])], 5), (240, [(4, (-1))])), (182, ([(0, .inr (1, 82)), (1, .inl (0, (0, [(3, 1)])))], [], [(10509, .inl (0, (0, [(2, 1)]))), (10511, .inl (0, (0, []))), (10513, .inl (0, (0, [(4, 1)])))], [], [(1, 0, 240), (2, 1, 240), (3, 48, 57), (4, 0, 240)], [(0, [(1, 1), (4, (-1))])], 5), (481, [(4, (-1))]))]
theorem ko_111 : sx_kok sx_SP sx_KT kc_111 ka_111 [] 3000 = true := by decide +kernel
def ka_112 : List sx_AA := []
theorem ko_112 : sx_kok sx_SP sx_KT kc_112 ka_112 [] 3000 = true := by decide +kernel
def ka_113 : List sx_AA := []
theorem ko_113 : sx_kok sx_SP sx_KT kc_113 ka_113 [] 3000 = true := by decide +kernel
def ka_114 : List sx_AA := []
theorem ko_114 : sx_kok sx_SP sx_KT kc_114 ka_114 [] 3000 = true := by decide +kernel
def ka_115 : List sx_AA := [(2, ([(0, .inr (1, 82)), (1, .inl (0, (0, [(1, 1)]))), (2, .inl (0, (0, [(2, 1)])))], [], [], [], [(1, (-2147483648), 2147483647), (2, 0, 6)], [], 3), (6, [(2, (-1))]))]
theorem ko_115 : sx_kok sx_SP sx_KT kc_115 ka_115 [] 3000 = true := by decide +kernel
def ka_116 : List sx_AA := []
theorem ko_116 : sx_kok sx_SP sx_KT kc_116 ka_116 [] 3000 = true := by decide +kernel
def ka_117 : List sx_AA := []
theorem ko_117 : sx_kok sx_SP sx_KT kc_117 ka_117 [] 3000 = true := by decide +kernel
def ka_118 : List sx_AA := []
theorem ko_118 : sx_kok sx_SP sx_KT kc_118 ka_118 [] 3000 = true := by decide +kernel
def ka_119 : List sx_AA := []
theorem ko_119 : sx_kok sx_SP sx_KT kc_119 ka_119 [] 3000 = true := by decide +kernel
def ka_120 : List sx_AA := []
theorem ko_120 : sx_kok sx_SP sx_KT kc_120 ka_120 [] 3000 = true := by decide +kernel
def ka_121 : List sx_AA := []
theorem ko_121 : sx_kok sx_SP sx_KT kc_121 ka_121 [] 3000 = true := by decide +kernel
def ka_122 : List sx_AA := []
theorem ko_122 : sx_kok sx_SP sx_KT kc_122 ka_122 [] 3000 = true := by decide +kernel
def ka_123 : List sx_AA := []
theorem ko_123 : sx_kok sx_SP sx_KT kc_123 ka_123 [] 3000 = true := by decide +kernel
def ka_124 : List sx_AA := []
theorem ko_124 : sx_kok sx_SP sx_KT kc_124 ka_124 [] 3000 = true := by decide +kernel
def ka_125 : List sx_AA := []
theorem ko_125 : sx_kok sx_SP sx_KT kc_125 ka_125 [] 3000 = true := by decide +kernel
def ka_126 : List sx_AA := []
theorem ko_126 : sx_kok sx_SP sx_KT kc_126 ka_126 [] 3000 = true := by decide +kernel
def ka_127 : List sx_AA := []
theorem ko_127 : sx_kok sx_SP sx_KT kc_127 ka_127 [] 3000 = true := by decide +kernel
def ka_128 : List sx_AA := []
theorem ko_128 : sx_kok sx_SP sx_KT kc_128 ka_128 [] 3000 = true := by decide +kernel
def ka_129 : List sx_AA := []
theorem ko_129 : sx_kok sx_SP sx_KT kc_129 ka_129 [] 3000 = true := by decide +kernel
def ka_130 : List sx_AA := []
theorem ko_130 : sx_kok sx_SP sx_KT kc_130 ka_130 [] 3000 = true := by decide +kernel
def ka_131 : List sx_AA := []
theorem ko_131 : sx_kok sx_SP sx_KT kc_131 ka_131 [] 3000 = true := by decide +kernel
def ka_132 : List sx_AA := []
theorem ko_132 : sx_kok sx_SP sx_KT kc_132 ka_132 [] 3000 = true := by decide +kernel
def ka_133 : List sx_AA := []
theorem ko_133 : sx_kok sx_SP sx_KT kc_133 ka_133 [] 3000 = true := by decide +kernel
def ka_134 : List sx_AA := [(183, ([(0, .inr (1, 82)), (1, .inl (0, (1, []))), (2, .inl (0, (0, [(2, 1)]))), (3, .inl (0, (0, [(3, 1)]))), (4, .inl (0, (0, [(4, 1)]))), (5, .inl (0, (0, [(5, 1)]))), (6, .inl (0, (0, [(6, 1)])))], [], [(10511, .inl (0, (0, []))), (10513, .inl (0, (0, [(7, 1)]))), (10515, .inl (0, (0, [(8, 1)]))), (10520, .inl (0, (0, [(9, 1)])))], [], [(1, 0, 239), (2, (-2147483648), 2147483647), (3, 0, 5), (4, 0, 1), (5, (-2147483648), 2147483647), (6, 0, 16), (7, 1, 240), (8, 0, 3), (9, 0, 16)], [(0, [(1, 1), (7, (-1))]), (1, [(1, 1), (7, (-1))])], 10), (16, [(6, (-1))]))]
theorem ko_134 : sx_kok sx_SP sx_KT kc_134 ka_134 [] 3000 = true := by decide +kernel
def ka_135 : List sx_AA := [(183, ([(0, .inr (1, 82)), (1, .inl (0, (0, []))), (2, .inl (0, (0, [(2, 1)]))), (3, .inl (0, (0, [(3, 1)]))), (4, .inl (0, (0, [(4, 1)]))), (5, .inl (0, (0, [(5, 1)]))), (6, .inl (0, (0, [(6, 1)])))], [], [(10511, .inl (0, (0, []))), (10513, .inl (0, (0, [(7, 1)]))), (10515, .inl (0, (0, [(8, 1)]))), (10520, .inl (0, (0, [(9, 1)])))], [], [(1, 0, 239), (2, (-2147483648), 2147483647), (3, 0, 5), (4, 0, 1), (5, (-2147483648), 2147483647), (6, 0, 16), (7, 1, 240), (8, 0, 3), (9, 0, 16)], [(0, [(1, 1), (7, (-1))]), (1, [(1, 1), (7, (-1))])], 10), (16, [(6, (-1))]))]
theorem ko_135 : sx_kok sx_SP sx_KT kc_135 ka_135 [] 3000 = true := by decide +kernel
def ka_136 : List sx_AA := []
theorem ko_136 : sx_kok sx_SP sx_KT kc_136 ka_136 [] 3000 = true := by decide +kernel
def ka_137 : List sx_AA := []
theorem ko_137 : sx_kok sx_SP sx_KT kc_137 ka_137 [] 3000 = true := by decide +kernel
def ka_138 : List sx_AA := [(19, ([(0, .inr (1, 82))], [], [(10511, .inl (0, (0, [(3, 1)]))), (10513, .inl (0, (0, [(4, 1)]))), (10515, .inl (0, (0, [(5, 1)]))), (10526, .inl (0, (0, [(2, 1)])))], [], [(1, 0, 240), (2, 0, 20), (3, 1, 6), (4, 0, 240), (5, 0, 3)], [(0, [(1, 1), (4, (-1))])], 6), (1, [])), (19, ([(0, .inr (1, 82))], [], [(10511, .inl (0, (0, []))), (10513, .inl (0, (0, [(3, 1)]))), (10515, .inl (0, (0, [(4, 1)]))), (10526, .inl (0, (0, [(2, 1)])))], [], [(1, 0, 240), (2, 0, 19), (3, 0, 240), (4, 0, 3)], [(0, [(1, 1), (3, (-1))])], 5), (483, [(3, (-1))])), (49, ([(0, .inr (1, 82)), (1, .inl (0, (0, [(3, 1)])))], [], [(10511, .inl (0, (0, [(4, 1)]))), (10513, .inl (0, (0, [(5, 1)]))), (10515, .inl (0, (0, [(6, 1)]))), (10526, .inl (0, (0, [(2, 1)])))], [], [(1, 0, 240), (2, 0, 20), (3, 0, 1), (4, 1, 6), (5, 0, 240), (6, 0, 3)], [(0, [(1, 1), (5, (-1))])], 7), (0, [])), (49, ([(0, .inr (1, 82)), (1, .inl (0, (0, [(3, 1)])))], [], [(10511, .inl (0, (0, []))), (10513, .inl (0, (0, [(4, 1)]))), (10515, .inl (0, (0, [(5, 1)]))), (10526, .inl (0, (0, [(2, 1)])))], [], [(1, 0, 240), (2, 0, 19), (3, 0, 1), (4, 0, 240), (5, 0, 3)], [(0, [(1, 1), (4, (-1))])], 6), (242, [(4, (-1))]))]
theorem ko_138 : sx_kok sx_SP sx_KT kc_138 ka_138 [] 3000 = true := by decide +kernel
def ka_139 : List sx_AA := []
theorem ko_139 : sx_kok sx_SP sx_KT kc_139 ka_139 [] 3000 = true := by decide +kernel
def ka_140 : List sx_AA := []
theorem ko_140 : sx_kok sx_SP sx_KT kc_140 ka_140 [] 3000 = true := by decide +kernel
def ka_141 : List sx_AA := []
theorem ko_141 : sx_kok sx_SP sx_KT kc_141 ka_141 [] 3000 = true := by decide +kernel
def ka_142 : List sx_AA := []
theorem ko_142 : sx_kok sx_SP sx_KT kc_142 ka_142 [] 3000 = true := by decide +kernel
def ka_143 : List sx_AA := []
theorem ko_143 : sx_kok sx_SP sx_KT kc_143 ka_143 [] 3000 = true := by decide +kernel
def ka_144 : List sx_AA := []
theorem ko_144 : sx_kok sx_SP sx_KT kc_144 ka_144 [] 3000 = true := by decide +kernel
def ka_145 : List sx_AA := []
theorem ko_145 : sx_kok sx_SP sx_KT kc_145 ka_145 [] 3000 = true := by decide +kernel
def ka_146 : List sx_AA := []
theorem ko_146 : sx_kok sx_SP sx_KT kc_146 ka_146 [] 3000 = true := by decide +kernel
def ka_147 : List sx_AA := []
theorem ko_147 : sx_kok sx_SP sx_KT kc_147 ka_147 [] 3000 = true := by decide +kernel
def ka_148 : List sx_AA := [(34, ([(0, .inr (1, 82))], [], [(10511, .inl (0, (0, [(1, 1)]))), (10513, .inl (0, (0, [(2, 1)]))), (10515, .inl (0, (0, [(3, 1)])))], [], [(1, 1, 6), (2, 0, 240), (3, 0, 3)], [], 4), (0, [])), (34, ([(0, .inr (1, 82))], [], [(10511, .inl (0, (0, []))), (10513, .inl (0, (0, [(1, 1)]))), (10515, .inl (0, (0, [(2, 1)])))], [], [(1, 0, 240), (2, 0, 3)], [], 3), (265, [(1, (-1))])), (117, ([(0, .inr (1, 82)), (1, .inl (0, (0, [(1, 1)])))], [], [(10511, .inl (0, (0, []))), (10513, .inl (0, (0, [(2, 1)]))), (10515, .inl (0, (0, [])))], [], [(1, 0, 6), (2, 0, 240)], [], 3), (24, [(1, (-1))])), (155, ([(0, .inr (1, 82)), (1, .inl (0, (0, [(1, 1)])))], [], [(10511, .inl (0, (0, []))), (10513, .inl (0, (0, [(2, 1)]))), (10515, .inl (0, (0, [])))], [], [(1, 0, 16), (2, 0, 240)], [], 3), (17, [(1, (-1))]))]
theorem ko_148 : sx_kok sx_SP sx_KT kc_148 ka_148 [] 3000 = true := by decide +kernel
def ka_149 : List sx_AA := []
theorem ko_149 : sx_kok sx_SP sx_KT kc_149 ka_149 [] 3000 = true := by decide +kernel
def ka_150 : List sx_AA := []
theorem ko_150 : sx_kok sx_SP sx_KT kc_150 ka_150 [] 3000 = true := by decide +kernel
def ka_151 : List sx_AA := []
theorem ko_151 : sx_kok sx_SP sx_KT kc_151 ka_151 [] 3000 = true := by decide +kernel
def ka_152 : List sx_AA := []
theorem ko_152 : sx_kok sx_SP sx_KT kc_152 ka_152 [] 3000 = true := by decide +kernel
def ka_153 : List sx_AA := [(4, ([(0, .inr (1, 41)), (1, .inl (0, (0, [(1, 1)]))), (2, .inl (0, (0, [(2, 1)]))), (3, .inl (0, (0, [(3, 1)])))], [], [], [], [(1, 0, 5), (2, (-2147483648), 2147483647), (3, 0, 16)], [], 4), (16, [(3, (-1))]))]
theorem ko_153 : sx_kok sx_SP sx_KT kc_153 ka_153 [] 3000 = true := by decide +kernel
def ka_154 : List sx_AA := []
theorem ko_154 : sx_kok sx_SP sx_KT kc_154 ka_154 [] 3000 = true := by decide +kernel
def ka_155 : List sx_AA := []
theorem ko_155 : sx_kok sx_SP sx_KT kc_155 ka_155 [] 3000 = true := by decide +kernel
def ka_156 : List sx_AA := [(4, ([(0, .inr (1, 52)), (1, .inl (0, (0, [(1, 1)]))), (2, .inl (0, (0, [(2, 1)]))), (3, .inl (0, (0, [(3, 1)])))], [], [], [], [(1, 0, 5), (2, (-2147483648), 2147483647), (3, 0, 16)], [], 4), (16, [(3, (-1))]))]
theorem ko_156 : sx_kok sx_SP sx_KT kc_156 ka_156 [] 3000 = true := by decide +kernel
def ka_157 : List sx_AA := []
theorem ko_157 : sx_kok sx_SP sx_KT kc_157 ka_157 [] 3000 = true := by decide +kernel
def ka_158 : List sx_AA := []
theorem ko_158 : sx_kok sx_SP sx_KT kc_158 ka_158 [] 3000 = true := by decide +kernel
def ka_159 : List sx_AA := [(15, ([(0, .inr (1, 82)), (1, .inl (0, (0, [(1, 1)]))), (2, .inl (0, (0, [(2, 1)]))), (3, .inl (0, (0, [(3, 1)]))), (4, .inl (0, (0, [(4, 1)])))], [], [], [], [(1, 0, 5), (2, (-2147483648), 2147483647), (3, (-2147483648), 2147483647), (4, 0, 16)], [], 5), (16, [(4, (-1))]))]
theorem ko_159 : sx_kok sx_SP sx_KT kc_159 ka_159 [] 3000 = true := by decide +kernel
def ka_160 : List sx_AA := []
theorem ko_160 : sx_kok sx_SP sx_KT kc_160 ka_160 [] 3000 = true := by decide +kernel
def ka_161 : List sx_AA := []
theorem ko_161 : sx_kok sx_SP sx_KT kc_161 ka_161 [] 3000 = true := by decide +kernel
def ka_162 : List sx_AA := []
theorem ko_162 : sx_kok sx_SP sx_KT kc_162 ka_162 [] 3000 = true := by decide +kernel
def ka_163 : List sx_AA := []
theorem ko_163 : sx_kok sx_SP sx_KT kc_163 ka_163 [] 3000 = true := by decide +kernel
def ka_164 : List sx_AA := []
theorem ko_164 : sx_kok sx_SP sx_KT kc_164 ka_164 [] 3000 = true := by decide +kernel
def ka_165 : List sx_AA := []
theorem ko_165 : sx_kok sx_SP sx_KT kc_165 ka_165 [] 3000 = true := by decide +kernel
def ka_166 : List sx_AA := []
theorem ko_166 : sx_kok sx_SP sx_KT kc_166 ka_166 [] 3000 = true := by decide +kernel
def ka_167 : List sx_AA := []
theorem ko_167 : sx_kok sx_SP sx_KT kc_167 ka_167 [] 3000 = true := by decide +kernel
def ka_168 : List sx_AA := []
theorem ko_168 : sx_kok sx_SP sx_KT kc_168 ka_168 [] 3000 = true := by decide +kernel
def ka_169 : List sx_AA := []
theorem ko_169 : sx_kok sx_SP sx_KT kc_169 ka_169 [] 3000 = true := by decide +kernel
def ka_170 : List sx_AA := [(4, ([(0, .inr (1, 82)), (1, .inl (0, (0, [(1, 1)]))), (2, .inl (0, (0, [(2, 1)]))), (3, .inl (0, (0, [(3, 1)])))], [], [], [], [(1, 0, 19), (2, 0, 65535), (3, 0, 16)], [], 4), (16, [(3, (-1))]))]
theorem ko_170 : sx_kok sx_SP sx_KT kc_170 ka_170 [] 3000 = true := by decide +kernel
def ka_171 : List sx_AA := [(4, ([(0, .inr (1, 82)), (1, .inl (0, (0, [(1, 1)]))), (2, .inl (0, (0, [(2, 1)]))), (3, .inl (0, (0, [(3, 1)])))], [], [], [], [(1, 0, 19), (2, 0, 65535), (3, 0, 16)], [], 4), (16, [(3, (-1))]))]
theorem ko_171 : sx_kok sx_SP sx_KT kc_171 ka_171 [] 3000 = true := by decide +kernel
def ka_172 : List sx_AA := []
theorem ko_172 : sx_kok sx_SP sx_KT kc_172 ka_172 [] 3000 = true := by decide +kernel
def ka_173 : List sx_AA := [(5, ([(0, .inr (1, 10)), (1, .inl (0, (0, []))), (2, .inl (0, (0, [(1, 1)]))), (3, .inl (0, (512, [])))], [], [], [], [(1, 0, 512)], [], 2), (512, [(1, (-1))]))]
theorem ko_173 : sx_kok sx_SP sx_KT kc_173 ka_173 [] 3000 = true := by decide +kernel
def ka_174 : List sx_AA := [(11, ([(0, .inr (1, 4)), (1, .inl (0, (0, [(1, 1)]))), (2, .inl (0, (0, []))), (3, .inl (0, (0, [(2, 1)]))), (4, .inl (0, (0, [(3, 1)])))], [], [], [], [(1, (-2147483648), 2147483647), (2, 0, 511), (3, 0, 512)], [], 4), (512, [(3, (-1))]))]
theorem ko_174 : sx_kok sx_SP sx_KT kc_174 ka_174 [] 3000 = true := by decide +kernel
def ka_175 : List sx_AA := []
theorem ko_175 : sx_kok sx_SP sx_KT kc_175 ka_175 [] 3000 = true := by decide +kernel
def ka_176 : List sx_AA := []
theorem ko_176 : sx_kok sx_SP sx_KT kc_176 ka_176 [] 3000 = true := by decide +kernel
def ka_177 : List sx_AA := []
theorem ko_177 : sx_kok sx_SP sx_KT kc_177 ka_177 [] 3000 = true := by decide +kernel
