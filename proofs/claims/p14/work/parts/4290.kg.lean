abbrev kg_X10_makes_0 : sx_KK := kc_309
abbrev kg_X10_cost_0 : sx_KK := kc_338
abbrev kg_X9_lowest_0 : sx_KK := kc_405
abbrev kg_X5_putInOrder_0 : sx_KK := kc_407
abbrev kg_X5_putInOrder_1 : sx_KK := kc_424
abbrev kg_X10_isGraph_0 : sx_KK := kc_433
