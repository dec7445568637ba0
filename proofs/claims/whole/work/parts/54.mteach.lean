theorem kX10_358 : Cond.methodLink RX10 358 yX10_cut ∈ GW := gw_mem 1297 (by decide +kernel) (by decide +kernel)
theorem bX10_cut : CBv yX10_cut cX10_cut 3 none 0 := ⟨⟨gw_mem 1300 (by decide +kernel) (by decide +kernel), gw_mem 14 (by decide +kernel) (by decide +kernel), by decide +kernel, by decide⟩, gw_mem 1299 (by decide +kernel) (by decide +kernel), gw_sel 48 (by decide +kernel) (by decide +kernel)⟩
theorem kX10_361 : Cond.methodLink RX10 361 yX10_isPlan ∈ GW := gw_mem 1379 (by decide +kernel) (by decide +kernel)
theorem bX10_isPlan : CBv yX10_isPlan cX10_isPlan 2 (some .boolean) 0 := ⟨⟨gw_mem 1382 (by decide +kernel) (by decide +kernel), gw_mem 14 (by decide +kernel) (by decide +kernel), by decide +kernel, by decide⟩, gw_mem 1381 (by decide +kernel) (by decide +kernel), gw_sel 52 (by decide +kernel) (by decide +kernel)⟩
theorem kX10_364 : Cond.methodLink RX10 364 yX10_errorOf ∈ GW := gw_mem 1476 (by decide +kernel) (by decide +kernel)
theorem bX10_errorOf : CBv yX10_errorOf cX10_errorOf 2 (some .int) 1 := ⟨⟨gw_mem 1479 (by decide +kernel) (by decide +kernel), gw_mem 14 (by decide +kernel) (by decide +kernel), by decide +kernel, by decide⟩, gw_mem 1478 (by decide +kernel) (by decide +kernel), gw_sel 76 (by decide +kernel) (by decide +kernel)⟩
theorem bX10_read : CBv yX10_read cX10_read 3 (some .int) 0 := ⟨⟨gw_mem 1296 (by decide +kernel) (by decide +kernel), gw_mem 14 (by decide +kernel) (by decide +kernel), by decide +kernel, by decide⟩, gw_mem 1295 (by decide +kernel) (by decide +kernel), gw_sel 47 (by decide +kernel) (by decide +kernel)⟩
theorem kX10_370 : Cond.methodLink RX10 370 yX10_read ∈ GW := gw_mem 1293 (by decide +kernel) (by decide +kernel)
theorem kX10_373 : Cond.methodLink RX10 373 yX9_all ∈ GW := gw_mem 1516 (by decide +kernel) (by decide +kernel)
theorem bX9_all : CBv yX9_all cX9_all 1 (some .int) 0 := ⟨⟨gw_mem 1519 (by decide +kernel) (by decide +kernel), gw_mem 15 (by decide +kernel) (by decide +kernel), by decide +kernel, by decide⟩, gw_mem 1517 (by decide +kernel) (by decide +kernel), gw_mem 1518 (by decide +kernel) (by decide +kernel)⟩
def YX9_init_21 : List Kd := [.inl (10, [0, 4, 0, 0, 5, 6, 7, 8, 9, 0, 0, 14, 43, 0, 0, 0, 10, 0, 0, 0, 0, 11, 0, 0, 12, 13]), .inr (0, 2000), .inr (0, 401), .inr (0, 401), .inr (0, 401), .inr (0, 401), .inr (0, 401), .inr (0, 400), .inr (0, 20), .inr (0, 20), .inr (0, 20), .inl (9, [0, 0, 15, 16, 17, 0, 0, 18, 19, 20, 21, 22, 0, 23, 0]), .inr (0, 20), .inr (0, 20), .inr (0, 20), .inr (0, 16), .inr (0, 16), .inr (0, 17), .inr (0, 17), .inr (0, 800), .inr (0, 400), .inl (9, [0, 0, 2, 2, 2, 0, 0, 2, 2, 2, 2, 2, 0, 2, 0])]
def i_X9_init_21 (x : XS) : XS := (clr (clr (clr (clr (clr (clr (clr (clr (clr x 22) 23) 24) 25) 26) 27) 28) 29) 30)
def X9_init_21_y1 : List Kd := [.inl (10, [0, 4, 0, 0, 5, 6, 7, 8, 9, 0, 0, 14, 43, 0, 0, 0, 10, 0, 0, 0, 0, 11, 0, 0, 12, 13]), .inr (0, 2000), .inr (0, 401), .inr (0, 401), .inr (0, 401), .inr (0, 401), .inr (0, 401), .inr (0, 400), .inr (0, 20), .inr (0, 20), .inr (0, 20), .inl (9, [0, 0, 15, 16, 17, 0, 0, 18, 19, 20, 21, 22, 0, 23, 0]), .inr (0, 20), .inr (0, 20), .inr (0, 20), .inr (0, 16), .inr (0, 16), .inr (0, 17), .inr (0, 17), .inr (0, 800), .inr (0, 400), .inl (9, [0, 0, 2, 2, 2, 0, 0, 2, 2, 2, 2, 2, 0, 2, 0]), .inr (0, 20)]
def X9_init_21_y2 : List Kd := [.inl (10, [0, 4, 0, 0, 5, 6, 7, 8, 9, 0, 0, 14, 43, 0, 0, 0, 10, 0, 0, 0, 0, 11, 0, 0, 12, 13]), .inr (0, 2000), .inr (0, 401), .inr (0, 401), .inr (0, 401), .inr (0, 401), .inr (0, 401), .inr (0, 400), .inr (0, 20), .inr (0, 20), .inr (0, 20), .inl (9, [0, 0, 15, 16, 17, 0, 0, 18, 19, 20, 21, 22, 0, 23, 0]), .inr (0, 20), .inr (0, 20), .inr (0, 20), .inr (0, 16), .inr (0, 16), .inr (0, 17), .inr (0, 17), .inr (0, 800), .inr (0, 400), .inl (9, [0, 0, 25, 2, 2, 0, 0, 2, 2, 2, 2, 2, 0, 2, 0]), .inr (0, 20)]
def X9_init_21_y3 : List Kd := [.inl (10, [0, 4, 0, 0, 5, 6, 7, 8, 9, 0, 0, 14, 43, 0, 0, 0, 10, 0, 0, 0, 0, 11, 0, 0, 12, 13]), .inr (0, 2000), .inr (0, 401), .inr (0, 401), .inr (0, 401), .inr (0, 401), .inr (0, 401), .inr (0, 400), .inr (0, 20), .inr (0, 20), .inr (0, 20), .inl (9, [0, 0, 15, 16, 17, 0, 0, 18, 19, 20, 21, 22, 0, 23, 0]), .inr (0, 20), .inr (0, 20), .inr (0, 20), .inr (0, 16), .inr (0, 16), .inr (0, 17), .inr (0, 17), .inr (0, 800), .inr (0, 400), .inl (9, [0, 0, 25, 2, 2, 0, 0, 2, 2, 2, 2, 2, 0, 2, 0]), .inr (0, 20), .inr (0, 20)]
def X9_init_21_y4 : List Kd := [.inl (10, [0, 4, 0, 0, 5, 6, 7, 8, 9, 0, 0, 14, 43, 0, 0, 0, 10, 0, 0, 0, 0, 11, 0, 0, 12, 13]), .inr (0, 2000), .inr (0, 401), .inr (0, 401), .inr (0, 401), .inr (0, 401), .inr (0, 401), .inr (0, 400), .inr (0, 20), .inr (0, 20), .inr (0, 20), .inl (9, [0, 0, 15, 16, 17, 0, 0, 18, 19, 20, 21, 22, 0, 23, 0]), .inr (0, 20), .inr (0, 20), .inr (0, 20), .inr (0, 16), .inr (0, 16), .inr (0, 17), .inr (0, 17), .inr (0, 800), .inr (0, 400), .inl (9, [0, 0, 25, 26, 2, 0, 0, 2, 2, 2, 2, 2, 0, 2, 0]), .inr (0, 20), .inr (0, 20)]
def X9_init_21_y5 : List Kd := [.inl (10, [0, 4, 0, 0, 5, 6, 7, 8, 9, 0, 0, 14, 43, 0, 0, 0, 10, 0, 0, 0, 0, 11, 0, 0, 12, 13]), .inr (0, 2000), .inr (0, 401), .inr (0, 401), .inr (0, 401), .inr (0, 401), .inr (0, 401), .inr (0, 400), .inr (0, 20), .inr (0, 20), .inr (0, 20), .inl (9, [0, 0, 15, 16, 17, 0, 0, 18, 19, 20, 21, 22, 0, 23, 0]), .inr (0, 20), .inr (0, 20), .inr (0, 20), .inr (0, 16), .inr (0, 16), .inr (0, 17), .inr (0, 17), .inr (0, 800), .inr (0, 400), .inl (9, [0, 0, 25, 26, 2, 0, 0, 2, 2, 2, 2, 2, 0, 2, 0]), .inr (0, 20), .inr (0, 20), .inr (0, 20)]
def X9_init_21_y6 : List Kd := [.inl (10, [0, 4, 0, 0, 5, 6, 7, 8, 9, 0, 0, 14, 43, 0, 0, 0, 10, 0, 0, 0, 0, 11, 0, 0, 12, 13]), .inr (0, 2000), .inr (0, 401), .inr (0, 401), .inr (0, 401), .inr (0, 401), .inr (0, 401), .inr (0, 400), .inr (0, 20), .inr (0, 20), .inr (0, 20), .inl (9, [0, 0, 15, 16, 17, 0, 0, 18, 19, 20, 21, 22, 0, 23, 0]), .inr (0, 20), .inr (0, 20), .inr (0, 20), .inr (0, 16), .inr (0, 16), .inr (0, 17), .inr (0, 17), .inr (0, 800), .inr (0, 400), .inl (9, [0, 0, 25, 26, 27, 0, 0, 2, 2, 2, 2, 2, 0, 2, 0]), .inr (0, 20), .inr (0, 20), .inr (0, 20)]
def X9_init_21_y7 : List Kd := [.inl (10, [0, 4, 0, 0, 5, 6, 7, 8, 9, 0, 0, 14, 43, 0, 0, 0, 10, 0, 0, 0, 0, 11, 0, 0, 12, 13]), .inr (0, 2000), .inr (0, 401), .inr (0, 401), .inr (0, 401), .inr (0, 401), .inr (0, 401), .inr (0, 400), .inr (0, 20), .inr (0, 20), .inr (0, 20), .inl (9, [0, 0, 15, 16, 17, 0, 0, 18, 19, 20, 21, 22, 0, 23, 0]), .inr (0, 20), .inr (0, 20), .inr (0, 20), .inr (0, 16), .inr (0, 16), .inr (0, 17), .inr (0, 17), .inr (0, 800), .inr (0, 400), .inl (9, [0, 0, 25, 26, 27, 0, 0, 2, 2, 2, 2, 2, 0, 2, 0]), .inr (0, 20), .inr (0, 20), .inr (0, 20), .inr (0, 16)]
def X9_init_21_y8 : List Kd := [.inl (10, [0, 4, 0, 0, 5, 6, 7, 8, 9, 0, 0, 14, 43, 0, 0, 0, 10, 0, 0, 0, 0, 11, 0, 0, 12, 13]), .inr (0, 2000), .inr (0, 401), .inr (0, 401), .inr (0, 401), .inr (0, 401), .inr (0, 401), .inr (0, 400), .inr (0, 20), .inr (0, 20), .inr (0, 20), .inl (9, [0, 0, 15, 16, 17, 0, 0, 18, 19, 20, 21, 22, 0, 23, 0]), .inr (0, 20), .inr (0, 20), .inr (0, 20), .inr (0, 16), .inr (0, 16), .inr (0, 17), .inr (0, 17), .inr (0, 800), .inr (0, 400), .inl (9, [0, 0, 25, 26, 27, 0, 0, 28, 2, 2, 2, 2, 0, 2, 0]), .inr (0, 20), .inr (0, 20), .inr (0, 20), .inr (0, 16)]
def X9_init_21_y9 : List Kd := [.inl (10, [0, 4, 0, 0, 5, 6, 7, 8, 9, 0, 0, 14, 43, 0, 0, 0, 10, 0, 0, 0, 0, 11, 0, 0, 12, 13]), .inr (0, 2000), .inr (0, 401), .inr (0, 401), .inr (0, 401), .inr (0, 401), .inr (0, 401), .inr (0, 400), .inr (0, 20), .inr (0, 20), .inr (0, 20), .inl (9, [0, 0, 15, 16, 17, 0, 0, 18, 19, 20, 21, 22, 0, 23, 0]), .inr (0, 20), .inr (0, 20), .inr (0, 20), .inr (0, 16), .inr (0, 16), .inr (0, 17), .inr (0, 17), .inr (0, 800), .inr (0, 400), .inl (9, [0, 0, 25, 26, 27, 0, 0, 28, 2, 2, 2, 2, 0, 2, 0]), .inr (0, 20), .inr (0, 20), .inr (0, 20), .inr (0, 16), .inr (0, 16)]
def X9_init_21_y10 : List Kd := [.inl (10, [0, 4, 0, 0, 5, 6, 7, 8, 9, 0, 0, 14, 43, 0, 0, 0, 10, 0, 0, 0, 0, 11, 0, 0, 12, 13]), .inr (0, 2000), .inr (0, 401), .inr (0, 401), .inr (0, 401), .inr (0, 401), .inr (0, 401), .inr (0, 400), .inr (0, 20), .inr (0, 20), .inr (0, 20), .inl (9, [0, 0, 15, 16, 17, 0, 0, 18, 19, 20, 21, 22, 0, 23, 0]), .inr (0, 20), .inr (0, 20), .inr (0, 20), .inr (0, 16), .inr (0, 16), .inr (0, 17), .inr (0, 17), .inr (0, 800), .inr (0, 400), .inl (9, [0, 0, 25, 26, 27, 0, 0, 28, 29, 2, 2, 2, 0, 2, 0]), .inr (0, 20), .inr (0, 20), .inr (0, 20), .inr (0, 16), .inr (0, 16)]
def X9_init_21_y11 : List Kd := [.inl (10, [0, 4, 0, 0, 5, 6, 7, 8, 9, 0, 0, 14, 43, 0, 0, 0, 10, 0, 0, 0, 0, 11, 0, 0, 12, 13]), .inr (0, 2000), .inr (0, 401), .inr (0, 401), .inr (0, 401), .inr (0, 401), .inr (0, 401), .inr (0, 400), .inr (0, 20), .inr (0, 20), .inr (0, 20), .inl (9, [0, 0, 15, 16, 17, 0, 0, 18, 19, 20, 21, 22, 0, 23, 0]), .inr (0, 20), .inr (0, 20), .inr (0, 20), .inr (0, 16), .inr (0, 16), .inr (0, 17), .inr (0, 17), .inr (0, 800), .inr (0, 400), .inl (9, [0, 0, 25, 26, 27, 0, 0, 28, 29, 2, 2, 2, 0, 2, 0]), .inr (0, 20), .inr (0, 20), .inr (0, 20), .inr (0, 16), .inr (0, 16), .inr (0, 17)]
def X9_init_21_y12 : List Kd := [.inl (10, [0, 4, 0, 0, 5, 6, 7, 8, 9, 0, 0, 14, 43, 0, 0, 0, 10, 0, 0, 0, 0, 11, 0, 0, 12, 13]), .inr (0, 2000), .inr (0, 401), .inr (0, 401), .inr (0, 401), .inr (0, 401), .inr (0, 401), .inr (0, 400), .inr (0, 20), .inr (0, 20), .inr (0, 20), .inl (9, [0, 0, 15, 16, 17, 0, 0, 18, 19, 20, 21, 22, 0, 23, 0]), .inr (0, 20), .inr (0, 20), .inr (0, 20), .inr (0, 16), .inr (0, 16), .inr (0, 17), .inr (0, 17), .inr (0, 800), .inr (0, 400), .inl (9, [0, 0, 25, 26, 27, 0, 0, 28, 29, 30, 2, 2, 0, 2, 0]), .inr (0, 20), .inr (0, 20), .inr (0, 20), .inr (0, 16), .inr (0, 16), .inr (0, 17)]
def X9_init_21_y13 : List Kd := [.inl (10, [0, 4, 0, 0, 5, 6, 7, 8, 9, 0, 0, 14, 43, 0, 0, 0, 10, 0, 0, 0, 0, 11, 0, 0, 12, 13]), .inr (0, 2000), .inr (0, 401), .inr (0, 401), .inr (0, 401), .inr (0, 401), .inr (0, 401), .inr (0, 400), .inr (0, 20), .inr (0, 20), .inr (0, 20), .inl (9, [0, 0, 15, 16, 17, 0, 0, 18, 19, 20, 21, 22, 0, 23, 0]), .inr (0, 20), .inr (0, 20), .inr (0, 20), .inr (0, 16), .inr (0, 16), .inr (0, 17), .inr (0, 17), .inr (0, 800), .inr (0, 400), .inl (9, [0, 0, 25, 26, 27, 0, 0, 28, 29, 30, 2, 2, 0, 2, 0]), .inr (0, 20), .inr (0, 20), .inr (0, 20), .inr (0, 16), .inr (0, 16), .inr (0, 17), .inr (0, 17)]
def X9_init_21_y14 : List Kd := [.inl (10, [0, 4, 0, 0, 5, 6, 7, 8, 9, 0, 0, 14, 43, 0, 0, 0, 10, 0, 0, 0, 0, 11, 0, 0, 12, 13]), .inr (0, 2000), .inr (0, 401), .inr (0, 401), .inr (0, 401), .inr (0, 401), .inr (0, 401), .inr (0, 400), .inr (0, 20), .inr (0, 20), .inr (0, 20), .inl (9, [0, 0, 15, 16, 17, 0, 0, 18, 19, 20, 21, 22, 0, 23, 0]), .inr (0, 20), .inr (0, 20), .inr (0, 20), .inr (0, 16), .inr (0, 16), .inr (0, 17), .inr (0, 17), .inr (0, 800), .inr (0, 400), .inl (9, [0, 0, 25, 26, 27, 0, 0, 28, 29, 30, 31, 2, 0, 2, 0]), .inr (0, 20), .inr (0, 20), .inr (0, 20), .inr (0, 16), .inr (0, 16), .inr (0, 17), .inr (0, 17)]
def X9_init_21_y15 : List Kd := [.inl (10, [0, 4, 0, 0, 5, 6, 7, 8, 9, 0, 0, 14, 43, 0, 0, 0, 10, 0, 0, 0, 0, 11, 0, 0, 12, 13]), .inr (0, 2000), .inr (0, 401), .inr (0, 401), .inr (0, 401), .inr (0, 401), .inr (0, 401), .inr (0, 400), .inr (0, 20), .inr (0, 20), .inr (0, 20), .inl (9, [0, 0, 15, 16, 17, 0, 0, 18, 19, 20, 21, 22, 0, 23, 0]), .inr (0, 20), .inr (0, 20), .inr (0, 20), .inr (0, 16), .inr (0, 16), .inr (0, 17), .inr (0, 17), .inr (0, 800), .inr (0, 400), .inl (9, [0, 0, 25, 26, 27, 0, 0, 28, 29, 30, 31, 2, 0, 2, 0]), .inr (0, 20), .inr (0, 20), .inr (0, 20), .inr (0, 16), .inr (0, 16), .inr (0, 17), .inr (0, 17), .inr (0, 800)]
def X9_init_21_y16 : List Kd := [.inl (10, [0, 4, 0, 0, 5, 6, 7, 8, 9, 0, 0, 14, 43, 0, 0, 0, 10, 0, 0, 0, 0, 11, 0, 0, 12, 13]), .inr (0, 2000), .inr (0, 401), .inr (0, 401), .inr (0, 401), .inr (0, 401), .inr (0, 401), .inr (0, 400), .inr (0, 20), .inr (0, 20), .inr (0, 20), .inl (9, [0, 0, 15, 16, 17, 0, 0, 18, 19, 20, 21, 22, 0, 23, 0]), .inr (0, 20), .inr (0, 20), .inr (0, 20), .inr (0, 16), .inr (0, 16), .inr (0, 17), .inr (0, 17), .inr (0, 800), .inr (0, 400), .inl (9, [0, 0, 25, 26, 27, 0, 0, 28, 29, 30, 31, 32, 0, 2, 0]), .inr (0, 20), .inr (0, 20), .inr (0, 20), .inr (0, 16), .inr (0, 16), .inr (0, 17), .inr (0, 17), .inr (0, 800)]
def X9_init_21_y17 : List Kd := [.inl (10, [0, 4, 0, 0, 5, 6, 7, 8, 9, 0, 0, 14, 43, 0, 0, 0, 10, 0, 0, 0, 0, 11, 0, 0, 12, 13]), .inr (0, 2000), .inr (0, 401), .inr (0, 401), .inr (0, 401), .inr (0, 401), .inr (0, 401), .inr (0, 400), .inr (0, 20), .inr (0, 20), .inr (0, 20), .inl (9, [0, 0, 15, 16, 17, 0, 0, 18, 19, 20, 21, 22, 0, 23, 0]), .inr (0, 20), .inr (0, 20), .inr (0, 20), .inr (0, 16), .inr (0, 16), .inr (0, 17), .inr (0, 17), .inr (0, 800), .inr (0, 400), .inl (9, [0, 0, 25, 26, 27, 0, 0, 28, 29, 30, 31, 32, 0, 2, 0]), .inr (0, 20), .inr (0, 20), .inr (0, 20), .inr (0, 16), .inr (0, 16), .inr (0, 17), .inr (0, 17), .inr (0, 800), .inr (0, 400)]
def X9_init_21_y18 : List Kd := [.inl (10, [0, 4, 0, 0, 5, 6, 7, 8, 9, 0, 0, 14, 43, 0, 0, 0, 10, 0, 0, 0, 0, 11, 0, 0, 12, 13]), .inr (0, 2000), .inr (0, 401), .inr (0, 401), .inr (0, 401), .inr (0, 401), .inr (0, 401), .inr (0, 400), .inr (0, 20), .inr (0, 20), .inr (0, 20), .inl (9, [0, 0, 15, 16, 17, 0, 0, 18, 19, 20, 21, 22, 0, 23, 0]), .inr (0, 20), .inr (0, 20), .inr (0, 20), .inr (0, 16), .inr (0, 16), .inr (0, 17), .inr (0, 17), .inr (0, 800), .inr (0, 400), .inl (9, [0, 0, 25, 26, 27, 0, 0, 28, 29, 30, 31, 32, 0, 33, 0]), .inr (0, 20), .inr (0, 20), .inr (0, 20), .inr (0, 16), .inr (0, 16), .inr (0, 17), .inr (0, 17), .inr (0, 800), .inr (0, 400)]
set_option maxHeartbeats 4000000 in
set_option maxRecDepth 100000 in
theorem c_X9_init_21 {g : Gx} {a : Nat → Nat} {x : XS}  : Mz g yX9_init cX9_init 1 none 2 9 1326 YX9_init_21 a x [.ref (a 21)] (fun v lay' a1 x' => v = none ∧ lay' = X9_init_21_y18 ∧ x' = i_X9_init_21 x ∧ ∀ j, (j < 22 ∨ 31 ≤ j) → a1 j = a j) := by
  refine Mz_of (by decide +kernel) (Nat.le_of_ble_eq_true rfl) ?_
  intro k hk he hg
  subst hg
  refine xaload_n hk dX9_init_0 rfl ?_
  refine xobjInit hk dX9_init_1 kX9_3 (by first | decide | omega) (Nat.le_of_ble_eq_true rfl) ?_
  refine xaload_n hk dX9_init_4 rfl ?_
  refine xbipush (v := 20) hk dX9_init_5 (by decide) ?_
  refine xnewI (N := 20) hk dX9_init_7 (by decide) (by decide) (Nat.le_of_ble_eq_true rfl) (Nat.le_of_ble_eq_true rfl) (Nat.le_of_ble_eq_true rfl) (by decide +kernel) ?_
  intro a1 ha1
  rw [show YX9_init_21.length = 22 from rfl] at ha1 ⊢
  refine xlay (lay' := X9_init_21_y1) rfl ?_
  rw [← ha1 21 (by decide)]
  refine xputF (q := 21) (ci := 9) (f := 2) (j := 22) hk dX9_init_9 rfl (by decide) rfl (by decide) kX9_9 rfl rfl (tyX9_ok 2 (by decide)) (fun _ => ⟨rfl, rfl⟩) ?_
  refine xlay (lay' := X9_init_21_y2) rfl ?_
  refine xaload_n hk dX9_init_12 rfl ?_
  refine xbipush (v := 20) hk dX9_init_13 (by decide) ?_
  refine xnewI (N := 20) hk dX9_init_15 (by decide) (by decide) (Nat.le_of_ble_eq_true rfl) (Nat.le_of_ble_eq_true rfl) (Nat.le_of_ble_eq_true rfl) (by decide +kernel) ?_
  intro a2 ha2
  rw [show X9_init_21_y2.length = 23 from rfl] at ha2 ⊢
  refine xlay (lay' := X9_init_21_y3) rfl ?_
  rw [← ha2 21 (by decide)]
  refine xputF (q := 21) (ci := 9) (f := 3) (j := 23) hk dX9_init_17 rfl (by decide) rfl (by decide) kX9_15 rfl rfl (tyX9_ok 3 (by decide)) (fun _ => ⟨rfl, rfl⟩) ?_
  refine xlay (lay' := X9_init_21_y4) rfl ?_
  refine xaload_n hk dX9_init_20 rfl ?_
  refine xbipush (v := 20) hk dX9_init_21 (by decide) ?_
  refine xnewI (N := 20) hk dX9_init_23 (by decide) (by decide) (Nat.le_of_ble_eq_true rfl) (Nat.le_of_ble_eq_true rfl) (Nat.le_of_ble_eq_true rfl) (by decide +kernel) ?_
  intro a3 ha3
  rw [show X9_init_21_y4.length = 24 from rfl] at ha3 ⊢
  refine xlay (lay' := X9_init_21_y5) rfl ?_
  rw [← ha3 21 (by decide)]
  refine xputF (q := 21) (ci := 9) (f := 4) (j := 24) hk dX9_init_25 rfl (by decide) rfl (by decide) kX9_18 rfl rfl (tyX9_ok 4 (by decide)) (fun _ => ⟨rfl, rfl⟩) ?_
  refine xlay (lay' := X9_init_21_y6) rfl ?_
  refine xaload_n hk dX9_init_28 rfl ?_
  refine xbipush (v := 16) hk dX9_init_29 (by decide) ?_
  refine xnewI (N := 16) hk dX9_init_31 (by decide) (by decide) (Nat.le_of_ble_eq_true rfl) (Nat.le_of_ble_eq_true rfl) (Nat.le_of_ble_eq_true rfl) (by decide +kernel) ?_
  intro a4 ha4
  rw [show X9_init_21_y6.length = 25 from rfl] at ha4 ⊢
  refine xlay (lay' := X9_init_21_y7) rfl ?_
  rw [← ha4 21 (by decide)]
  refine xputF (q := 21) (ci := 9) (f := 7) (j := 25) hk dX9_init_33 rfl (by decide) rfl (by decide) kX9_21 rfl rfl (tyX9_ok 7 (by decide)) (fun _ => ⟨rfl, rfl⟩) ?_
  refine xlay (lay' := X9_init_21_y8) rfl ?_
  refine xaload_n hk dX9_init_36 rfl ?_
  refine xbipush (v := 16) hk dX9_init_37 (by decide) ?_
  refine xnewI (N := 16) hk dX9_init_39 (by decide) (by decide) (Nat.le_of_ble_eq_true rfl) (Nat.le_of_ble_eq_true rfl) (Nat.le_of_ble_eq_true rfl) (by decide +kernel) ?_
  intro a5 ha5
  rw [show X9_init_21_y8.length = 26 from rfl] at ha5 ⊢
  refine xlay (lay' := X9_init_21_y9) rfl ?_
  rw [← ha5 21 (by decide)]
  refine xputF (q := 21) (ci := 9) (f := 8) (j := 26) hk dX9_init_41 rfl (by decide) rfl (by decide) kX9_24 rfl rfl (tyX9_ok 8 (by decide)) (fun _ => ⟨rfl, rfl⟩) ?_
  refine xlay (lay' := X9_init_21_y10) rfl ?_
  refine xaload_n hk dX9_init_44 rfl ?_
  refine xbipush (v := 17) hk dX9_init_45 (by decide) ?_
  refine xnewI (N := 17) hk dX9_init_47 (by decide) (by decide) (Nat.le_of_ble_eq_true rfl) (Nat.le_of_ble_eq_true rfl) (Nat.le_of_ble_eq_true rfl) (by decide +kernel) ?_
  intro a6 ha6
  rw [show X9_init_21_y10.length = 27 from rfl] at ha6 ⊢
  refine xlay (lay' := X9_init_21_y11) rfl ?_
  rw [← ha6 21 (by decide)]
  refine xputF (q := 21) (ci := 9) (f := 9) (j := 27) hk dX9_init_49 rfl (by decide) rfl (by decide) kX9_27 rfl rfl (tyX9_ok 9 (by decide)) (fun _ => ⟨rfl, rfl⟩) ?_
  refine xlay (lay' := X9_init_21_y12) rfl ?_
  refine xaload_n hk dX9_init_52 rfl ?_
  refine xbipush (v := 17) hk dX9_init_53 (by decide) ?_
  refine xnewI (N := 17) hk dX9_init_55 (by decide) (by decide) (Nat.le_of_ble_eq_true rfl) (Nat.le_of_ble_eq_true rfl) (Nat.le_of_ble_eq_true rfl) (by decide +kernel) ?_
  intro a7 ha7
  rw [show X9_init_21_y12.length = 28 from rfl] at ha7 ⊢
  refine xlay (lay' := X9_init_21_y13) rfl ?_
  rw [← ha7 21 (by decide)]
  refine xputF (q := 21) (ci := 9) (f := 10) (j := 28) hk dX9_init_57 rfl (by decide) rfl (by decide) kX9_30 rfl rfl (tyX9_ok 10 (by decide)) (fun _ => ⟨rfl, rfl⟩) ?_
  refine xlay (lay' := X9_init_21_y14) rfl ?_
  refine xaload_n hk dX9_init_60 rfl ?_
  refine xsipush (v := 800) hk dX9_init_61 (by decide) ?_
  refine xnewI (N := 800) hk dX9_init_64 (by decide) (by decide) (Nat.le_of_ble_eq_true rfl) (Nat.le_of_ble_eq_true rfl) (Nat.le_of_ble_eq_true rfl) (by decide +kernel) ?_
  intro a8 ha8
  rw [show X9_init_21_y14.length = 29 from rfl] at ha8 ⊢
  refine xlay (lay' := X9_init_21_y15) rfl ?_
  rw [← ha8 21 (by decide)]
  refine xputF (q := 21) (ci := 9) (f := 11) (j := 29) hk dX9_init_66 rfl (by decide) rfl (by decide) kX9_33 rfl rfl (tyX9_ok 11 (by decide)) (fun _ => ⟨rfl, rfl⟩) ?_
  refine xlay (lay' := X9_init_21_y16) rfl ?_
  refine xaload_n hk dX9_init_69 rfl ?_
  refine xsipush (v := 400) hk dX9_init_70 (by decide) ?_
  refine xnewI (N := 400) hk dX9_init_73 (by decide) (by decide) (Nat.le_of_ble_eq_true rfl) (Nat.le_of_ble_eq_true rfl) (Nat.le_of_ble_eq_true rfl) (by decide +kernel) ?_
  intro a9 ha9
  rw [show X9_init_21_y16.length = 30 from rfl] at ha9 ⊢
  refine xlay (lay' := X9_init_21_y17) rfl ?_
  rw [← ha9 21 (by decide)]
  refine xputF (q := 21) (ci := 9) (f := 13) (j := 30) hk dX9_init_75 rfl (by decide) rfl (by decide) kX9_36 rfl rfl (tyX9_ok 13 (by decide)) (fun _ => ⟨rfl, rfl⟩) ?_
  refine xlay (lay' := X9_init_21_y18) rfl ?_
  refine xvretZ hk he dX9_init_78 ⟨Nat.le_of_ble_eq_true rfl, Nat.le_of_ble_eq_true rfl⟩ ?_
  exact ⟨rfl, rfl, rfl, fun j hj => ((ha9 j (by omega)).trans ((ha8 j (by omega)).trans ((ha7 j (by omega)).trans ((ha6 j (by omega)).trans ((ha5 j (by omega)).trans ((ha4 j (by omega)).trans ((ha3 j (by omega)).trans ((ha2 j (by omega)).trans (ha1 j (by omega))))))))))⟩

def f_X10_read_L111   : Nat → Int32 → XS → Option (Int32 × XS)
  | 0, _, _ => none
  | n + 1, l2, x => (if (x.1 21 14) ≤ l2 then some (0, x) else og (inB l2 400) (og (inB l2 400) (og (inB (x.1 30 (l2 : Int32).toNatClampNeg) 800) (og (inB (x.1 29 ((x.1 30 (l2 : Int32).toNatClampNeg) : Int32).toNatClampNeg) 401) (og (inB (x.1 30 (l2 : Int32).toNatClampNeg) 800) ((f_X10_read_L111   n (l2 + 1) (setI x 29 ((x.1 30 (l2 : Int32).toNatClampNeg) : Int32).toNatClampNeg (x.1 6 ((x.1 29 ((x.1 30 (l2 : Int32).toNatClampNeg) : Int32).toNatClampNeg) : Int32).toNatClampNeg)))))))))
def f_X10_read_L57   : Nat → Int32 → XS → Option (Int32 × XS)
  | 0, _, _ => none
  | n + 1, l1, x => (if l1 ≤ (x.1 0 9) then (f_X10_read_L111   402 0 x) else ob (f_X10_errorOf (x.1 0 9) x) (fun u70 => (if u70.1 = 0 then (f_X10_read_L57   n l1 (setI u70.2 0 9 ((u70.2.1 0 9) + 1))) else og (inB (u70.2.1 0 9) 401) (some (u70.1, (setI u70.2 0 3 (u70.2.1 3 ((u70.2.1 0 9) : Int32).toNatClampNeg)))))))
def f_X10_read  (x : XS) : Option (Int32 × XS) := ob (f_X10_cut (i_X9_init_21 (clr x 21))) (fun u12 => ob (f_X10_isPlan (setI (setI u12 0 9 0) 0 10 0)) (fun u26 => (if (b2i u26.1) = 0 then og (inB (u26.2.1 0 9) 401) (some (1, (setI u26.2 0 3 (u26.2.1 3 ((u26.2.1 0 9) : Int32).toNatClampNeg)))) else (f_X10_read_L57   402 (u26.2.1 0 9) (setI u26.2 0 9 0)))))
def X10_read_y1 : List Kd := [.inl (10, [0, 4, 0, 0, 5, 6, 7, 8, 9, 0, 0, 14, 43, 0, 0, 0, 10, 0, 0, 0, 0, 11, 0, 0, 12, 13]), .inr (0, 2000), .inr (0, 401), .inr (0, 401), .inr (0, 401), .inr (0, 401), .inr (0, 401), .inr (0, 400), .inr (0, 20), .inr (0, 20), .inr (0, 20), .inl (9, [0, 0, 15, 16, 17, 0, 0, 18, 19, 20, 21, 22, 0, 23, 0]), .inr (0, 20), .inr (0, 20), .inr (0, 20), .inr (0, 16), .inr (0, 16), .inr (0, 17), .inr (0, 17), .inr (0, 800), .inr (0, 400), .inl (9, [0, 0, 2, 2, 2, 0, 0, 2, 2, 2, 2, 2, 0, 2, 0])]
def X10_read_y2 : List Kd := [.inl (10, [0, 4, 0, 0, 5, 6, 7, 8, 9, 0, 0, 14, 43, 0, 0, 0, 10, 0, 0, 0, 0, 11, 0, 0, 12, 13]), .inr (0, 2000), .inr (0, 401), .inr (0, 401), .inr (0, 401), .inr (0, 401), .inr (0, 401), .inr (0, 400), .inr (0, 20), .inr (0, 20), .inr (0, 20), .inl (9, [0, 0, 15, 16, 17, 0, 0, 18, 19, 20, 21, 22, 0, 23, 0]), .inr (0, 20), .inr (0, 20), .inr (0, 20), .inr (0, 16), .inr (0, 16), .inr (0, 17), .inr (0, 17), .inr (0, 800), .inr (0, 400), .inl (9, [0, 0, 25, 26, 27, 0, 0, 28, 29, 30, 31, 32, 0, 33, 0]), .inr (0, 20), .inr (0, 20), .inr (0, 20), .inr (0, 16), .inr (0, 16), .inr (0, 17), .inr (0, 17), .inr (0, 800), .inr (0, 400)]
set_option maxHeartbeats 4000000 in
set_option maxRecDepth 100000 in
theorem c_X10_read {g : Gx} {a : Nat → Nat} {x : XS}  {u : Int32 × XS} (h : f_X10_read  x = some u) : Mz g yX10_read cX10_read 3 (some .int) 111 10 1341 LM a x [.ref (a 0)] (fun v lay' a1 x' => v = some (.int u.1) ∧ lay' = LM2 ∧ x' = u.2 ∧ ∀ j, (j < 21 ∨ 31 ≤ j) → a1 j = a j) := by
  refine Mz_of (by decide +kernel) (Nat.le_of_ble_eq_true rfl) ?_
  intro k hk he hg
  subst hg
  rw [f_X10_read] at h
  refine xaload_n hk dX10_read_0 rfl ?_
  refine xnew (ci := 9) (ft := [0, 0, 2, 2, 2, 0, 0, 2, 2, 2, 2, 2, 0, 2, 0]) hk tyX9 dX10_read_1 kinst9 kini9 tyX9_ok rfl rfl kdX9 kcX10_32 (Nat.le_of_ble_eq_true rfl) (Nat.le_of_ble_eq_true rfl) (by decide +kernel) ?_
  intro a1 ha1
  rw [show LM.length = 21 from rfl] at ha1 ⊢
  refine xlay (lay' := X10_read_y1) rfl ?_
  rw [← ha1 0 (by decide)]
  refine xdup hk dX10_read_4 rfl ?_
  refine xlay (lay' := YX9_init_21) rfl ?_
  refine xcallIN (n := 0) hk c_X9_init_21 ⟨gw_mem 1132 (by decide +kernel) (by decide +kernel), gw_mem 15 (by decide +kernel) (by decide +kernel), by decide +kernel, by decide⟩ (gw_mem 1131 (by decide +kernel) (by decide +kernel)) rfl kX10_34 dX10_read_5 rfl rfl (by first | decide | omega) ⟨Nat.le_of_ble_eq_true rfl, Nat.le_of_ble_eq_true rfl⟩ (Nat.le_of_ble_eq_true rfl) ?_
  rintro _ _ a2 _ ⟨rfl, rfl, rfl, ha2⟩
  refine xlay (lay' := X10_read_y2) rfl ?_
  rw [← ha2 0 (Or.inl (by decide))]
  rw [← ha2 21 (Or.inl (by decide))]
  refine xputK (q := 0) (ci := 10) (f := 12) (j := 21) hk dX10_read_8 rfl (by decide) rfl (by decide) kX10_39 rfl (tyX10_ok 12 (by decide)) (fun _ => ⟨rfl, rfl⟩) ?_
  refine xlay (lay' := LM2) rfl ?_
  refine xaload_n hk dX10_read_11 rfl ?_
  obtain ⟨u12, e12, h⟩ := ob_some h
  refine xcallV hk (c_X10_cut e12) bX10_cut kX10_358 dX10_read_12 rfl ⟨_, _, _, _, rfl, rfl⟩ rfl (by first | decide | omega) ⟨by decide, by decide⟩ (Nat.le_of_ble_eq_true rfl) (det ?_)
  refine xaload_n hk dX10_read_15 rfl ?_
  refine xiconst (v := 0) hk dX10_read_16 (by decide) ?_
  refine xputI (ci := 10) (f := 9) hk dX10_read_17 ⟨rfl, by decide, _, rfl, rfl⟩ kX10_236 ⟨rfl, by decide +kernel⟩ ?_
  refine xaload_n hk dX10_read_20 rfl ?_
  refine xiconst (v := 0) hk dX10_read_21 (by decide) ?_
  refine xputI (ci := 10) (f := 10) hk dX10_read_22 ⟨rfl, by decide, _, rfl, rfl⟩ kX10_281 ⟨rfl, by decide +kernel⟩ ?_
  refine xaload_n hk dX10_read_25 rfl ?_
  obtain ⟨u26, e26, h⟩ := ob_some h
  refine xcallV hk (c_X10_isPlan e26) bX10_isPlan kX10_361 dX10_read_26 rfl ⟨_, _, _, _, rfl, rfl⟩ rfl (by first | decide | omega) ⟨by decide, by decide⟩ (Nat.le_of_ble_eq_true rfl) (det ?_)
  refine xif_ne hk 47 dX10_read_29 (by decide) (fun h29 => ?_) (fun h29 => ?_)
  · rw [if_neg h29] at h
    refine xaload_n hk dX10_read_47 rfl ?_
    refine xgetI (ci := 10) (f := 9) hk dX10_read_48 ⟨rfl, by decide, _, rfl, rfl⟩ kX10_236 ?_
    refine xistore_n hk dX10_read_51 (by decide) ?_
    refine xaload_n hk dX10_read_52 rfl ?_
    refine xiconst (v := 0) hk dX10_read_53 (by decide) ?_
    refine xputI (ci := 10) (f := 9) hk dX10_read_54 ⟨rfl, by decide, _, rfl, rfl⟩ kX10_236 ⟨rfl, by decide +kernel⟩ ?_
    have loop57 : ∀ (n57 : Nat) (l1 : Int32) (x : XS), f_X10_read_L57   n57 l1 x = some u → Wx k 10 1341 LM2 a2 x 57 [(0, .ref (a2 0)), (1, .int l1)] [] := by
      intro n57
      induction n57 with
      | zero => intro l1 x h; rw [f_X10_read_L57] at h; cases h
      | succ n57 ih57 =>
        intro l1 x h
        rw [f_X10_read_L57] at h
        refine xaload_n hk dX10_read_57 rfl ?_
        refine xgetI (ci := 10) (f := 9) hk dX10_read_58 ⟨rfl, by decide, _, rfl, rfl⟩ kX10_236 ?_
        refine xiload_n hk dX10_read_61 rfl ?_
        refine xicmp_ge hk 109 dX10_read_62 (by decide) (fun h62 => ?_) (fun h62 => ?_)
        · rw [if_pos h62] at h
          refine xiconst (v := 0) hk dX10_read_109 (by decide) ?_
          refine xistore_n hk dX10_read_110 (by decide) ?_
          have loop111 : ∀ (n111 : Nat) (l2 : Int32) (x : XS), f_X10_read_L111   n111 l2 x = some u → Wx k 10 1341 LM2 a2 x 111 [(0, .ref (a2 0)), (2, .int l2)] [] := by
            intro n111
            induction n111 with
            | zero => intro l2 x h; rw [f_X10_read_L111] at h; cases h
            | succ n111 ih111 =>
              intro l2 x h
              rw [f_X10_read_L111] at h
              refine xiload_n hk dX10_read_111 rfl ?_
              refine xaload_n hk dX10_read_112 rfl ?_
              refine xgetR (ci := 10) (f := 12) hk dX10_read_113 ⟨rfl, by decide, _, rfl, rfl⟩ kX10_39 ?_
              refine xgetNI (ci := 9) (f := 14) hk dX10_read_116 ⟨rfl, by decide, _, rfl, rfl⟩ kX10_287 ?_
              refine xicmp_ge hk 167 dX10_read_119 (by decide) (fun h119 => ?_) (fun h119 => ?_)
              · rw [if_pos h119] at h
                refine xiconst (v := 0) hk dX10_read_167 (by decide) ?_
                refine xiretZ hk he dX10_read_168 ⟨Nat.le_of_ble_eq_true rfl, Nat.le_of_ble_eq_true rfl⟩ ?_
                obtain rfl := Option.some.inj h
                exact ⟨rfl, rfl, rfl, fun j hj => ((ha2 j (by omega)).trans (ha1 j (by omega)))⟩
              · rw [if_neg h119] at h
                refine xaload_n hk dX10_read_122 rfl ?_
                refine xgetR (ci := 10) (f := 12) hk dX10_read_123 ⟨rfl, by decide, _, rfl, rfl⟩ kX10_39 ?_
                refine xgetNR (ci := 9) (f := 11) hk dX10_read_126 ⟨rfl, by decide, _, rfl, rfl⟩ kX10_166 ?_
                refine xaload_n hk dX10_read_129 rfl ?_
                refine xgetR (ci := 10) (f := 12) hk dX10_read_130 ⟨rfl, by decide, _, rfl, rfl⟩ kX10_39 ?_
                refine xgetNR (ci := 9) (f := 13) hk dX10_read_133 ⟨rfl, by decide, _, rfl, rfl⟩ kX10_284 ?_
                refine xiload_n hk dX10_read_136 rfl ?_
                obtain ⟨hi137, h⟩ := og_some h
                refine xiald hk dX10_read_137 rfl (inB_v hi137) ?_
                refine xaload_n hk dX10_read_138 rfl ?_
                refine xgetR (ci := 10) (f := 8) hk dX10_read_139 ⟨rfl, by decide, _, rfl, rfl⟩ kX10_29 ?_
                refine xaload_n hk dX10_read_142 rfl ?_
                refine xgetR (ci := 10) (f := 12) hk dX10_read_143 ⟨rfl, by decide, _, rfl, rfl⟩ kX10_39 ?_
                refine xgetNR (ci := 9) (f := 11) hk dX10_read_146 ⟨rfl, by decide, _, rfl, rfl⟩ kX10_166 ?_
                refine xaload_n hk dX10_read_149 rfl ?_
                refine xgetR (ci := 10) (f := 12) hk dX10_read_150 ⟨rfl, by decide, _, rfl, rfl⟩ kX10_39 ?_
                refine xgetNR (ci := 9) (f := 13) hk dX10_read_153 ⟨rfl, by decide, _, rfl, rfl⟩ kX10_284 ?_
                refine xiload_n hk dX10_read_156 rfl ?_
                obtain ⟨hi157, h⟩ := og_some h
                refine xiald hk dX10_read_157 rfl (inB_v hi157) ?_
                obtain ⟨hi158, h⟩ := og_some h
                refine xiald hk dX10_read_158 rfl (inB_v hi158) ?_
                obtain ⟨hi159, h⟩ := og_some h
                refine xiald hk dX10_read_159 rfl (inB_v hi159) ?_
                obtain ⟨hi160, h⟩ := og_some h
                refine xiast hk dX10_read_160 rfl (inB_v hi160) ?_
                refine xiinc (v := (l2 + 1)) hk dX10_read_161 rfl (by decide) rfl ?_
                refine xgoto hk 111 dX10_read_164 (by decide) ?_
                refine xsub [(0, .ref (a2 0)), (2, .int (l2 + 1))] rfl ?_
                exact ih111 _ _ h
          refine xsub [(0, .ref (a2 0)), (2, .int 0)] rfl ?_
          exact loop111 _ _ _ h
        · rw [if_neg h62] at h
          refine xaload_n hk dX10_read_65 rfl ?_
          refine xaload_n hk dX10_read_66 rfl ?_
          refine xgetI (ci := 10) (f := 9) hk dX10_read_67 ⟨rfl, by decide, _, rfl, rfl⟩ kX10_236 ?_
          obtain ⟨u70, e70, h⟩ := ob_some h
          refine xcallV hk (c_X10_errorOf e70) bX10_errorOf kX10_364 dX10_read_70 rfl ⟨_, _, _, _, rfl, rfl⟩ rfl (by first | decide | omega) ⟨by decide, by decide⟩ (Nat.le_of_ble_eq_true rfl) (det ?_)
          refine xistore_n hk dX10_read_73 (by decide) ?_
          refine xiload_n hk dX10_read_74 rfl ?_
          refine xif_ne hk 81 dX10_read_75 (by decide) (fun h75 => ?_) (fun h75 => ?_)
          · rw [if_neg h75] at h
            refine xaload_n hk dX10_read_81 rfl ?_
            refine xaload_n hk dX10_read_82 rfl ?_
            refine xgetR (ci := 10) (f := 5) hk dX10_read_83 ⟨rfl, by decide, _, rfl, rfl⟩ kX10_20 ?_
            refine xaload_n hk dX10_read_86 rfl ?_
            refine xgetI (ci := 10) (f := 9) hk dX10_read_87 ⟨rfl, by decide, _, rfl, rfl⟩ kX10_236 ?_
            obtain ⟨hi90, h⟩ := og_some h
            refine xiald hk dX10_read_90 rfl (inB_v hi90) ?_
            refine xputI (ci := 10) (f := 3) hk dX10_read_91 ⟨rfl, by decide, _, rfl, rfl⟩ kX10_13 ⟨rfl, by decide +kernel⟩ ?_
            refine xiload_n hk dX10_read_94 rfl ?_
            refine xiretZ hk he dX10_read_95 ⟨Nat.le_of_ble_eq_true rfl, Nat.le_of_ble_eq_true rfl⟩ ?_
            obtain rfl := Option.some.inj h
            exact ⟨rfl, rfl, rfl, fun j hj => ((ha2 j (by omega)).trans (ha1 j (by omega)))⟩
          · rw [if_pos h75] at h
            refine xgoto hk 96 dX10_read_78 (by decide) ?_
            refine xaload_n hk dX10_read_96 rfl ?_
            refine xdup hk dX10_read_97 rfl ?_
            refine xgetI (ci := 10) (f := 9) hk dX10_read_98 ⟨rfl, by decide, _, rfl, rfl⟩ kX10_236 ?_
            refine xiconst (v := 1) hk dX10_read_101 (by decide) ?_
            refine xiadd hk dX10_read_102 ?_
            refine xputI (ci := 10) (f := 9) hk dX10_read_103 ⟨rfl, by decide, _, rfl, rfl⟩ kX10_236 ⟨rfl, by decide +kernel⟩ ?_
            refine xgoto hk 57 dX10_read_106 (by decide) ?_
            refine xsub [(0, .ref (a2 0)), (1, .int l1)] rfl ?_
            exact ih57 _ _ h
    refine xsub [(0, .ref (a2 0)), (1, .int (u26.2.1 0 9))] rfl ?_
    exact loop57 _ _ _ h
  · rw [if_pos h29] at h
    refine xaload_n hk dX10_read_32 rfl ?_
    refine xaload_n hk dX10_read_33 rfl ?_
    refine xgetR (ci := 10) (f := 5) hk dX10_read_34 ⟨rfl, by decide, _, rfl, rfl⟩ kX10_20 ?_
    refine xaload_n hk dX10_read_37 rfl ?_
    refine xgetI (ci := 10) (f := 9) hk dX10_read_38 ⟨rfl, by decide, _, rfl, rfl⟩ kX10_236 ?_
    obtain ⟨hi41, h⟩ := og_some h
    refine xiald hk dX10_read_41 rfl (inB_v hi41) ?_
    refine xputI (ci := 10) (f := 3) hk dX10_read_42 ⟨rfl, by decide, _, rfl, rfl⟩ kX10_13 ⟨rfl, by decide +kernel⟩ ?_
    refine xiconst (v := 1) hk dX10_read_45 (by decide) ?_
    refine xiretZ hk he dX10_read_46 ⟨Nat.le_of_ble_eq_true rfl, Nat.le_of_ble_eq_true rfl⟩ ?_
    obtain rfl := Option.some.inj h
    exact ⟨rfl, rfl, rfl, fun j hj => ((ha2 j (by omega)).trans (ha1 j (by omega)))⟩

def reT (x : XS) : XS := (fun i j => if 11 ≤ i ∧ i ≤ 20 then x.1 (i + 10) j else x.1 i j, fun i j => if 11 ≤ i ∧ i ≤ 20 then x.2 (i + 10) j else x.2 i j)
theorem reT_o (x : XS) (q : Nat) (hq : q < 21) (k : Nat) : (reT x).1 q k = x.1 ((fun j => if j = 40 then 21 else if 11 ≤ j ∧ j ≤ 20 then j + 10 else j : Nat → Nat) q) k ∧ (reT x).2 q k = x.2 ((fun j => if j = 40 then 21 else if 11 ≤ j ∧ j ≤ 20 then j + 10 else j : Nat → Nat) q) k := by
  show (if 11 ≤ q ∧ q ≤ 20 then x.1 (q + 10) k else x.1 q k) = x.1 (if q = 40 then 21 else if 11 ≤ q ∧ q ≤ 20 then q + 10 else q) k ∧ (if 11 ≤ q ∧ q ≤ 20 then x.2 (q + 10) k else x.2 q k) = x.2 (if q = 40 then 21 else if 11 ≤ q ∧ q ≤ 20 then q + 10 else q) k
  rw [if_neg (show ¬ q = 40 by omega)]
  by_cases h : 11 ≤ q ∧ q ≤ 20
  · simp only [if_pos h, and_self]
  · simp only [if_neg h, and_self]
def teachS (x : XS) : XS :=
  let z := setI (setI (reT x) 0 13 0) 0 14 0
  setI (setI (setI z 0 15 (((1 : Int32) <<< (z.1 11 1 &&& 31)) - 1)) 0 17 (-1)) 0 22 (-1)
def f_X10_teach (x : XS) : Option (Int32 × XS) := ob (f_X10_read (setI (setI x 0 0 0) 0 3 (-1))) (fun u => if u.1 ≤ 0 then some (0, teachS (setI u.2 0 2 0)) else some (u.1, setI u.2 0 2 0))
set_option maxHeartbeats 4000000 in
set_option maxRecDepth 100000 in
theorem c_X10_teach {g : Gx} {a : Nat → Nat} {x : XS} {u : Int32 × XS} (h : f_X10_teach x = some u) : Mz g yX10_teach cX10_teach 2 (some .int) 112 10 1341 LM a x [.ref (a 0)] (fun v lay' a1 x' => v = some (.int u.1) ∧ lay' = LM ∧ x' = u.2 ∧ a1 0 = a 0) := by
  refine Mz_of (by decide +kernel) (Nat.le_of_ble_eq_true rfl) ?_
  intro k hk he hg
  subst hg
  rw [f_X10_teach] at h
  obtain ⟨u11, e11, h⟩ := ob_some h
  refine xaload_n hk dX10_teach_0 rfl ?_
  refine xiconst (v := 0) hk dX10_teach_1 (by decide) ?_
  refine xputI (ci := 10) (f := 0) hk dX10_teach_2 ⟨rfl, by decide, _, rfl, rfl⟩ kX10_60 ⟨rfl, by decide +kernel⟩ ?_
  refine xaload_n hk dX10_teach_5 rfl ?_
  refine xiconst (v := (-1)) hk dX10_teach_6 (by decide) ?_
  refine xputI (ci := 10) (f := 3) hk dX10_teach_7 ⟨rfl, by decide, _, rfl, rfl⟩ kX10_13 ⟨rfl, by decide +kernel⟩ ?_
  refine xaload_n hk dX10_teach_10 rfl ?_
  refine xcallVZ hk (c_X10_read e11) bX10_read kX10_370 dX10_teach_11 rfl ⟨_, _, _, _, rfl, rfl⟩ rfl (by decide) ⟨Nat.le_of_ble_eq_true rfl, Nat.le_of_ble_eq_true rfl⟩ (Nat.le_of_ble_eq_true rfl) ?_
  rintro _ _ a1 _ ⟨rfl, rfl, rfl, ha1⟩
  rw [← ha1 0 (Or.inl (by decide))]
  refine xistore_n hk dX10_teach_14 (by decide) ?_
  refine xaload_n hk dX10_teach_15 rfl ?_
  refine xiconst (v := 0) hk dX10_teach_16 (by decide) ?_
  refine xputI (ci := 10) (f := 2) hk dX10_teach_17 ⟨rfl, by decide, _, rfl, rfl⟩ kX10_200 ⟨rfl, by decide +kernel⟩ ?_
  refine xiload_n hk dX10_teach_20 rfl ?_
  refine xif_le hk 26 dX10_teach_21 (by decide) (fun h21 => ?_) (fun h21 => ?_)
  · rw [if_pos h21] at h
    obtain rfl := Option.some.inj h
    refine xaload_n hk dX10_teach_26 rfl ?_
    refine xaload_n hk dX10_teach_27 rfl ?_
    refine xgetR (ci := 10) (f := 12) hk dX10_teach_28 ⟨rfl, by decide, _, rfl, rfl⟩ kX10_39 ?_
    refine xputK (q := 0) (ci := 10) (f := 11) (j := 21) hk dX10_teach_31 rfl (by decide) rfl (by decide) kX10_35 rfl (tyX10_ok 11 (by decide)) (fun _ => ⟨rfl, rfl⟩) ?_
    refine xmap (lay' := LM) (x' := reT (setI u11.2 0 2 0)) (fun j => if j = 40 then 21 else if 11 ≤ j ∧ j ≤ 20 then j + 10 else j) (by decide +kernel) (by decide +kernel) (fun q hq k => reT_o _ q hq k) ?_
    obtain ⟨a2, ha2⟩ : ∃ z, z = (fun j => a1 ((fun j => if j = 40 then 21 else if 11 ≤ j ∧ j ≤ 20 then j + 10 else j : Nat → Nat) j)) := ⟨_, rfl⟩
    rw [show a1 0 = a2 0 from by rw [ha2]; rfl, ← ha2]
    refine xaload_n hk dX10_teach_34 rfl ?_
    refine xiconst (v := 0) hk dX10_teach_35 (by decide) ?_
    refine xputI (ci := 10) (f := 13) hk dX10_teach_36 ⟨rfl, by decide, _, rfl, rfl⟩ kX10_163 ⟨rfl, by decide +kernel⟩ ?_
    refine xaload_n hk dX10_teach_39 rfl ?_
    refine xiconst (v := 0) hk dX10_teach_40 (by decide) ?_
    refine xputI (ci := 10) (f := 14) hk dX10_teach_41 ⟨rfl, by decide, _, rfl, rfl⟩ kX10_160 ⟨rfl, by decide +kernel⟩ ?_
    refine xaload_n hk dX10_teach_44 rfl ?_
    refine xaload_n hk dX10_teach_45 rfl ?_
    refine xgetR (ci := 10) (f := 11) hk dX10_teach_46 ⟨rfl, by decide, _, rfl, rfl⟩ kX10_35 ?_
    refine xcallV hk c_X9_all bX9_all kX10_373 dX10_teach_49 rfl ⟨_, _, _, _, rfl, rfl⟩ rfl (by decide) ⟨by decide, by decide⟩ (Nat.le_of_ble_eq_true rfl) (det ?_)
    refine xputI (ci := 10) (f := 15) hk dX10_teach_52 ⟨rfl, by decide, _, rfl, rfl⟩ kX10_115 ⟨rfl, by decide +kernel⟩ ?_
    refine xaload_n hk dX10_teach_55 rfl ?_
    refine xiconst (v := (-1)) hk dX10_teach_56 (by decide) ?_
    refine xputI (ci := 10) (f := 17) hk dX10_teach_57 ⟨rfl, by decide, _, rfl, rfl⟩ kX10_45 ⟨rfl, by decide +kernel⟩ ?_
    refine xaload_n hk dX10_teach_60 rfl ?_
    refine xiconst (v := (-1)) hk dX10_teach_61 (by decide) ?_
    refine xputI (ci := 10) (f := 22) hk dX10_teach_62 ⟨rfl, by decide, _, rfl, rfl⟩ kX10_51 ⟨rfl, by decide +kernel⟩ ?_
    refine xiconst (v := 0) hk dX10_teach_65 (by decide) ?_
    refine xiretZ hk he dX10_teach_66 ⟨Nat.le_of_ble_eq_true rfl, Nat.le_of_ble_eq_true rfl⟩ ?_
    exact ⟨rfl, rfl, rfl, by rw [ha2]; exact ha1 0 (Or.inl (by decide))⟩
  · rw [if_neg h21] at h
    obtain rfl := Option.some.inj h
    refine xiload_n hk dX10_teach_24 rfl ?_
    refine xmap (lay' := LM) (x' := setI u11.2 0 2 0) (fun j => if j = 40 then 21 else j) (by decide +kernel) (by decide +kernel) (fun q hq k => by
      have hq' : q < 21 := hq
      rw [if_neg (by omega)]; exact ⟨rfl, rfl⟩) ?_
    refine xiretZ hk he dX10_teach_25 ⟨Nat.le_of_ble_eq_true rfl, Nat.le_of_ble_eq_true rfl⟩ ?_
    exact ⟨rfl, rfl, rfl, ha1 0 (Or.inl (by decide))⟩
