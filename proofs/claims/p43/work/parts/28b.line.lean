theorem kX4_61 : Cond.methodLink RX4 61 yX4_readFamily ∈ GW := gw_mem 1017 (by decide +kernel) (by decide +kernel)
theorem bX4_readFamily : CBv yX4_readFamily cX4_readFamily 4 (some .boolean) 0 := ⟨⟨gw_mem 1020 (by decide +kernel) (by decide +kernel), gw_mem 17 (by decide +kernel) (by decide +kernel), by decide +kernel, by decide⟩, gw_mem 1019 (by decide +kernel) (by decide +kernel), gw_sel 33 (by decide +kernel) (by decide +kernel)⟩
theorem kX4_64 : Cond.methodLink RX4 64 yX4_readStatement ∈ GW := gw_mem 1032 (by decide +kernel) (by decide +kernel)
theorem bX4_readStatement : CBv yX4_readStatement cX4_readStatement 6 (some .boolean) 3 := ⟨⟨gw_mem 1035 (by decide +kernel) (by decide +kernel), gw_mem 17 (by decide +kernel) (by decide +kernel), by decide +kernel, by decide⟩, gw_mem 1034 (by decide +kernel) (by decide +kernel), gw_sel 35 (by decide +kernel) (by decide +kernel)⟩
theorem kX4_68 : Cond.methodLink RX4 68 yX4_readOrder ∈ GW := gw_mem 1057 (by decide +kernel) (by decide +kernel)
theorem bX4_readOrder : CBv yX4_readOrder cX4_readOrder 4 (some .boolean) 0 := ⟨⟨gw_mem 1060 (by decide +kernel) (by decide +kernel), gw_mem 17 (by decide +kernel) (by decide +kernel), by decide +kernel, by decide⟩, gw_mem 1059 (by decide +kernel) (by decide +kernel), gw_sel 40 (by decide +kernel) (by decide +kernel)⟩
set_option maxHeartbeats 4000000 in
set_option maxRecDepth 100000 in
theorem c_X4_readLine {g : Gx} {a : Nat → Nat} {x : XS}  : Mx g yX4_readLine cX4_readLine 1 (some .boolean) 81 0 0 LF a x [.ref (a 34)] (pr (some (.int (b2i (lineU x).1))) (lineU x).2) := by
  refine Mx_of (by decide +kernel) (Nat.le_of_ble_eq_true rfl) ?_
  intro k hk he hg
  subst hg

  refine xaload_n hk dX4_readLine_0 rfl ?_
  refine xgetR (ci := 4) (f := 0) hk dX4_readLine_1 ⟨rfl, by decide, _, rfl, rfl⟩ kX4_18 ?_
  refine xaload_n hk dX4_readLine_4 rfl ?_
  refine xgetI (ci := 4) (f := 4) hk dX4_readLine_5 ⟨rfl, by decide, _, rfl, rfl⟩ kX4_26 ?_
  refine xcallV hk c_X6_kindAt bX6_kindAt kX4_58 dX4_readLine_8 rfl ⟨_, _, _, _, rfl, rfl⟩ rfl (by decide) ⟨by decide, by decide⟩ (Nat.le_of_ble_eq_true rfl) (det ?_)
  generalize hkd : kindAtF x (x.1 34 4) = kd
  by_cases hs11_300 : kd = 300
  · refine xtableIn hk 80 dX4_readLine_11 (by rw [hs11_300]; decide +kernel) (by rw [hs11_300]; decide +kernel) (off := 69) (by rw [hs11_300]; decide +kernel) (by decide) ?_
    refine xaload_n hk dX4_readLine_80 rfl ?_
    refine xcallV hk c_X4_readFamily bX4_readFamily kX4_61 dX4_readLine_81 rfl ⟨_, _, _, _, rfl, rfl⟩ rfl (by decide) ⟨by decide, by decide⟩ (Nat.le_of_ble_eq_true rfl) (det ?_)
    refine xzret hk he dX4_readLine_84 ⟨by decide, by decide⟩ (by first | with_reducible exact nar_b _ | rfl) ?_
    exact ⟨by simp [lineU, curK, b2i, *], by simp [lineU, curK, *]⟩
  by_cases hs11_301 : kd = 301
  · refine xtableIn hk 85 dX4_readLine_11 (by rw [hs11_301]; decide +kernel) (by rw [hs11_301]; decide +kernel) (off := 74) (by rw [hs11_301]; decide +kernel) (by decide) ?_
    refine xaload_n hk dX4_readLine_85 rfl ?_
    refine xiconst (v := 0) hk dX4_readLine_86 (by decide) ?_
    refine xsipush (v := 302) hk dX4_readLine_87 (by decide) ?_
    refine xsipush (v := 303) hk dX4_readLine_90 (by decide) ?_
    refine xcallV hk c_X4_readStatement bX4_readStatement kX4_64 dX4_readLine_93 rfl ⟨_, _, _, _, rfl, rfl⟩ rfl (by decide) ⟨by decide, by decide⟩ (Nat.le_of_ble_eq_true rfl) (det ?_)
    refine xzret hk he dX4_readLine_96 ⟨by decide, by decide⟩ (by first | with_reducible exact nar_b _ | rfl) ?_
    exact ⟨by simp [lineU, curK, b2i, *], by simp [lineU, curK, *]⟩
  by_cases hs11_304 : kd = 304
  · refine xtableIn hk 97 dX4_readLine_11 (by rw [hs11_304]; decide +kernel) (by rw [hs11_304]; decide +kernel) (off := 86) (by rw [hs11_304]; decide +kernel) (by decide) ?_
    refine xaload_n hk dX4_readLine_97 rfl ?_
    refine xiconst (v := 1) hk dX4_readLine_98 (by decide) ?_
    refine xsipush (v := 305) hk dX4_readLine_99 (by decide) ?_
    refine xsipush (v := 306) hk dX4_readLine_102 (by decide) ?_
    refine xcallV hk c_X4_readStatement bX4_readStatement kX4_64 dX4_readLine_105 rfl ⟨_, _, _, _, rfl, rfl⟩ rfl (by decide) ⟨by decide, by decide⟩ (Nat.le_of_ble_eq_true rfl) (det ?_)
    refine xzret hk he dX4_readLine_108 ⟨by decide, by decide⟩ (by first | with_reducible exact nar_b _ | rfl) ?_
    exact ⟨by simp [lineU, curK, b2i, *], by simp [lineU, curK, *]⟩
  by_cases hs11_307 : kd = 307
  · refine xtableIn hk 109 dX4_readLine_11 (by rw [hs11_307]; decide +kernel) (by rw [hs11_307]; decide +kernel) (off := 98) (by rw [hs11_307]; decide +kernel) (by decide) ?_
    refine xaload_n hk dX4_readLine_109 rfl ?_
    refine xiconst (v := 2) hk dX4_readLine_110 (by decide) ?_
    refine xsipush (v := 263) hk dX4_readLine_111 (by decide) ?_
    refine xsipush (v := 308) hk dX4_readLine_114 (by decide) ?_
    refine xcallV hk c_X4_readStatement bX4_readStatement kX4_64 dX4_readLine_117 rfl ⟨_, _, _, _, rfl, rfl⟩ rfl (by decide) ⟨by decide, by decide⟩ (Nat.le_of_ble_eq_true rfl) (det ?_)
    refine xzret hk he dX4_readLine_120 ⟨by decide, by decide⟩ (by first | with_reducible exact nar_b _ | rfl) ?_
    exact ⟨by simp [lineU, curK, b2i, *], by simp [lineU, curK, *]⟩
  by_cases hs11_309 : kd = 309
  · refine xtableIn hk 121 dX4_readLine_11 (by rw [hs11_309]; decide +kernel) (by rw [hs11_309]; decide +kernel) (off := 110) (by rw [hs11_309]; decide +kernel) (by decide) ?_
    refine xaload_n hk dX4_readLine_121 rfl ?_
    refine xiconst (v := 3) hk dX4_readLine_122 (by decide) ?_
    refine xsipush (v := 263) hk dX4_readLine_123 (by decide) ?_
    refine xsipush (v := 263) hk dX4_readLine_126 (by decide) ?_
    refine xcallV hk c_X4_readStatement bX4_readStatement kX4_64 dX4_readLine_129 rfl ⟨_, _, _, _, rfl, rfl⟩ rfl (by decide) ⟨by decide, by decide⟩ (Nat.le_of_ble_eq_true rfl) (det ?_)
    refine xzret hk he dX4_readLine_132 ⟨by decide, by decide⟩ (by first | with_reducible exact nar_b _ | rfl) ?_
    exact ⟨by simp [lineU, curK, b2i, *], by simp [lineU, curK, *]⟩
  by_cases hs11_312 : kd = 312
  · refine xtableIn hk 133 dX4_readLine_11 (by rw [hs11_312]; decide +kernel) (by rw [hs11_312]; decide +kernel) (off := 122) (by rw [hs11_312]; decide +kernel) (by decide) ?_
    refine xaload_n hk dX4_readLine_133 rfl ?_
    refine xcallV hk c_X4_readOrder bX4_readOrder kX4_68 dX4_readLine_134 rfl ⟨_, _, _, _, rfl, rfl⟩ rfl (by decide) ⟨by decide, by decide⟩ (Nat.le_of_ble_eq_true rfl) (det ?_)
    refine xzret hk he dX4_readLine_137 ⟨by decide, by decide⟩ (by first | with_reducible exact nar_b _ | rfl) ?_
    exact ⟨by simp [lineU, curK, b2i, *], by simp [lineU, curK, *]⟩
  by_cases hs11_313 : kd = 313
  · refine xtableIn hk 133 dX4_readLine_11 (by rw [hs11_313]; decide +kernel) (by rw [hs11_313]; decide +kernel) (off := 122) (by rw [hs11_313]; decide +kernel) (by decide) ?_
    refine xaload_n hk dX4_readLine_133 rfl ?_
    refine xcallV hk c_X4_readOrder bX4_readOrder kX4_68 dX4_readLine_134 rfl ⟨_, _, _, _, rfl, rfl⟩ rfl (by decide) ⟨by decide, by decide⟩ (Nat.le_of_ble_eq_true rfl) (det ?_)
    refine xzret hk he dX4_readLine_137 ⟨by decide, by decide⟩ (by first | with_reducible exact nar_b _ | rfl) ?_
    exact ⟨by simp [lineU, curK, b2i, *], by simp [lineU, curK, *]⟩
  by_cases ht11 : (Int32.toInt kd) < 300 ∨ 313 < (Int32.toInt kd)
  · refine xtableOut hk 138 dX4_readLine_11 ht11 (by decide) ?_
    refine xiconst (v := 0) hk dX4_readLine_138 (by decide) ?_
    refine xzret hk he dX4_readLine_139 ⟨by decide, by decide⟩ (by first | with_reducible exact nar_b _ | rfl) ?_
    exact ⟨by simp [lineU, curK, b2i, *], by simp [lineU, curK, *]⟩
  refine xtableIn hk 138 dX4_readLine_11 (fun z => ht11 (Or.inl z)) (fun z => ht11 (Or.inr z)) (off := 127) (tsw (n := 14) ht11 (by decide) [300, 301, 304, 307, 309, 312, 313] (List.forall_mem_cons.mpr ⟨lv_neT hs11_300 (by decide), (List.forall_mem_cons.mpr ⟨lv_neT hs11_301 (by decide), (List.forall_mem_cons.mpr ⟨lv_neT hs11_304 (by decide), (List.forall_mem_cons.mpr ⟨lv_neT hs11_307 (by decide), (List.forall_mem_cons.mpr ⟨lv_neT hs11_309 (by decide), (List.forall_mem_cons.mpr ⟨lv_neT hs11_312 (by decide), (List.forall_mem_cons.mpr ⟨lv_neT hs11_313 (by decide), (fun _ h => absurd h List.not_mem_nil)⟩)⟩)⟩)⟩)⟩)⟩)⟩) (by decide +kernel)) (by decide) ?_
  refine xiconst (v := 0) hk dX4_readLine_138 (by decide) ?_
  refine xzret hk he dX4_readLine_139 ⟨by decide, by decide⟩ (by first | with_reducible exact nar_b _ | rfl) ?_
  exact ⟨by simp [lineU, curK, b2i, *], by simp [lineU, curK, *]⟩
