theorem kX4_89 : Cond.methodLink RX4 89 yX4_readClaim ∈ GW := gw_mem 1044 (by decide +kernel) (by decide +kernel)
theorem bX4_readClaim : CBv yX4_readClaim cX4_readClaim 2 (some .int) 0 := ⟨⟨gw_mem 1047 (by decide +kernel) (by decide +kernel), gw_mem 17 (by decide +kernel) (by decide +kernel), by decide +kernel, by decide⟩, gw_mem 1046 (by decide +kernel) (by decide +kernel), gw_sel 38 (by decide +kernel) (by decide +kernel)⟩
theorem kX4_93 : Cond.methodLink RX4 93 yX0_addStatement ∈ GW := gw_mem 1053 (by decide +kernel) (by decide +kernel)
theorem bX0_addStatement : CBv yX0_addStatement cX0_addStatement 4 none 3 := ⟨⟨gw_mem 1056 (by decide +kernel) (by decide +kernel), gw_mem 16 (by decide +kernel) (by decide +kernel), by decide +kernel, by decide⟩, gw_mem 1054 (by decide +kernel) (by decide +kernel), gw_mem 1055 (by decide +kernel) (by decide +kernel)⟩
theorem kX4_86 : Cond.methodLink RX4 86 yX4_readStatementName ∈ GW := gw_mem 1036 (by decide +kernel) (by decide +kernel)
theorem bX4_readStatementName : CBv yX4_readStatementName cX4_readStatementName 4 (some .boolean) 0 := ⟨⟨gw_mem 1039 (by decide +kernel) (by decide +kernel), gw_mem 17 (by decide +kernel) (by decide +kernel), by decide +kernel, by decide⟩, gw_mem 1038 (by decide +kernel) (by decide +kernel), gw_sel 36 (by decide +kernel) (by decide +kernel)⟩
theorem kX4_129 : Cond.methodLink RX4 129 yX4_readSingle ∈ GW := gw_mem 1069 (by decide +kernel) (by decide +kernel)
theorem bX4_readSingle : CBv yX4_readSingle cX4_readSingle 7 (some .boolean) 1 := ⟨⟨gw_mem 1072 (by decide +kernel) (by decide +kernel), gw_mem 17 (by decide +kernel) (by decide +kernel), by decide +kernel, by decide⟩, gw_mem 1071 (by decide +kernel) (by decide +kernel), gw_sel 43 (by decide +kernel) (by decide +kernel)⟩
theorem kX4_126 : Cond.methodLink RX4 126 yX0_addCode ∈ GW := gw_mem 1077 (by decide +kernel) (by decide +kernel)
theorem bX0_addCode : CBv yX0_addCode cX0_addCode 4 none 3 := ⟨⟨gw_mem 1080 (by decide +kernel) (by decide +kernel), gw_mem 16 (by decide +kernel) (by decide +kernel), by decide +kernel, by decide⟩, gw_mem 1078 (by decide +kernel) (by decide +kernel), gw_mem 1079 (by decide +kernel) (by decide +kernel)⟩
theorem kX4_123 : Cond.methodLink RX4 123 yX4_readBoth ∈ GW := gw_mem 1065 (by decide +kernel) (by decide +kernel)
theorem bX4_readBoth : CBv yX4_readBoth cX4_readBoth 3 (some .boolean) 1 := ⟨⟨gw_mem 1068 (by decide +kernel) (by decide +kernel), gw_mem 17 (by decide +kernel) (by decide +kernel), by decide +kernel, by decide⟩, gw_mem 1067 (by decide +kernel) (by decide +kernel), gw_sel 42 (by decide +kernel) (by decide +kernel)⟩
theorem kX4_145 : Cond.methodLink RX4 145 yX4_readValue ∈ GW := gw_mem 1089 (by decide +kernel) (by decide +kernel)
theorem bX4_readValue : CBv yX4_readValue cX4_readValue 3 (some .boolean) 1 := ⟨⟨gw_mem 1092 (by decide +kernel) (by decide +kernel), gw_mem 17 (by decide +kernel) (by decide +kernel), by decide +kernel, by decide⟩, gw_mem 1091 (by decide +kernel) (by decide +kernel), gw_sel 47 (by decide +kernel) (by decide +kernel)⟩
theorem kX4_142 : Cond.methodLink RX4 142 yX4_readProduct ∈ GW := gw_mem 1085 (by decide +kernel) (by decide +kernel)
theorem bX4_readProduct : CBv yX4_readProduct cX4_readProduct 4 (some .boolean) 1 := ⟨⟨gw_mem 1088 (by decide +kernel) (by decide +kernel), gw_mem 17 (by decide +kernel) (by decide +kernel), by decide +kernel, by decide⟩, gw_mem 1087 (by decide +kernel) (by decide +kernel), gw_sel 46 (by decide +kernel) (by decide +kernel)⟩
set_option maxHeartbeats 4000000 in
set_option maxRecDepth 100000 in
theorem c_X4_readStatement {g : Gx} {a : Nat → Nat} {x : XS} {kd ah bt : Int32} : Mx g yX4_readStatement cX4_readStatement 6 (some .boolean) 5 0 0 LF a x [.ref (a 34), .int kd, .int ah, .int bt] (pr (some (.int (b2i (stmU x kd ah bt).1))) (stmU x kd ah bt).2) := by
  refine Mx_of (by decide +kernel) (Nat.le_of_ble_eq_true rfl) ?_
  intro k hk he hg
  subst hg

  have tail : ∀ (y : XS), (stmU x kd ah bt = stmB kd bt y) → Wx k 0 0 LF a y 34 [(0, .ref (a 34)), (1, .int kd), (2, .int ah), (3, .int bt)] [] := by
    intro y hE
    rw [hE] at he
    refine xaload_n hk dX4_readStatement_34 rfl ?_
    refine xcallV hk c_X4_readClaim bX4_readClaim kX4_89 dX4_readStatement_35 rfl ⟨_, _, _, _, rfl, rfl⟩ rfl (by decide) ⟨by decide, by decide⟩ (Nat.le_of_ble_eq_true rfl) (det ?_)
    refine xistore hk dX4_readStatement_38 (by decide) ?_
    refine xiload hk dX4_readStatement_40 rfl ?_
    refine xif_ge hk 47 dX4_readStatement_42 (by decide) (fun h42 => ?_) (fun h42 => ?_)
    · have h42 := Int32.not_lt.mpr h42
      refine xiload hk dX4_readStatement_47 rfl ?_
      refine xistore hk dX4_readStatement_49 (by decide) ?_
      refine xiload_n hk dX4_readStatement_51 rfl ?_
      refine xsipush (v := 263) hk dX4_readStatement_52 (by decide) ?_
      refine xicmp_eq hk 76 dX4_readStatement_55 (by decide) (fun h55 => ?_) (fun h55 => ?_)
      · refine xiload hk dX4_readStatement_76 rfl ?_
        refine xif_ge hk 83 dX4_readStatement_78 (by decide) (fun h78 => ?_) (fun h78 => ?_)
        · have h78 := Int32.not_lt.mpr h78
          refine xaload_n hk dX4_readStatement_83 rfl ?_
          refine xgetR (ci := 4) (f := 1) hk dX4_readStatement_84 ⟨rfl, by decide, _, rfl, rfl⟩ kX4_22 ?_
          refine xiload_n hk dX4_readStatement_87 rfl ?_
          refine xiload hk dX4_readStatement_88 rfl ?_
          refine xiload hk dX4_readStatement_90 rfl ?_
          refine xcallV hk c_X0_addStatement bX0_addStatement kX4_93 dX4_readStatement_92 rfl ⟨_, _, _, _, rfl, rfl⟩ rfl (by decide) ⟨by decide, by decide⟩ (Nat.le_of_ble_eq_true rfl) (det ?_)
          refine xiconst (v := 1) hk dX4_readStatement_95 (by decide) ?_
          refine xzret hk he dX4_readStatement_96 ⟨by decide, by decide⟩ (by first | with_reducible exact nar_b _ | rfl) ?_
          first | with_reducible exact absurd h78 h42 | with_reducible exact absurd (show (-1 : Int32) < 0 by decide) h78 | exact ⟨by first | (simp only [stmB, h42, h55, h63, h78, if_true, if_false, Bool.false_eq_true, b2iT, b2iF]; done) | (simp only [stmB, h42, h55, h63, if_true, if_false, Bool.false_eq_true, b2iT, b2iF]; done) | (simp only [stmB, h42, h55, if_true, if_false, Bool.false_eq_true, b2iT, b2iF]; done) | (simp only [stmB, h42, if_true, if_false, Bool.false_eq_true, b2iT, b2iF]; done), by first | (simp only [stmB, h42, h55, h63, h78, if_true, if_false, Bool.false_eq_true, b2iT, b2iF]; done) | (simp only [stmB, h42, h55, h63, if_true, if_false, Bool.false_eq_true, b2iT, b2iF]; done) | (simp only [stmB, h42, h55, if_true, if_false, Bool.false_eq_true, b2iT, b2iF]; done) | (simp only [stmB, h42, if_true, if_false, Bool.false_eq_true, b2iT, b2iF]; done)⟩
        · have h78 := Int32.not_le.mp h78
          refine xiconst (v := 0) hk dX4_readStatement_81 (by decide) ?_
          refine xzret hk he dX4_readStatement_82 ⟨by decide, by decide⟩ (by first | with_reducible exact nar_b _ | rfl) ?_
          first | with_reducible exact absurd h78 h42 | with_reducible exact absurd (show (-1 : Int32) < 0 by decide) h78 | exact ⟨by first | (simp only [stmB, h42, h55, h63, h78, if_true, if_false, Bool.false_eq_true, b2iT, b2iF]; done) | (simp only [stmB, h42, h55, h63, if_true, if_false, Bool.false_eq_true, b2iT, b2iF]; done) | (simp only [stmB, h42, h55, if_true, if_false, Bool.false_eq_true, b2iT, b2iF]; done) | (simp only [stmB, h42, if_true, if_false, Bool.false_eq_true, b2iT, b2iF]; done), by first | (simp only [stmB, h42, h55, h63, h78, if_true, if_false, Bool.false_eq_true, b2iT, b2iF]; done) | (simp only [stmB, h42, h55, h63, if_true, if_false, Bool.false_eq_true, b2iT, b2iF]; done) | (simp only [stmB, h42, h55, if_true, if_false, Bool.false_eq_true, b2iT, b2iF]; done) | (simp only [stmB, h42, if_true, if_false, Bool.false_eq_true, b2iT, b2iF]; done)⟩
      · refine xaload_n hk dX4_readStatement_58 rfl ?_
        refine xiload_n hk dX4_readStatement_59 rfl ?_
        refine xcallV hk c_X4_take bX4_take kX4_46 dX4_readStatement_60 rfl ⟨_, _, _, _, rfl, rfl⟩ rfl (by decide) ⟨by decide, by decide⟩ (Nat.le_of_ble_eq_true rfl) (det ?_)
        refine xif_eq hk 73 dX4_readStatement_63 (by decide) (fun h63 => ?_) (fun h63 => ?_)
        · rw [b2i_0] at h63
          refine xiconst (v := (-1)) hk dX4_readStatement_73 (by decide) ?_
          refine xistore hk dX4_readStatement_74 (by decide) ?_
          refine xiload hk dX4_readStatement_76 rfl ?_
          refine xif_ge hk 83 dX4_readStatement_78 (by decide) (fun h78 => ?_) (fun h78 => ?_)
          · have h78 := Int32.not_lt.mpr h78
            refine xaload_n hk dX4_readStatement_83 rfl ?_
            refine xgetR (ci := 4) (f := 1) hk dX4_readStatement_84 ⟨rfl, by decide, _, rfl, rfl⟩ kX4_22 ?_
            refine xiload_n hk dX4_readStatement_87 rfl ?_
            refine xiload hk dX4_readStatement_88 rfl ?_
            refine xiload hk dX4_readStatement_90 rfl ?_
            refine xcallV hk c_X0_addStatement bX0_addStatement kX4_93 dX4_readStatement_92 rfl ⟨_, _, _, _, rfl, rfl⟩ rfl (by decide) ⟨by decide, by decide⟩ (Nat.le_of_ble_eq_true rfl) (det ?_)
            refine xiconst (v := 1) hk dX4_readStatement_95 (by decide) ?_
            refine xzret hk he dX4_readStatement_96 ⟨by decide, by decide⟩ (by first | with_reducible exact nar_b _ | rfl) ?_
            first | with_reducible exact absurd h78 h42 | with_reducible exact absurd (show (-1 : Int32) < 0 by decide) h78 | exact ⟨by first | (simp only [stmB, h42, h55, h63, h78, if_true, if_false, Bool.false_eq_true, b2iT, b2iF]; done) | (simp only [stmB, h42, h55, h63, if_true, if_false, Bool.false_eq_true, b2iT, b2iF]; done) | (simp only [stmB, h42, h55, if_true, if_false, Bool.false_eq_true, b2iT, b2iF]; done) | (simp only [stmB, h42, if_true, if_false, Bool.false_eq_true, b2iT, b2iF]; done), by first | (simp only [stmB, h42, h55, h63, h78, if_true, if_false, Bool.false_eq_true, b2iT, b2iF]; done) | (simp only [stmB, h42, h55, h63, if_true, if_false, Bool.false_eq_true, b2iT, b2iF]; done) | (simp only [stmB, h42, h55, if_true, if_false, Bool.false_eq_true, b2iT, b2iF]; done) | (simp only [stmB, h42, if_true, if_false, Bool.false_eq_true, b2iT, b2iF]; done)⟩
          · have h78 := Int32.not_le.mp h78
            refine xiconst (v := 0) hk dX4_readStatement_81 (by decide) ?_
            refine xzret hk he dX4_readStatement_82 ⟨by decide, by decide⟩ (by first | with_reducible exact nar_b _ | rfl) ?_
            first | with_reducible exact absurd h78 h42 | with_reducible exact absurd (show (-1 : Int32) < 0 by decide) h78 | exact ⟨by first | (simp only [stmB, h42, h55, h63, h78, if_true, if_false, Bool.false_eq_true, b2iT, b2iF]; done) | (simp only [stmB, h42, h55, h63, if_true, if_false, Bool.false_eq_true, b2iT, b2iF]; done) | (simp only [stmB, h42, h55, if_true, if_false, Bool.false_eq_true, b2iT, b2iF]; done) | (simp only [stmB, h42, if_true, if_false, Bool.false_eq_true, b2iT, b2iF]; done), by first | (simp only [stmB, h42, h55, h63, h78, if_true, if_false, Bool.false_eq_true, b2iT, b2iF]; done) | (simp only [stmB, h42, h55, h63, if_true, if_false, Bool.false_eq_true, b2iT, b2iF]; done) | (simp only [stmB, h42, h55, if_true, if_false, Bool.false_eq_true, b2iT, b2iF]; done) | (simp only [stmB, h42, if_true, if_false, Bool.false_eq_true, b2iT, b2iF]; done)⟩
        · rw [b2i_t] at h63
          refine xaload_n hk dX4_readStatement_66 rfl ?_
          refine xcallV hk c_X4_readClaim bX4_readClaim kX4_89 dX4_readStatement_67 rfl ⟨_, _, _, _, rfl, rfl⟩ rfl (by decide) ⟨by decide, by decide⟩ (Nat.le_of_ble_eq_true rfl) (det ?_)
          refine xgoto hk 74 dX4_readStatement_70 (by decide) ?_
          refine xistore hk dX4_readStatement_74 (by decide) ?_
          refine xiload hk dX4_readStatement_76 rfl ?_
          refine xif_ge hk 83 dX4_readStatement_78 (by decide) (fun h78 => ?_) (fun h78 => ?_)
          · have h78 := Int32.not_lt.mpr h78
            refine xaload_n hk dX4_readStatement_83 rfl ?_
            refine xgetR (ci := 4) (f := 1) hk dX4_readStatement_84 ⟨rfl, by decide, _, rfl, rfl⟩ kX4_22 ?_
            refine xiload_n hk dX4_readStatement_87 rfl ?_
            refine xiload hk dX4_readStatement_88 rfl ?_
            refine xiload hk dX4_readStatement_90 rfl ?_
            refine xcallV hk c_X0_addStatement bX0_addStatement kX4_93 dX4_readStatement_92 rfl ⟨_, _, _, _, rfl, rfl⟩ rfl (by decide) ⟨by decide, by decide⟩ (Nat.le_of_ble_eq_true rfl) (det ?_)
            refine xiconst (v := 1) hk dX4_readStatement_95 (by decide) ?_
            refine xzret hk he dX4_readStatement_96 ⟨by decide, by decide⟩ (by first | with_reducible exact nar_b _ | rfl) ?_
            first | with_reducible exact absurd h78 h42 | with_reducible exact absurd (show (-1 : Int32) < 0 by decide) h78 | exact ⟨by first | (simp only [stmB, h42, h55, h63, h78, if_true, if_false, Bool.false_eq_true, b2iT, b2iF]; done) | (simp only [stmB, h42, h55, h63, if_true, if_false, Bool.false_eq_true, b2iT, b2iF]; done) | (simp only [stmB, h42, h55, if_true, if_false, Bool.false_eq_true, b2iT, b2iF]; done) | (simp only [stmB, h42, if_true, if_false, Bool.false_eq_true, b2iT, b2iF]; done), by first | (simp only [stmB, h42, h55, h63, h78, if_true, if_false, Bool.false_eq_true, b2iT, b2iF]; done) | (simp only [stmB, h42, h55, h63, if_true, if_false, Bool.false_eq_true, b2iT, b2iF]; done) | (simp only [stmB, h42, h55, if_true, if_false, Bool.false_eq_true, b2iT, b2iF]; done) | (simp only [stmB, h42, if_true, if_false, Bool.false_eq_true, b2iT, b2iF]; done)⟩
          · have h78 := Int32.not_le.mp h78
            refine xiconst (v := 0) hk dX4_readStatement_81 (by decide) ?_
            refine xzret hk he dX4_readStatement_82 ⟨by decide, by decide⟩ (by first | with_reducible exact nar_b _ | rfl) ?_
            first | with_reducible exact absurd h78 h42 | with_reducible exact absurd (show (-1 : Int32) < 0 by decide) h78 | exact ⟨by first | (simp only [stmB, h42, h55, h63, h78, if_true, if_false, Bool.false_eq_true, b2iT, b2iF]; done) | (simp only [stmB, h42, h55, h63, if_true, if_false, Bool.false_eq_true, b2iT, b2iF]; done) | (simp only [stmB, h42, h55, if_true, if_false, Bool.false_eq_true, b2iT, b2iF]; done) | (simp only [stmB, h42, if_true, if_false, Bool.false_eq_true, b2iT, b2iF]; done), by first | (simp only [stmB, h42, h55, h63, h78, if_true, if_false, Bool.false_eq_true, b2iT, b2iF]; done) | (simp only [stmB, h42, h55, h63, if_true, if_false, Bool.false_eq_true, b2iT, b2iF]; done) | (simp only [stmB, h42, h55, if_true, if_false, Bool.false_eq_true, b2iT, b2iF]; done) | (simp only [stmB, h42, if_true, if_false, Bool.false_eq_true, b2iT, b2iF]; done)⟩
    · have h42 := Int32.not_le.mp h42
      refine xiconst (v := 0) hk dX4_readStatement_45 (by decide) ?_
      refine xzret hk he dX4_readStatement_46 ⟨by decide, by decide⟩ (by first | with_reducible exact nar_b _ | rfl) ?_
      first | with_reducible exact absurd h78 h42 | with_reducible exact absurd (show (-1 : Int32) < 0 by decide) h78 | exact ⟨by first | (simp only [stmB, h42, h55, h63, h78, if_true, if_false, Bool.false_eq_true, b2iT, b2iF]; done) | (simp only [stmB, h42, h55, h63, if_true, if_false, Bool.false_eq_true, b2iT, b2iF]; done) | (simp only [stmB, h42, h55, if_true, if_false, Bool.false_eq_true, b2iT, b2iF]; done) | (simp only [stmB, h42, if_true, if_false, Bool.false_eq_true, b2iT, b2iF]; done), by first | (simp only [stmB, h42, h55, h63, h78, if_true, if_false, Bool.false_eq_true, b2iT, b2iF]; done) | (simp only [stmB, h42, h55, h63, if_true, if_false, Bool.false_eq_true, b2iT, b2iF]; done) | (simp only [stmB, h42, h55, if_true, if_false, Bool.false_eq_true, b2iT, b2iF]; done) | (simp only [stmB, h42, if_true, if_false, Bool.false_eq_true, b2iT, b2iF]; done)⟩
  refine xaload_n hk dX4_readStatement_0 rfl ?_
  refine xdup hk dX4_readStatement_1 rfl ?_
  refine xgetI (ci := 4) (f := 4) hk dX4_readStatement_2 ⟨rfl, by decide, _, rfl, rfl⟩ kX4_26 ?_
  refine xiconst (v := 1) hk dX4_readStatement_5 (by decide) ?_
  refine xiadd hk dX4_readStatement_6 ?_
  refine xputI (ci := 4) (f := 4) hk dX4_readStatement_7 ⟨rfl, by decide, _, rfl, rfl⟩ kX4_26 ⟨rfl, by decide +kernel⟩ ?_
  refine xaload_n hk dX4_readStatement_10 rfl ?_
  refine xcallV hk c_X4_readStatementName bX4_readStatementName kX4_86 dX4_readStatement_11 rfl ⟨_, _, _, _, rfl, rfl⟩ rfl (by decide) ⟨by decide, by decide⟩ (Nat.le_of_ble_eq_true rfl) (det ?_)
  refine xif_eq hk 32 dX4_readStatement_14 (by decide) (fun h14 => ?_) (fun h14 => ?_)
  · rw [b2i_0] at h14
    refine xiconst (v := 0) hk dX4_readStatement_32 (by decide) ?_
    refine xzret hk he dX4_readStatement_33 ⟨by decide, by decide⟩ (by first | with_reducible exact nar_b _ | rfl) ?_
    exact ⟨by first | (simp only [stmU, show adv x = setI x 34 4 (x.1 34 4 + 1) from rfl, h14, h21, h29, if_true, if_false, Bool.false_eq_true, b2iT, b2iF]; done) | (simp only [stmU, show adv x = setI x 34 4 (x.1 34 4 + 1) from rfl, h14, h21, if_true, if_false, Bool.false_eq_true, b2iT, b2iF]; done) | (simp only [stmU, show adv x = setI x 34 4 (x.1 34 4 + 1) from rfl, h14, if_true, if_false, Bool.false_eq_true, b2iT, b2iF]; done), by first | (simp only [stmU, show adv x = setI x 34 4 (x.1 34 4 + 1) from rfl, h14, h21, h29, if_true, if_false, Bool.false_eq_true, b2iT, b2iF]; done) | (simp only [stmU, show adv x = setI x 34 4 (x.1 34 4 + 1) from rfl, h14, h21, if_true, if_false, Bool.false_eq_true, b2iT, b2iF]; done) | (simp only [stmU, show adv x = setI x 34 4 (x.1 34 4 + 1) from rfl, h14, if_true, if_false, Bool.false_eq_true, b2iT, b2iF]; done)⟩
  · rw [b2i_t] at h14
    refine xiload_n hk dX4_readStatement_17 rfl ?_
    refine xsipush (v := 263) hk dX4_readStatement_18 (by decide) ?_
    refine xicmp_eq hk 34 dX4_readStatement_21 (by decide) (fun h21 => ?_) (fun h21 => ?_)
    · exact tail _ (by first | (simp only [stmU, show adv x = setI x 34 4 (x.1 34 4 + 1) from rfl, h14, h21, h29, if_true, if_false, Bool.false_eq_true]; done) | (simp only [stmU, show adv x = setI x 34 4 (x.1 34 4 + 1) from rfl, h14, h21, if_true, if_false, Bool.false_eq_true]; done))
    · refine xaload_n hk dX4_readStatement_24 rfl ?_
      refine xiload_n hk dX4_readStatement_25 rfl ?_
      refine xcallV hk c_X4_take bX4_take kX4_46 dX4_readStatement_26 rfl ⟨_, _, _, _, rfl, rfl⟩ rfl (by decide) ⟨by decide, by decide⟩ (Nat.le_of_ble_eq_true rfl) (det ?_)
      refine xif_ne hk 34 dX4_readStatement_29 (by decide) (fun h29 => ?_) (fun h29 => ?_)
      · rw [b2i_t] at h29
        exact tail _ (by first | (simp only [stmU, show adv x = setI x 34 4 (x.1 34 4 + 1) from rfl, h14, h21, h29, if_true, if_false, Bool.false_eq_true]; done) | (simp only [stmU, show adv x = setI x 34 4 (x.1 34 4 + 1) from rfl, h14, h21, if_true, if_false, Bool.false_eq_true]; done))
      · rw [b2i_0] at h29
        refine xiconst (v := 0) hk dX4_readStatement_32 (by decide) ?_
        refine xzret hk he dX4_readStatement_33 ⟨by decide, by decide⟩ (by first | with_reducible exact nar_b _ | rfl) ?_
        exact ⟨by first | (simp only [stmU, show adv x = setI x 34 4 (x.1 34 4 + 1) from rfl, h14, h21, h29, if_true, if_false, Bool.false_eq_true, b2iT, b2iF]; done) | (simp only [stmU, show adv x = setI x 34 4 (x.1 34 4 + 1) from rfl, h14, h21, if_true, if_false, Bool.false_eq_true, b2iT, b2iF]; done) | (simp only [stmU, show adv x = setI x 34 4 (x.1 34 4 + 1) from rfl, h14, if_true, if_false, Bool.false_eq_true, b2iT, b2iF]; done), by first | (simp only [stmU, show adv x = setI x 34 4 (x.1 34 4 + 1) from rfl, h14, h21, h29, if_true, if_false, Bool.false_eq_true, b2iT, b2iF]; done) | (simp only [stmU, show adv x = setI x 34 4 (x.1 34 4 + 1) from rfl, h14, h21, if_true, if_false, Bool.false_eq_true, b2iT, b2iF]; done) | (simp only [stmU, show adv x = setI x 34 4 (x.1 34 4 + 1) from rfl, h14, if_true, if_false, Bool.false_eq_true, b2iT, b2iF]; done)⟩
theorem lt400 {j : Nat} (h : j ≤ 400) : (400 : Int32) ≤ nI j ↔ 400 ≤ j := nI_leI (a := 400) (by decide) (by omega)
set_option maxHeartbeats 4000000 in
set_option maxRecDepth 100000 in
theorem c_X4_readBoth {g : Gx} {a : Nat → Nat} {x : XS} {d : Int32} {R : XS → Bool × XS} {rk : Nat} (hR : ∀ y : XS, Mx g yX4_readSingle cX4_readSingle 7 (some .boolean) rk 0 0 LF a y [.ref (a 34), .int d] (pr (some (.int (b2i (R y).1))) (R y).2)) (hrk : 3 ≤ rk) : Mx g yX4_readBoth cX4_readBoth 3 (some .boolean) (rk + 1) 0 0 LF a x [.ref (a 34), .int d] (pr (some (.int (b2i (opsU 324 R x).1))) (opsU 324 R x).2) := by
  refine Mx_of (by decide +kernel) (Nat.le_of_ble_eq_true rfl) ?_
  intro k hk he hg
  subst hg
  have loop : ∀ (n r j : Nat) (v : Int32) (y : XS), r < n → v = nI j → r + j = 400 → opsL 324 R r y = opsU 324 R x → Wx k 0 0 LF a y 12 [(0, .ref (a 34)), (1, .int d), (2, .int v)] [] := by
    intro n
    induction n with
    | zero => intros; omega
    | succ n ih =>
      intro r j v y hn hv hj hI
      subst hv
      refine xiload_n hk dX4_readBoth_12 rfl ?_
      refine xsipush (v := 400) hk dX4_readBoth_13 (by decide) ?_
      refine xicmp_ge hk 57 dX4_readBoth_16 (by decide) (fun h16 => ?_) (fun h16 => ?_)
      · rw [lt400 (by omega)] at h16
        obtain rfl : r = 0 := by omega
        refine xiconst (v := 1) hk dX4_readBoth_57 (by decide) ?_
        refine xzret hk he dX4_readBoth_58 ⟨by decide, by decide⟩ (by first | with_reducible exact nar_b _ | rfl) ?_
        rw [← hI]
        exact ⟨rfl, rfl⟩
      · rw [lt400 (by omega)] at h16
        obtain ⟨r, rfl⟩ : ∃ r2, r = r2 + 1 := ⟨r - 1, by omega⟩
        rw [opsL] at hI
        refine xaload_n hk dX4_readBoth_19 rfl ?_
        refine xsipush (v := 324) hk dX4_readBoth_20 (by decide) ?_
        refine xcallV hk c_X4_take bX4_take kX4_46 dX4_readBoth_23 rfl ⟨_, _, _, _, rfl, rfl⟩ rfl (by omega) ⟨by decide, by decide⟩ (Nat.le_of_ble_eq_true rfl) (det ?_)
        refine xif_eq hk 57 dX4_readBoth_26 (by decide) (fun h26 => ?_) (fun h26 => ?_)
        · rw [b2i_0] at h26
          simp only [h26, if_false, Bool.false_eq_true] at hI
          refine xiconst (v := 1) hk dX4_readBoth_57 (by decide) ?_
          refine xzret hk he dX4_readBoth_58 ⟨by decide, by decide⟩ (by first | with_reducible exact nar_b _ | rfl) ?_
          rw [← hI]
          exact ⟨rfl, rfl⟩
        · rw [b2i_t] at h26
          simp only [h26, if_true] at hI
          refine xaload_n hk dX4_readBoth_29 rfl ?_
          refine xiload_n hk dX4_readBoth_30 rfl ?_
          refine xcallV hk (hR _) bX4_readSingle kX4_129 dX4_readBoth_31 rfl ⟨_, _, _, _, rfl, rfl⟩ rfl (by omega) ⟨by decide, by decide⟩ (Nat.le_of_ble_eq_true rfl) (det ?_)
          refine xif_ne hk 39 dX4_readBoth_34 (by decide) (fun h34 => ?_) (fun h34 => ?_)
          · rw [b2i_t] at h34
            simp only [h34, if_true] at hI
            refine xaload_n hk dX4_readBoth_39 rfl ?_
            refine xgetR (ci := 4) (f := 1) hk dX4_readBoth_40 ⟨rfl, by decide, _, rfl, rfl⟩ kX4_22 ?_
            refine xsipush (v := 324) hk dX4_readBoth_43 (by decide) ?_
            refine xiconst (v := 0) hk dX4_readBoth_46 (by decide) ?_
            refine xiconst (v := 0) hk dX4_readBoth_47 (by decide) ?_
            refine xcallV hk c_X0_addCode bX0_addCode kX4_126 dX4_readBoth_48 rfl ⟨_, _, _, _, rfl, rfl⟩ rfl (by omega) ⟨by decide, by decide⟩ (Nat.le_of_ble_eq_true rfl) (det ?_)
            refine xiinc hk dX4_readBoth_51 rfl (by decide) rfl ?_
            refine xgoto hk 12 dX4_readBoth_54 (by decide) ?_
            exact ih r (j + 1) _ _ (by omega) (nI_inc j) (by omega) hI
          · rw [b2i_0] at h34
            simp only [h34, if_false, Bool.false_eq_true] at hI
            refine xiconst (v := 0) hk dX4_readBoth_37 (by decide) ?_
            refine xzret hk he dX4_readBoth_38 ⟨by decide, by decide⟩ (by first | with_reducible exact nar_b _ | rfl) ?_
            rw [← hI]
            exact ⟨rfl, rfl⟩
  refine xaload_n hk dX4_readBoth_0 rfl ?_
  refine xiload_n hk dX4_readBoth_1 rfl ?_
  refine xcallV hk (hR _) bX4_readSingle kX4_129 dX4_readBoth_2 rfl ⟨_, _, _, _, rfl, rfl⟩ rfl (by omega) ⟨by decide, by decide⟩ (Nat.le_of_ble_eq_true rfl) (det ?_)
  refine xif_ne hk 10 dX4_readBoth_5 (by decide) (fun h5 => ?_) (fun h5 => ?_)
  · rw [b2i_t] at h5
    refine xiconst (v := 0) hk dX4_readBoth_10 (by decide) ?_
    refine xistore_n hk dX4_readBoth_11 (by decide) ?_
    exact loop 401 400 0 _ _ (by omega) rfl (by omega) (by simp only [opsU, h5, if_true])
  · rw [b2i_0] at h5
    refine xiconst (v := 0) hk dX4_readBoth_8 (by decide) ?_
    refine xzret hk he dX4_readBoth_9 ⟨by decide, by decide⟩ (by first | with_reducible exact nar_b _ | rfl) ?_
    exact ⟨by first | (simp only [opsU, h5, if_true, if_false, Bool.false_eq_true, b2iT, b2iF]; done), by first | (simp only [opsU, h5, if_true, if_false, Bool.false_eq_true, b2iT, b2iF]; done)⟩
set_option maxHeartbeats 4000000 in
set_option maxRecDepth 100000 in
theorem c_X4_readTest {g : Gx} {a : Nat → Nat} {x : XS} {d : Int32} {R : XS → Bool × XS} {rk : Nat} (hR : ∀ y : XS, Mx g yX4_readBoth cX4_readBoth 3 (some .boolean) rk 0 0 LF a y [.ref (a 34), .int d] (pr (some (.int (b2i (R y).1))) (R y).2)) (hrk : 3 ≤ rk) : Mx g yX4_readTest cX4_readTest 3 (some .boolean) (rk + 1) 0 0 LF a x [.ref (a 34), .int d] (pr (some (.int (b2i (opsU 306 R x).1))) (opsU 306 R x).2) := by
  refine Mx_of (by decide +kernel) (Nat.le_of_ble_eq_true rfl) ?_
  intro k hk he hg
  subst hg
  have loop : ∀ (n r j : Nat) (v : Int32) (y : XS), r < n → v = nI j → r + j = 400 → opsL 306 R r y = opsU 306 R x → Wx k 0 0 LF a y 12 [(0, .ref (a 34)), (1, .int d), (2, .int v)] [] := by
    intro n
    induction n with
    | zero => intros; omega
    | succ n ih =>
      intro r j v y hn hv hj hI
      subst hv
      refine xiload_n hk dX4_readTest_12 rfl ?_
      refine xsipush (v := 400) hk dX4_readTest_13 (by decide) ?_
      refine xicmp_ge hk 57 dX4_readTest_16 (by decide) (fun h16 => ?_) (fun h16 => ?_)
      · rw [lt400 (by omega)] at h16
        obtain rfl : r = 0 := by omega
        refine xiconst (v := 1) hk dX4_readTest_57 (by decide) ?_
        refine xzret hk he dX4_readTest_58 ⟨by decide, by decide⟩ (by first | with_reducible exact nar_b _ | rfl) ?_
        rw [← hI]
        exact ⟨rfl, rfl⟩
      · rw [lt400 (by omega)] at h16
        obtain ⟨r, rfl⟩ : ∃ r2, r = r2 + 1 := ⟨r - 1, by omega⟩
        rw [opsL] at hI
        refine xaload_n hk dX4_readTest_19 rfl ?_
        refine xsipush (v := 306) hk dX4_readTest_20 (by decide) ?_
        refine xcallV hk c_X4_take bX4_take kX4_46 dX4_readTest_23 rfl ⟨_, _, _, _, rfl, rfl⟩ rfl (by omega) ⟨by decide, by decide⟩ (Nat.le_of_ble_eq_true rfl) (det ?_)
        refine xif_eq hk 57 dX4_readTest_26 (by decide) (fun h26 => ?_) (fun h26 => ?_)
        · rw [b2i_0] at h26
          simp only [h26, if_false, Bool.false_eq_true] at hI
          refine xiconst (v := 1) hk dX4_readTest_57 (by decide) ?_
          refine xzret hk he dX4_readTest_58 ⟨by decide, by decide⟩ (by first | with_reducible exact nar_b _ | rfl) ?_
          rw [← hI]
          exact ⟨rfl, rfl⟩
        · rw [b2i_t] at h26
          simp only [h26, if_true] at hI
          refine xaload_n hk dX4_readTest_29 rfl ?_
          refine xiload_n hk dX4_readTest_30 rfl ?_
          refine xcallV hk (hR _) bX4_readBoth kX4_123 dX4_readTest_31 rfl ⟨_, _, _, _, rfl, rfl⟩ rfl (by omega) ⟨by decide, by decide⟩ (Nat.le_of_ble_eq_true rfl) (det ?_)
          refine xif_ne hk 39 dX4_readTest_34 (by decide) (fun h34 => ?_) (fun h34 => ?_)
          · rw [b2i_t] at h34
            simp only [h34, if_true] at hI
            refine xaload_n hk dX4_readTest_39 rfl ?_
            refine xgetR (ci := 4) (f := 1) hk dX4_readTest_40 ⟨rfl, by decide, _, rfl, rfl⟩ kX4_22 ?_
            refine xsipush (v := 306) hk dX4_readTest_43 (by decide) ?_
            refine xiconst (v := 0) hk dX4_readTest_46 (by decide) ?_
            refine xiconst (v := 0) hk dX4_readTest_47 (by decide) ?_
            refine xcallV hk c_X0_addCode bX0_addCode kX4_126 dX4_readTest_48 rfl ⟨_, _, _, _, rfl, rfl⟩ rfl (by omega) ⟨by decide, by decide⟩ (Nat.le_of_ble_eq_true rfl) (det ?_)
            refine xiinc hk dX4_readTest_51 rfl (by decide) rfl ?_
            refine xgoto hk 12 dX4_readTest_54 (by decide) ?_
            exact ih r (j + 1) _ _ (by omega) (nI_inc j) (by omega) hI
          · rw [b2i_0] at h34
            simp only [h34, if_false, Bool.false_eq_true] at hI
            refine xiconst (v := 0) hk dX4_readTest_37 (by decide) ?_
            refine xzret hk he dX4_readTest_38 ⟨by decide, by decide⟩ (by first | with_reducible exact nar_b _ | rfl) ?_
            rw [← hI]
            exact ⟨rfl, rfl⟩
  refine xaload_n hk dX4_readTest_0 rfl ?_
  refine xiload_n hk dX4_readTest_1 rfl ?_
  refine xcallV hk (hR _) bX4_readBoth kX4_123 dX4_readTest_2 rfl ⟨_, _, _, _, rfl, rfl⟩ rfl (by omega) ⟨by decide, by decide⟩ (Nat.le_of_ble_eq_true rfl) (det ?_)
  refine xif_ne hk 10 dX4_readTest_5 (by decide) (fun h5 => ?_) (fun h5 => ?_)
  · rw [b2i_t] at h5
    refine xiconst (v := 0) hk dX4_readTest_10 (by decide) ?_
    refine xistore_n hk dX4_readTest_11 (by decide) ?_
    exact loop 401 400 0 _ _ (by omega) rfl (by omega) (by simp only [opsU, h5, if_true])
  · rw [b2i_0] at h5
    refine xiconst (v := 0) hk dX4_readTest_8 (by decide) ?_
    refine xzret hk he dX4_readTest_9 ⟨by decide, by decide⟩ (by first | with_reducible exact nar_b _ | rfl) ?_
    exact ⟨by first | (simp only [opsU, h5, if_true, if_false, Bool.false_eq_true, b2iT, b2iF]; done), by first | (simp only [opsU, h5, if_true, if_false, Bool.false_eq_true, b2iT, b2iF]; done)⟩
set_option maxHeartbeats 4000000 in
set_option maxRecDepth 100000 in
theorem c_X4_readProduct {g : Gx} {a : Nat → Nat} {x : XS} {d : Int32} {R : XS → Bool × XS} {rk : Nat} (hR : ∀ y : XS, Mx g yX4_readValue cX4_readValue 3 (some .boolean) rk 0 0 LF a y [.ref (a 34), .int d] (pr (some (.int (b2i (R y).1))) (R y).2)) (hrk : 3 ≤ rk) : Mx g yX4_readProduct cX4_readProduct 4 (some .boolean) (rk + 1) 0 0 LF a x [.ref (a 34), .int d] (pr (some (.int (b2i (op2U 42 47 R x).1))) (op2U 42 47 R x).2) := by
  refine Mx_of (by decide +kernel) (Nat.le_of_ble_eq_true rfl) ?_
  intro k hk he hg
  subst hg
  have loop : ∀ (n r j : Nat) (v : Int32) (y : XS), r < n → v = nI j → r + j = 400 → op2L 42 47 R r y = op2U 42 47 R x → Wx k 0 0 LF a y 12 [(0, .ref (a 34)), (1, .int d), (2, .int v)] [] := by
    intro n
    induction n with
    | zero => intros; omega
    | succ n ih =>
      intro r j v y hn hv hj hI
      subst hv
      refine xiload_n hk dX4_readProduct_12 rfl ?_
      refine xsipush (v := 400) hk dX4_readProduct_13 (by decide) ?_
      refine xicmp_ge hk 85 dX4_readProduct_16 (by decide) (fun h16 => ?_) (fun h16 => ?_)
      · rw [lt400 (by omega)] at h16
        obtain rfl : r = 0 := by omega
        refine xiconst (v := 1) hk dX4_readProduct_85 (by decide) ?_
        refine xzret hk he dX4_readProduct_86 ⟨by decide, by decide⟩ (by first | with_reducible exact nar_b _ | rfl) ?_
        rw [← hI]
        exact ⟨rfl, rfl⟩
      · rw [lt400 (by omega)] at h16
        obtain ⟨r, rfl⟩ : ∃ r2, r = r2 + 1 := ⟨r - 1, by omega⟩
        rw [op2L] at hI
        refine xaload_n hk dX4_readProduct_19 rfl ?_
        refine xbipush (v := 42) hk dX4_readProduct_20 (by decide) ?_
        refine xcallV hk c_X4_isNext bX4_isNext kX4_38 dX4_readProduct_22 rfl ⟨_, _, _, _, rfl, rfl⟩ rfl (by omega) ⟨by decide, by decide⟩ (Nat.le_of_ble_eq_true rfl) (det ?_)
        refine xif_ne hk 37 dX4_readProduct_25 (by decide) (fun h25 => ?_) (fun h25 => ?_)
        · rw [b2i_t] at h25
          rw [h25, Bool.true_or, if_pos rfl] at hI
          refine xaload_n hk dX4_readProduct_37 rfl ?_
          refine xgetR (ci := 4) (f := 0) hk dX4_readProduct_38 ⟨rfl, by decide, _, rfl, rfl⟩ kX4_18 ?_
          refine xaload_n hk dX4_readProduct_41 rfl ?_
          refine xgetI (ci := 4) (f := 4) hk dX4_readProduct_42 ⟨rfl, by decide, _, rfl, rfl⟩ kX4_26 ?_
          refine xcallV hk c_X6_kindAt bX6_kindAt kX4_58 dX4_readProduct_45 rfl ⟨_, _, _, _, rfl, rfl⟩ rfl (by omega) ⟨by decide, by decide⟩ (Nat.le_of_ble_eq_true rfl) (det ?_)
          refine xistore_n hk dX4_readProduct_48 (by decide) ?_
          refine xaload_n hk dX4_readProduct_49 rfl ?_
          refine xdup hk dX4_readProduct_50 rfl ?_
          refine xgetI (ci := 4) (f := 4) hk dX4_readProduct_51 ⟨rfl, by decide, _, rfl, rfl⟩ kX4_26 ?_
          refine xiconst (v := 1) hk dX4_readProduct_54 (by decide) ?_
          refine xiadd hk dX4_readProduct_55 ?_
          refine xputI (ci := 4) (f := 4) hk dX4_readProduct_56 ⟨rfl, by decide, _, rfl, rfl⟩ kX4_26 ⟨rfl, by decide +kernel⟩ ?_
          refine xaload_n hk dX4_readProduct_59 rfl ?_
          refine xiload_n hk dX4_readProduct_60 rfl ?_
          refine xcallV hk (hR _) bX4_readValue kX4_145 dX4_readProduct_61 rfl ⟨_, _, _, _, rfl, rfl⟩ rfl (by omega) ⟨by decide, by decide⟩ (Nat.le_of_ble_eq_true rfl) (det ?_)
          refine xif_ne hk 69 dX4_readProduct_64 (by decide) (fun h64 => ?_) (fun h64 => ?_)
          · rw [b2i_t] at h64
            simp only [adv, h64, if_true] at hI
            refine xaload_n hk dX4_readProduct_69 rfl ?_
            refine xgetR (ci := 4) (f := 1) hk dX4_readProduct_70 ⟨rfl, by decide, _, rfl, rfl⟩ kX4_22 ?_
            refine xiload_n hk dX4_readProduct_73 rfl ?_
            refine xiconst (v := 0) hk dX4_readProduct_74 (by decide) ?_
            refine xiconst (v := 0) hk dX4_readProduct_75 (by decide) ?_
            refine xcallV hk c_X0_addCode bX0_addCode kX4_126 dX4_readProduct_76 rfl ⟨_, _, _, _, rfl, rfl⟩ rfl (by omega) ⟨by decide, by decide⟩ (Nat.le_of_ble_eq_true rfl) (det ?_)
            refine xiinc hk dX4_readProduct_79 rfl (by decide) rfl ?_
            refine xgoto hk 12 dX4_readProduct_82 (by decide) ?_
            refine xsub [(0, _), (1, _), (2, _)] rfl ?_
            exact ih r (j + 1) _ _ (by omega) (nI_inc j) (by omega) hI
          · rw [b2i_0] at h64
            simp only [adv, h64, if_false, Bool.false_eq_true] at hI
            refine xiconst (v := 0) hk dX4_readProduct_67 (by decide) ?_
            refine xzret hk he dX4_readProduct_68 ⟨by decide, by decide⟩ (by first | with_reducible exact nar_b _ | rfl) ?_
            rw [← hI]
            exact ⟨rfl, rfl⟩
        · rw [b2i_0] at h25
          refine xaload_n hk dX4_readProduct_28 rfl ?_
          refine xbipush (v := 47) hk dX4_readProduct_29 (by decide) ?_
          refine xcallV hk c_X4_isNext bX4_isNext kX4_38 dX4_readProduct_31 rfl ⟨_, _, _, _, rfl, rfl⟩ rfl (by omega) ⟨by decide, by decide⟩ (Nat.le_of_ble_eq_true rfl) (det ?_)
          refine xif_eq hk 85 dX4_readProduct_34 (by decide) (fun h34 => ?_) (fun h34 => ?_)
          · rw [b2i_0] at h34
            rw [h25, h34, Bool.or_false, if_neg Bool.false_ne_true] at hI
            refine xiconst (v := 1) hk dX4_readProduct_85 (by decide) ?_
            refine xzret hk he dX4_readProduct_86 ⟨by decide, by decide⟩ (by first | with_reducible exact nar_b _ | rfl) ?_
            rw [← hI]
            exact ⟨rfl, rfl⟩
          · rw [b2i_t] at h34
            rw [h34, Bool.or_true, if_pos rfl] at hI
            refine xaload_n hk dX4_readProduct_37 rfl ?_
            refine xgetR (ci := 4) (f := 0) hk dX4_readProduct_38 ⟨rfl, by decide, _, rfl, rfl⟩ kX4_18 ?_
            refine xaload_n hk dX4_readProduct_41 rfl ?_
            refine xgetI (ci := 4) (f := 4) hk dX4_readProduct_42 ⟨rfl, by decide, _, rfl, rfl⟩ kX4_26 ?_
            refine xcallV hk c_X6_kindAt bX6_kindAt kX4_58 dX4_readProduct_45 rfl ⟨_, _, _, _, rfl, rfl⟩ rfl (by omega) ⟨by decide, by decide⟩ (Nat.le_of_ble_eq_true rfl) (det ?_)
            refine xistore_n hk dX4_readProduct_48 (by decide) ?_
            refine xaload_n hk dX4_readProduct_49 rfl ?_
            refine xdup hk dX4_readProduct_50 rfl ?_
            refine xgetI (ci := 4) (f := 4) hk dX4_readProduct_51 ⟨rfl, by decide, _, rfl, rfl⟩ kX4_26 ?_
            refine xiconst (v := 1) hk dX4_readProduct_54 (by decide) ?_
            refine xiadd hk dX4_readProduct_55 ?_
            refine xputI (ci := 4) (f := 4) hk dX4_readProduct_56 ⟨rfl, by decide, _, rfl, rfl⟩ kX4_26 ⟨rfl, by decide +kernel⟩ ?_
            refine xaload_n hk dX4_readProduct_59 rfl ?_
            refine xiload_n hk dX4_readProduct_60 rfl ?_
            refine xcallV hk (hR _) bX4_readValue kX4_145 dX4_readProduct_61 rfl ⟨_, _, _, _, rfl, rfl⟩ rfl (by omega) ⟨by decide, by decide⟩ (Nat.le_of_ble_eq_true rfl) (det ?_)
            refine xif_ne hk 69 dX4_readProduct_64 (by decide) (fun h64 => ?_) (fun h64 => ?_)
            · rw [b2i_t] at h64
              simp only [adv, h64, if_true] at hI
              refine xaload_n hk dX4_readProduct_69 rfl ?_
              refine xgetR (ci := 4) (f := 1) hk dX4_readProduct_70 ⟨rfl, by decide, _, rfl, rfl⟩ kX4_22 ?_
              refine xiload_n hk dX4_readProduct_73 rfl ?_
              refine xiconst (v := 0) hk dX4_readProduct_74 (by decide) ?_
              refine xiconst (v := 0) hk dX4_readProduct_75 (by decide) ?_
              refine xcallV hk c_X0_addCode bX0_addCode kX4_126 dX4_readProduct_76 rfl ⟨_, _, _, _, rfl, rfl⟩ rfl (by omega) ⟨by decide, by decide⟩ (Nat.le_of_ble_eq_true rfl) (det ?_)
              refine xiinc hk dX4_readProduct_79 rfl (by decide) rfl ?_
              refine xgoto hk 12 dX4_readProduct_82 (by decide) ?_
              refine xsub [(0, _), (1, _), (2, _)] rfl ?_
              exact ih r (j + 1) _ _ (by omega) (nI_inc j) (by omega) hI
            · rw [b2i_0] at h64
              simp only [adv, h64, if_false, Bool.false_eq_true] at hI
              refine xiconst (v := 0) hk dX4_readProduct_67 (by decide) ?_
              refine xzret hk he dX4_readProduct_68 ⟨by decide, by decide⟩ (by first | with_reducible exact nar_b _ | rfl) ?_
              rw [← hI]
              exact ⟨rfl, rfl⟩
  refine xaload_n hk dX4_readProduct_0 rfl ?_
  refine xiload_n hk dX4_readProduct_1 rfl ?_
  refine xcallV hk (hR _) bX4_readValue kX4_145 dX4_readProduct_2 rfl ⟨_, _, _, _, rfl, rfl⟩ rfl (by omega) ⟨by decide, by decide⟩ (Nat.le_of_ble_eq_true rfl) (det ?_)
  refine xif_ne hk 10 dX4_readProduct_5 (by decide) (fun h5 => ?_) (fun h5 => ?_)
  · rw [b2i_t] at h5
    refine xiconst (v := 0) hk dX4_readProduct_10 (by decide) ?_
    refine xistore_n hk dX4_readProduct_11 (by decide) ?_
    exact loop 401 400 0 _ _ (by omega) rfl (by omega) (by simp only [op2U, h5, if_true])
  · rw [b2i_0] at h5
    refine xiconst (v := 0) hk dX4_readProduct_8 (by decide) ?_
    refine xzret hk he dX4_readProduct_9 ⟨by decide, by decide⟩ (by first | with_reducible exact nar_b _ | rfl) ?_
    exact ⟨by first | (simp only [op2U, h5, if_true, if_false, Bool.false_eq_true, b2iT, b2iF]; done), by first | (simp only [op2U, h5, if_true, if_false, Bool.false_eq_true, b2iT, b2iF]; done)⟩
set_option maxHeartbeats 4000000 in
set_option maxRecDepth 100000 in
theorem c_X4_readSum {g : Gx} {a : Nat → Nat} {x : XS} {d : Int32} {R : XS → Bool × XS} {rk : Nat} (hR : ∀ y : XS, Mx g yX4_readProduct cX4_readProduct 4 (some .boolean) rk 0 0 LF a y [.ref (a 34), .int d] (pr (some (.int (b2i (R y).1))) (R y).2)) (hrk : 3 ≤ rk) : Mx g yX4_readSum cX4_readSum 4 (some .boolean) (rk + 1) 0 0 LF a x [.ref (a 34), .int d] (pr (some (.int (b2i (op2U 43 45 R x).1))) (op2U 43 45 R x).2) := by
  refine Mx_of (by decide +kernel) (Nat.le_of_ble_eq_true rfl) ?_
  intro k hk he hg
  subst hg
  have loop : ∀ (n r j : Nat) (v : Int32) (y : XS), r < n → v = nI j → r + j = 400 → op2L 43 45 R r y = op2U 43 45 R x → Wx k 0 0 LF a y 12 [(0, .ref (a 34)), (1, .int d), (2, .int v)] [] := by
    intro n
    induction n with
    | zero => intros; omega
    | succ n ih =>
      intro r j v y hn hv hj hI
      subst hv
      refine xiload_n hk dX4_readSum_12 rfl ?_
      refine xsipush (v := 400) hk dX4_readSum_13 (by decide) ?_
      refine xicmp_ge hk 85 dX4_readSum_16 (by decide) (fun h16 => ?_) (fun h16 => ?_)
      · rw [lt400 (by omega)] at h16
        obtain rfl : r = 0 := by omega
        refine xiconst (v := 1) hk dX4_readSum_85 (by decide) ?_
        refine xzret hk he dX4_readSum_86 ⟨by decide, by decide⟩ (by first | with_reducible exact nar_b _ | rfl) ?_
        rw [← hI]
        exact ⟨rfl, rfl⟩
      · rw [lt400 (by omega)] at h16
        obtain ⟨r, rfl⟩ : ∃ r2, r = r2 + 1 := ⟨r - 1, by omega⟩
        rw [op2L] at hI
        refine xaload_n hk dX4_readSum_19 rfl ?_
        refine xbipush (v := 43) hk dX4_readSum_20 (by decide) ?_
        refine xcallV hk c_X4_isNext bX4_isNext kX4_38 dX4_readSum_22 rfl ⟨_, _, _, _, rfl, rfl⟩ rfl (by omega) ⟨by decide, by decide⟩ (Nat.le_of_ble_eq_true rfl) (det ?_)
        refine xif_ne hk 37 dX4_readSum_25 (by decide) (fun h25 => ?_) (fun h25 => ?_)
        · rw [b2i_t] at h25
          rw [h25, Bool.true_or, if_pos rfl] at hI
          refine xaload_n hk dX4_readSum_37 rfl ?_
          refine xgetR (ci := 4) (f := 0) hk dX4_readSum_38 ⟨rfl, by decide, _, rfl, rfl⟩ kX4_18 ?_
          refine xaload_n hk dX4_readSum_41 rfl ?_
          refine xgetI (ci := 4) (f := 4) hk dX4_readSum_42 ⟨rfl, by decide, _, rfl, rfl⟩ kX4_26 ?_
          refine xcallV hk c_X6_kindAt bX6_kindAt kX4_58 dX4_readSum_45 rfl ⟨_, _, _, _, rfl, rfl⟩ rfl (by omega) ⟨by decide, by decide⟩ (Nat.le_of_ble_eq_true rfl) (det ?_)
          refine xistore_n hk dX4_readSum_48 (by decide) ?_
          refine xaload_n hk dX4_readSum_49 rfl ?_
          refine xdup hk dX4_readSum_50 rfl ?_
          refine xgetI (ci := 4) (f := 4) hk dX4_readSum_51 ⟨rfl, by decide, _, rfl, rfl⟩ kX4_26 ?_
          refine xiconst (v := 1) hk dX4_readSum_54 (by decide) ?_
          refine xiadd hk dX4_readSum_55 ?_
          refine xputI (ci := 4) (f := 4) hk dX4_readSum_56 ⟨rfl, by decide, _, rfl, rfl⟩ kX4_26 ⟨rfl, by decide +kernel⟩ ?_
          refine xaload_n hk dX4_readSum_59 rfl ?_
          refine xiload_n hk dX4_readSum_60 rfl ?_
          refine xcallV hk (hR _) bX4_readProduct kX4_142 dX4_readSum_61 rfl ⟨_, _, _, _, rfl, rfl⟩ rfl (by omega) ⟨by decide, by decide⟩ (Nat.le_of_ble_eq_true rfl) (det ?_)
          refine xif_ne hk 69 dX4_readSum_64 (by decide) (fun h64 => ?_) (fun h64 => ?_)
          · rw [b2i_t] at h64
            simp only [adv, h64, if_true] at hI
            refine xaload_n hk dX4_readSum_69 rfl ?_
            refine xgetR (ci := 4) (f := 1) hk dX4_readSum_70 ⟨rfl, by decide, _, rfl, rfl⟩ kX4_22 ?_
            refine xiload_n hk dX4_readSum_73 rfl ?_
            refine xiconst (v := 0) hk dX4_readSum_74 (by decide) ?_
            refine xiconst (v := 0) hk dX4_readSum_75 (by decide) ?_
            refine xcallV hk c_X0_addCode bX0_addCode kX4_126 dX4_readSum_76 rfl ⟨_, _, _, _, rfl, rfl⟩ rfl (by omega) ⟨by decide, by decide⟩ (Nat.le_of_ble_eq_true rfl) (det ?_)
            refine xiinc hk dX4_readSum_79 rfl (by decide) rfl ?_
            refine xgoto hk 12 dX4_readSum_82 (by decide) ?_
            refine xsub [(0, _), (1, _), (2, _)] rfl ?_
            exact ih r (j + 1) _ _ (by omega) (nI_inc j) (by omega) hI
          · rw [b2i_0] at h64
            simp only [adv, h64, if_false, Bool.false_eq_true] at hI
            refine xiconst (v := 0) hk dX4_readSum_67 (by decide) ?_
            refine xzret hk he dX4_readSum_68 ⟨by decide, by decide⟩ (by first | with_reducible exact nar_b _ | rfl) ?_
            rw [← hI]
            exact ⟨rfl, rfl⟩
        · rw [b2i_0] at h25
          refine xaload_n hk dX4_readSum_28 rfl ?_
          refine xbipush (v := 45) hk dX4_readSum_29 (by decide) ?_
          refine xcallV hk c_X4_isNext bX4_isNext kX4_38 dX4_readSum_31 rfl ⟨_, _, _, _, rfl, rfl⟩ rfl (by omega) ⟨by decide, by decide⟩ (Nat.le_of_ble_eq_true rfl) (det ?_)
          refine xif_eq hk 85 dX4_readSum_34 (by decide) (fun h34 => ?_) (fun h34 => ?_)
          · rw [b2i_0] at h34
            rw [h25, h34, Bool.or_false, if_neg Bool.false_ne_true] at hI
            refine xiconst (v := 1) hk dX4_readSum_85 (by decide) ?_
            refine xzret hk he dX4_readSum_86 ⟨by decide, by decide⟩ (by first | with_reducible exact nar_b _ | rfl) ?_
            rw [← hI]
            exact ⟨rfl, rfl⟩
          · rw [b2i_t] at h34
            rw [h34, Bool.or_true, if_pos rfl] at hI
            refine xaload_n hk dX4_readSum_37 rfl ?_
            refine xgetR (ci := 4) (f := 0) hk dX4_readSum_38 ⟨rfl, by decide, _, rfl, rfl⟩ kX4_18 ?_
            refine xaload_n hk dX4_readSum_41 rfl ?_
            refine xgetI (ci := 4) (f := 4) hk dX4_readSum_42 ⟨rfl, by decide, _, rfl, rfl⟩ kX4_26 ?_
            refine xcallV hk c_X6_kindAt bX6_kindAt kX4_58 dX4_readSum_45 rfl ⟨_, _, _, _, rfl, rfl⟩ rfl (by omega) ⟨by decide, by decide⟩ (Nat.le_of_ble_eq_true rfl) (det ?_)
            refine xistore_n hk dX4_readSum_48 (by decide) ?_
            refine xaload_n hk dX4_readSum_49 rfl ?_
            refine xdup hk dX4_readSum_50 rfl ?_
            refine xgetI (ci := 4) (f := 4) hk dX4_readSum_51 ⟨rfl, by decide, _, rfl, rfl⟩ kX4_26 ?_
            refine xiconst (v := 1) hk dX4_readSum_54 (by decide) ?_
            refine xiadd hk dX4_readSum_55 ?_
            refine xputI (ci := 4) (f := 4) hk dX4_readSum_56 ⟨rfl, by decide, _, rfl, rfl⟩ kX4_26 ⟨rfl, by decide +kernel⟩ ?_
            refine xaload_n hk dX4_readSum_59 rfl ?_
            refine xiload_n hk dX4_readSum_60 rfl ?_
            refine xcallV hk (hR _) bX4_readProduct kX4_142 dX4_readSum_61 rfl ⟨_, _, _, _, rfl, rfl⟩ rfl (by omega) ⟨by decide, by decide⟩ (Nat.le_of_ble_eq_true rfl) (det ?_)
            refine xif_ne hk 69 dX4_readSum_64 (by decide) (fun h64 => ?_) (fun h64 => ?_)
            · rw [b2i_t] at h64
              simp only [adv, h64, if_true] at hI
              refine xaload_n hk dX4_readSum_69 rfl ?_
              refine xgetR (ci := 4) (f := 1) hk dX4_readSum_70 ⟨rfl, by decide, _, rfl, rfl⟩ kX4_22 ?_
              refine xiload_n hk dX4_readSum_73 rfl ?_
              refine xiconst (v := 0) hk dX4_readSum_74 (by decide) ?_
              refine xiconst (v := 0) hk dX4_readSum_75 (by decide) ?_
              refine xcallV hk c_X0_addCode bX0_addCode kX4_126 dX4_readSum_76 rfl ⟨_, _, _, _, rfl, rfl⟩ rfl (by omega) ⟨by decide, by decide⟩ (Nat.le_of_ble_eq_true rfl) (det ?_)
              refine xiinc hk dX4_readSum_79 rfl (by decide) rfl ?_
              refine xgoto hk 12 dX4_readSum_82 (by decide) ?_
              refine xsub [(0, _), (1, _), (2, _)] rfl ?_
              exact ih r (j + 1) _ _ (by omega) (nI_inc j) (by omega) hI
            · rw [b2i_0] at h64
              simp only [adv, h64, if_false, Bool.false_eq_true] at hI
              refine xiconst (v := 0) hk dX4_readSum_67 (by decide) ?_
              refine xzret hk he dX4_readSum_68 ⟨by decide, by decide⟩ (by first | with_reducible exact nar_b _ | rfl) ?_
              rw [← hI]
              exact ⟨rfl, rfl⟩
  refine xaload_n hk dX4_readSum_0 rfl ?_
  refine xiload_n hk dX4_readSum_1 rfl ?_
  refine xcallV hk (hR _) bX4_readProduct kX4_142 dX4_readSum_2 rfl ⟨_, _, _, _, rfl, rfl⟩ rfl (by omega) ⟨by decide, by decide⟩ (Nat.le_of_ble_eq_true rfl) (det ?_)
  refine xif_ne hk 10 dX4_readSum_5 (by decide) (fun h5 => ?_) (fun h5 => ?_)
  · rw [b2i_t] at h5
    refine xiconst (v := 0) hk dX4_readSum_10 (by decide) ?_
    refine xistore_n hk dX4_readSum_11 (by decide) ?_
    exact loop 401 400 0 _ _ (by omega) rfl (by omega) (by simp only [op2U, h5, if_true])
  · rw [b2i_0] at h5
    refine xiconst (v := 0) hk dX4_readSum_8 (by decide) ?_
    refine xzret hk he dX4_readSum_9 ⟨by decide, by decide⟩ (by first | with_reducible exact nar_b _ | rfl) ?_
    exact ⟨by first | (simp only [op2U, h5, if_true, if_false, Bool.false_eq_true, b2iT, b2iF]; done), by first | (simp only [op2U, h5, if_true, if_false, Bool.false_eq_true, b2iT, b2iF]; done)⟩
