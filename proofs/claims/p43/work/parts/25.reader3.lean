theorem kX4_132 : Cond.methodLink RX4 132 yX4_takeDeeper ∈ GW := gw_mem 1073 (by decide +kernel) (by decide +kernel)
theorem bX4_takeDeeper : CBv yX4_takeDeeper cX4_takeDeeper 3 (some .boolean) 2 := ⟨⟨gw_mem 1076 (by decide +kernel) (by decide +kernel), gw_mem 17 (by decide +kernel) (by decide +kernel), by decide +kernel, by decide⟩, gw_mem 1075 (by decide +kernel) (by decide +kernel), gw_sel 44 (by decide +kernel) (by decide +kernel)⟩
theorem kX4_136 : Cond.methodLink RX4 136 yX4_readSum ∈ GW := gw_mem 1081 (by decide +kernel) (by decide +kernel)
theorem bX4_readSum : CBv yX4_readSum cX4_readSum 4 (some .boolean) 1 := ⟨⟨gw_mem 1084 (by decide +kernel) (by decide +kernel), gw_mem 17 (by decide +kernel) (by decide +kernel), by decide +kernel, by decide⟩, gw_mem 1083 (by decide +kernel) (by decide +kernel), gw_sel 45 (by decide +kernel) (by decide +kernel)⟩
set_option maxHeartbeats 4000000 in
set_option maxRecDepth 100000 in
theorem c_X4_readValueS {g : Gx} {a : Nat → Nat} {x : XS} {d : Int32} {R : XS → Bool × XS} {rk : Nat} (hV : ¬ 8 ≤ d → ∀ y : XS, Mx g yX4_readValue cX4_readValue 3 (some .boolean) rk 0 0 LF a y [.ref (a 34), .int (d + 1)] (pr (some (.int (b2i (R y).1))) (R y).2)) (hS : ¬ 8 ≤ d → ∀ y : XS, Mx g yX4_readSum cX4_readSum 4 (some .boolean) (rk + 2) 0 0 LF a y [.ref (a 34), .int (d + 1)] (pr (some (.int (b2i ((sumU R) y).1))) ((sumU R) y).2)) (hrk : 3 ≤ rk) : Mx g yX4_readValue cX4_readValue 3 (some .boolean) (rk + 3) 0 0 LF a x [.ref (a 34), .int d] (pr (some (.int (b2i (valS d R x).1))) (valS d R x).2) := by
  refine Mx_of (by decide +kernel) (Nat.le_of_ble_eq_true rfl) ?_
  intro k hk he hg
  subst hg

  have dp : ∀ (y : XS) (kd : Int32), (deepU y kd d).1 = true → ¬ 8 ≤ d := by
    intro y kd h hd
    rw [deepU, if_pos hd] at h
    exact Bool.false_ne_true h
  refine xaload_n hk dX4_readValue_0 rfl ?_
  refine xgetR (ci := 4) (f := 0) hk dX4_readValue_1 ⟨rfl, by decide, _, rfl, rfl⟩ kX4_18 ?_
  refine xaload_n hk dX4_readValue_4 rfl ?_
  refine xgetI (ci := 4) (f := 4) hk dX4_readValue_5 ⟨rfl, by decide, _, rfl, rfl⟩ kX4_26 ?_
  refine xcallV hk c_X6_kindAt bX6_kindAt kX4_58 dX4_readValue_8 rfl ⟨_, _, _, _, rfl, rfl⟩ rfl (by omega) ⟨by decide, by decide⟩ (Nat.le_of_ble_eq_true rfl) (det ?_)
  refine xistore_n hk dX4_readValue_11 (by decide) ?_
  generalize hkd : kindAtF x (x.1 34 4) = kd
  refine xiload_n hk dX4_readValue_12 rfl ?_
  by_cases hs13_0 : kd = 40
  · refine xlookup hk 165 dX4_readValue_13 (by decide) (off := 152) (by rw [hs13_0]; decide +kernel) (by decide) ?_
    refine xaload_n hk dX4_readValue_165 rfl ?_
    refine xbipush (v := 40) hk dX4_readValue_166 (by decide) ?_
    refine xiload_n hk dX4_readValue_168 rfl ?_
    refine xcallV hk c_X4_takeDeeper bX4_takeDeeper kX4_132 dX4_readValue_169 rfl ⟨_, _, _, _, rfl, rfl⟩ rfl (by omega) ⟨by decide, by decide⟩ (Nat.le_of_ble_eq_true rfl) (det ?_)
    refine xif_eq hk 198 dX4_readValue_172 (by decide) (fun h172 => ?_) (fun h172 => ?_)
    · rw [b2i_0] at h172
      refine xiconst (v := 0) hk dX4_readValue_198 (by decide) ?_
      refine xzret hk he dX4_readValue_199 ⟨by decide, by decide⟩ (by first | with_reducible exact nar_b _ | rfl) ?_
      exact ⟨by simp [valS, curK, adv, b2i, *], by simp [valS, curK, adv, *]⟩
    · rw [b2i_t] at h172
      refine xaload_n hk dX4_readValue_175 rfl ?_
      refine xiload_n hk dX4_readValue_176 rfl ?_
      refine xiconst (v := 1) hk dX4_readValue_177 (by decide) ?_
      refine xiadd hk dX4_readValue_178 ?_
      refine xcallV hk (hS (dp _ _ h172) _) bX4_readSum kX4_136 dX4_readValue_179 rfl ⟨_, _, _, _, rfl, rfl⟩ rfl (by omega) ⟨by decide, by decide⟩ (Nat.le_of_ble_eq_true rfl) (det ?_)
      refine xif_eq hk 198 dX4_readValue_182 (by decide) (fun h182 => ?_) (fun h182 => ?_)
      · rw [b2i_0] at h182
        refine xiconst (v := 0) hk dX4_readValue_198 (by decide) ?_
        refine xzret hk he dX4_readValue_199 ⟨by decide, by decide⟩ (by first | with_reducible exact nar_b _ | rfl) ?_
        exact ⟨by simp [valS, curK, adv, b2i, *], by simp [valS, curK, adv, *]⟩
      · rw [b2i_t] at h182
        refine xaload_n hk dX4_readValue_185 rfl ?_
        refine xbipush (v := 41) hk dX4_readValue_186 (by decide) ?_
        refine xcallV hk c_X4_take bX4_take kX4_46 dX4_readValue_188 rfl ⟨_, _, _, _, rfl, rfl⟩ rfl (by omega) ⟨by decide, by decide⟩ (Nat.le_of_ble_eq_true rfl) (det ?_)
        refine xif_eq hk 198 dX4_readValue_191 (by decide) (fun h191 => ?_) (fun h191 => ?_)
        · rw [b2i_0] at h191
          refine xiconst (v := 0) hk dX4_readValue_198 (by decide) ?_
          refine xzret hk he dX4_readValue_199 ⟨by decide, by decide⟩ (by first | with_reducible exact nar_b _ | rfl) ?_
          exact ⟨by simp [valS, curK, adv, b2i, *], by simp [valS, curK, adv, *]⟩
        · rw [b2i_t] at h191
          refine xiconst (v := 1) hk dX4_readValue_194 (by decide) ?_
          refine xgoto hk 199 dX4_readValue_195 (by decide) ?_
          refine xzret hk he dX4_readValue_199 ⟨by decide, by decide⟩ (by first | with_reducible exact nar_b _ | rfl) ?_
          exact ⟨by simp [valS, curK, adv, b2i, *], by simp [valS, curK, adv, *]⟩
  by_cases hs13_1 : kd = 45
  · refine xlookup hk 129 dX4_readValue_13 (by decide) (off := 116) (by rw [hs13_1]; decide +kernel) (by decide) ?_
    refine xaload_n hk dX4_readValue_129 rfl ?_
    refine xbipush (v := 45) hk dX4_readValue_130 (by decide) ?_
    refine xiload_n hk dX4_readValue_132 rfl ?_
    refine xcallV hk c_X4_takeDeeper bX4_takeDeeper kX4_132 dX4_readValue_133 rfl ⟨_, _, _, _, rfl, rfl⟩ rfl (by omega) ⟨by decide, by decide⟩ (Nat.le_of_ble_eq_true rfl) (det ?_)
    refine xif_eq hk 149 dX4_readValue_136 (by decide) (fun h136 => ?_) (fun h136 => ?_)
    · rw [b2i_0] at h136
      refine xiconst (v := 0) hk dX4_readValue_149 (by decide) ?_
      refine xzret hk he dX4_readValue_150 ⟨by decide, by decide⟩ (by first | with_reducible exact nar_b _ | rfl) ?_
      exact ⟨by simp [valS, curK, adv, b2i, *], by simp [valS, curK, adv, *]⟩
    · rw [b2i_t] at h136
      refine xaload_n hk dX4_readValue_139 rfl ?_
      refine xiload_n hk dX4_readValue_140 rfl ?_
      refine xiconst (v := 1) hk dX4_readValue_141 (by decide) ?_
      refine xiadd hk dX4_readValue_142 ?_
      refine xcallV hk (hV (dp _ _ h136) _) bX4_readValue kX4_145 dX4_readValue_143 rfl ⟨_, _, _, _, rfl, rfl⟩ rfl (by omega) ⟨by decide, by decide⟩ (Nat.le_of_ble_eq_true rfl) (det ?_)
      refine xif_ne hk 151 dX4_readValue_146 (by decide) (fun h146 => ?_) (fun h146 => ?_)
      · rw [b2i_t] at h146
        refine xaload_n hk dX4_readValue_151 rfl ?_
        refine xgetR (ci := 4) (f := 1) hk dX4_readValue_152 ⟨rfl, by decide, _, rfl, rfl⟩ kX4_22 ?_
        refine xsipush (v := 262) hk dX4_readValue_155 (by decide) ?_
        refine xiconst (v := 0) hk dX4_readValue_158 (by decide) ?_
        refine xiconst (v := 0) hk dX4_readValue_159 (by decide) ?_
        refine xcallV hk c_X0_addCode bX0_addCode kX4_126 dX4_readValue_160 rfl ⟨_, _, _, _, rfl, rfl⟩ rfl (by omega) ⟨by decide, by decide⟩ (Nat.le_of_ble_eq_true rfl) (det ?_)
        refine xiconst (v := 1) hk dX4_readValue_163 (by decide) ?_
        refine xzret hk he dX4_readValue_164 ⟨by decide, by decide⟩ (by first | with_reducible exact nar_b _ | rfl) ?_
        exact ⟨by simp [valS, curK, adv, b2i, *], by simp [valS, curK, adv, *]⟩
      · rw [b2i_0] at h146
        refine xiconst (v := 0) hk dX4_readValue_149 (by decide) ?_
        refine xzret hk he dX4_readValue_150 ⟨by decide, by decide⟩ (by first | with_reducible exact nar_b _ | rfl) ?_
        exact ⟨by simp [valS, curK, adv, b2i, *], by simp [valS, curK, adv, *]⟩
  by_cases hs13_2 : kd = 259
  · refine xlookup hk 96 dX4_readValue_13 (by decide) (off := 83) (by rw [hs13_2]; decide +kernel) (by decide) ?_
    refine xaload_n hk dX4_readValue_96 rfl ?_
    refine xgetR (ci := 4) (f := 1) hk dX4_readValue_97 ⟨rfl, by decide, _, rfl, rfl⟩ kX4_22 ?_
    refine xiload_n hk dX4_readValue_100 rfl ?_
    refine xaload_n hk dX4_readValue_101 rfl ?_
    refine xgetR (ci := 4) (f := 0) hk dX4_readValue_102 ⟨rfl, by decide, _, rfl, rfl⟩ kX4_18 ?_
    refine xaload_n hk dX4_readValue_105 rfl ?_
    refine xgetI (ci := 4) (f := 4) hk dX4_readValue_106 ⟨rfl, by decide, _, rfl, rfl⟩ kX4_26 ?_
    refine xcallV hk c_X6_valueAt bX6_valueAt kX4_71 dX4_readValue_109 rfl ⟨_, _, _, _, rfl, rfl⟩ rfl (by omega) ⟨by decide, by decide⟩ (Nat.le_of_ble_eq_true rfl) (det ?_)
    refine xl2i hk dX4_readValue_112 ?_
    refine xiconst (v := 0) hk dX4_readValue_113 (by decide) ?_
    refine xcallV hk c_X0_addCode bX0_addCode kX4_126 dX4_readValue_114 rfl ⟨_, _, _, _, rfl, rfl⟩ rfl (by omega) ⟨by decide, by decide⟩ (Nat.le_of_ble_eq_true rfl) (det ?_)
    refine xaload_n hk dX4_readValue_117 rfl ?_
    refine xdup hk dX4_readValue_118 rfl ?_
    refine xgetI (ci := 4) (f := 4) hk dX4_readValue_119 ⟨rfl, by decide, _, rfl, rfl⟩ kX4_26 ?_
    refine xiconst (v := 1) hk dX4_readValue_122 (by decide) ?_
    refine xiadd hk dX4_readValue_123 ?_
    refine xputI (ci := 4) (f := 4) hk dX4_readValue_124 ⟨rfl, by decide, _, rfl, rfl⟩ kX4_26 ⟨rfl, by decide +kernel⟩ ?_
    refine xiconst (v := 1) hk dX4_readValue_127 (by decide) ?_
    refine xzret hk he dX4_readValue_128 ⟨by decide, by decide⟩ (by first | with_reducible exact nar_b _ | rfl) ?_
    exact ⟨by simp [valS, curK, adv, b2i, *], by simp [valS, curK, adv, *]⟩
  by_cases hs13_3 : kd = 315
  · refine xlookup hk 96 dX4_readValue_13 (by decide) (off := 83) (by rw [hs13_3]; decide +kernel) (by decide) ?_
    refine xaload_n hk dX4_readValue_96 rfl ?_
    refine xgetR (ci := 4) (f := 1) hk dX4_readValue_97 ⟨rfl, by decide, _, rfl, rfl⟩ kX4_22 ?_
    refine xiload_n hk dX4_readValue_100 rfl ?_
    refine xaload_n hk dX4_readValue_101 rfl ?_
    refine xgetR (ci := 4) (f := 0) hk dX4_readValue_102 ⟨rfl, by decide, _, rfl, rfl⟩ kX4_18 ?_
    refine xaload_n hk dX4_readValue_105 rfl ?_
    refine xgetI (ci := 4) (f := 4) hk dX4_readValue_106 ⟨rfl, by decide, _, rfl, rfl⟩ kX4_26 ?_
    refine xcallV hk c_X6_valueAt bX6_valueAt kX4_71 dX4_readValue_109 rfl ⟨_, _, _, _, rfl, rfl⟩ rfl (by omega) ⟨by decide, by decide⟩ (Nat.le_of_ble_eq_true rfl) (det ?_)
    refine xl2i hk dX4_readValue_112 ?_
    refine xiconst (v := 0) hk dX4_readValue_113 (by decide) ?_
    refine xcallV hk c_X0_addCode bX0_addCode kX4_126 dX4_readValue_114 rfl ⟨_, _, _, _, rfl, rfl⟩ rfl (by omega) ⟨by decide, by decide⟩ (Nat.le_of_ble_eq_true rfl) (det ?_)
    refine xaload_n hk dX4_readValue_117 rfl ?_
    refine xdup hk dX4_readValue_118 rfl ?_
    refine xgetI (ci := 4) (f := 4) hk dX4_readValue_119 ⟨rfl, by decide, _, rfl, rfl⟩ kX4_26 ?_
    refine xiconst (v := 1) hk dX4_readValue_122 (by decide) ?_
    refine xiadd hk dX4_readValue_123 ?_
    refine xputI (ci := 4) (f := 4) hk dX4_readValue_124 ⟨rfl, by decide, _, rfl, rfl⟩ kX4_26 ⟨rfl, by decide +kernel⟩ ?_
    refine xiconst (v := 1) hk dX4_readValue_127 (by decide) ?_
    refine xzret hk he dX4_readValue_128 ⟨by decide, by decide⟩ (by first | with_reducible exact nar_b _ | rfl) ?_
    exact ⟨by simp [valS, curK, adv, b2i, *], by simp [valS, curK, adv, *]⟩
  by_cases hs13_4 : kd = 316
  · refine xlookup hk 96 dX4_readValue_13 (by decide) (off := 83) (by rw [hs13_4]; decide +kernel) (by decide) ?_
    refine xaload_n hk dX4_readValue_96 rfl ?_
    refine xgetR (ci := 4) (f := 1) hk dX4_readValue_97 ⟨rfl, by decide, _, rfl, rfl⟩ kX4_22 ?_
    refine xiload_n hk dX4_readValue_100 rfl ?_
    refine xaload_n hk dX4_readValue_101 rfl ?_
    refine xgetR (ci := 4) (f := 0) hk dX4_readValue_102 ⟨rfl, by decide, _, rfl, rfl⟩ kX4_18 ?_
    refine xaload_n hk dX4_readValue_105 rfl ?_
    refine xgetI (ci := 4) (f := 4) hk dX4_readValue_106 ⟨rfl, by decide, _, rfl, rfl⟩ kX4_26 ?_
    refine xcallV hk c_X6_valueAt bX6_valueAt kX4_71 dX4_readValue_109 rfl ⟨_, _, _, _, rfl, rfl⟩ rfl (by omega) ⟨by decide, by decide⟩ (Nat.le_of_ble_eq_true rfl) (det ?_)
    refine xl2i hk dX4_readValue_112 ?_
    refine xiconst (v := 0) hk dX4_readValue_113 (by decide) ?_
    refine xcallV hk c_X0_addCode bX0_addCode kX4_126 dX4_readValue_114 rfl ⟨_, _, _, _, rfl, rfl⟩ rfl (by omega) ⟨by decide, by decide⟩ (Nat.le_of_ble_eq_true rfl) (det ?_)
    refine xaload_n hk dX4_readValue_117 rfl ?_
    refine xdup hk dX4_readValue_118 rfl ?_
    refine xgetI (ci := 4) (f := 4) hk dX4_readValue_119 ⟨rfl, by decide, _, rfl, rfl⟩ kX4_26 ?_
    refine xiconst (v := 1) hk dX4_readValue_122 (by decide) ?_
    refine xiadd hk dX4_readValue_123 ?_
    refine xputI (ci := 4) (f := 4) hk dX4_readValue_124 ⟨rfl, by decide, _, rfl, rfl⟩ kX4_26 ⟨rfl, by decide +kernel⟩ ?_
    refine xiconst (v := 1) hk dX4_readValue_127 (by decide) ?_
    refine xzret hk he dX4_readValue_128 ⟨by decide, by decide⟩ (by first | with_reducible exact nar_b _ | rfl) ?_
    exact ⟨by simp [valS, curK, adv, b2i, *], by simp [valS, curK, adv, *]⟩
  by_cases hs13_5 : kd = 317
  · refine xlookup hk 96 dX4_readValue_13 (by decide) (off := 83) (by rw [hs13_5]; decide +kernel) (by decide) ?_
    refine xaload_n hk dX4_readValue_96 rfl ?_
    refine xgetR (ci := 4) (f := 1) hk dX4_readValue_97 ⟨rfl, by decide, _, rfl, rfl⟩ kX4_22 ?_
    refine xiload_n hk dX4_readValue_100 rfl ?_
    refine xaload_n hk dX4_readValue_101 rfl ?_
    refine xgetR (ci := 4) (f := 0) hk dX4_readValue_102 ⟨rfl, by decide, _, rfl, rfl⟩ kX4_18 ?_
    refine xaload_n hk dX4_readValue_105 rfl ?_
    refine xgetI (ci := 4) (f := 4) hk dX4_readValue_106 ⟨rfl, by decide, _, rfl, rfl⟩ kX4_26 ?_
    refine xcallV hk c_X6_valueAt bX6_valueAt kX4_71 dX4_readValue_109 rfl ⟨_, _, _, _, rfl, rfl⟩ rfl (by omega) ⟨by decide, by decide⟩ (Nat.le_of_ble_eq_true rfl) (det ?_)
    refine xl2i hk dX4_readValue_112 ?_
    refine xiconst (v := 0) hk dX4_readValue_113 (by decide) ?_
    refine xcallV hk c_X0_addCode bX0_addCode kX4_126 dX4_readValue_114 rfl ⟨_, _, _, _, rfl, rfl⟩ rfl (by omega) ⟨by decide, by decide⟩ (Nat.le_of_ble_eq_true rfl) (det ?_)
    refine xaload_n hk dX4_readValue_117 rfl ?_
    refine xdup hk dX4_readValue_118 rfl ?_
    refine xgetI (ci := 4) (f := 4) hk dX4_readValue_119 ⟨rfl, by decide, _, rfl, rfl⟩ kX4_26 ?_
    refine xiconst (v := 1) hk dX4_readValue_122 (by decide) ?_
    refine xiadd hk dX4_readValue_123 ?_
    refine xputI (ci := 4) (f := 4) hk dX4_readValue_124 ⟨rfl, by decide, _, rfl, rfl⟩ kX4_26 ⟨rfl, by decide +kernel⟩ ?_
    refine xiconst (v := 1) hk dX4_readValue_127 (by decide) ?_
    refine xzret hk he dX4_readValue_128 ⟨by decide, by decide⟩ (by first | with_reducible exact nar_b _ | rfl) ?_
    exact ⟨by simp [valS, curK, adv, b2i, *], by simp [valS, curK, adv, *]⟩
  by_cases hs13_6 : kd = 318
  · refine xlookup hk 96 dX4_readValue_13 (by decide) (off := 83) (by rw [hs13_6]; decide +kernel) (by decide) ?_
    refine xaload_n hk dX4_readValue_96 rfl ?_
    refine xgetR (ci := 4) (f := 1) hk dX4_readValue_97 ⟨rfl, by decide, _, rfl, rfl⟩ kX4_22 ?_
    refine xiload_n hk dX4_readValue_100 rfl ?_
    refine xaload_n hk dX4_readValue_101 rfl ?_
    refine xgetR (ci := 4) (f := 0) hk dX4_readValue_102 ⟨rfl, by decide, _, rfl, rfl⟩ kX4_18 ?_
    refine xaload_n hk dX4_readValue_105 rfl ?_
    refine xgetI (ci := 4) (f := 4) hk dX4_readValue_106 ⟨rfl, by decide, _, rfl, rfl⟩ kX4_26 ?_
    refine xcallV hk c_X6_valueAt bX6_valueAt kX4_71 dX4_readValue_109 rfl ⟨_, _, _, _, rfl, rfl⟩ rfl (by omega) ⟨by decide, by decide⟩ (Nat.le_of_ble_eq_true rfl) (det ?_)
    refine xl2i hk dX4_readValue_112 ?_
    refine xiconst (v := 0) hk dX4_readValue_113 (by decide) ?_
    refine xcallV hk c_X0_addCode bX0_addCode kX4_126 dX4_readValue_114 rfl ⟨_, _, _, _, rfl, rfl⟩ rfl (by omega) ⟨by decide, by decide⟩ (Nat.le_of_ble_eq_true rfl) (det ?_)
    refine xaload_n hk dX4_readValue_117 rfl ?_
    refine xdup hk dX4_readValue_118 rfl ?_
    refine xgetI (ci := 4) (f := 4) hk dX4_readValue_119 ⟨rfl, by decide, _, rfl, rfl⟩ kX4_26 ?_
    refine xiconst (v := 1) hk dX4_readValue_122 (by decide) ?_
    refine xiadd hk dX4_readValue_123 ?_
    refine xputI (ci := 4) (f := 4) hk dX4_readValue_124 ⟨rfl, by decide, _, rfl, rfl⟩ kX4_26 ⟨rfl, by decide +kernel⟩ ?_
    refine xiconst (v := 1) hk dX4_readValue_127 (by decide) ?_
    refine xzret hk he dX4_readValue_128 ⟨by decide, by decide⟩ (by first | with_reducible exact nar_b _ | rfl) ?_
    exact ⟨by simp [valS, curK, adv, b2i, *], by simp [valS, curK, adv, *]⟩
  by_cases hs13_7 : kd = 325
  · refine xlookup hk 200 dX4_readValue_13 (by decide) (off := 187) (by rw [hs13_7]; decide +kernel) (by decide) ?_
    refine xaload_n hk dX4_readValue_200 rfl ?_
    refine xdup hk dX4_readValue_201 rfl ?_
    refine xgetI (ci := 4) (f := 4) hk dX4_readValue_202 ⟨rfl, by decide, _, rfl, rfl⟩ kX4_26 ?_
    refine xiconst (v := 1) hk dX4_readValue_205 (by decide) ?_
    refine xiadd hk dX4_readValue_206 ?_
    refine xputI (ci := 4) (f := 4) hk dX4_readValue_207 ⟨rfl, by decide, _, rfl, rfl⟩ kX4_26 ⟨rfl, by decide +kernel⟩ ?_
    refine xaload_n hk dX4_readValue_210 rfl ?_
    refine xbipush (v := 40) hk dX4_readValue_211 (by decide) ?_
    refine xiload_n hk dX4_readValue_213 rfl ?_
    refine xcallV hk c_X4_takeDeeper bX4_takeDeeper kX4_132 dX4_readValue_214 rfl ⟨_, _, _, _, rfl, rfl⟩ rfl (by omega) ⟨by decide, by decide⟩ (Nat.le_of_ble_eq_true rfl) (det ?_)
    refine xif_eq hk 258 dX4_readValue_217 (by decide) (fun h217 => ?_) (fun h217 => ?_)
    · rw [b2i_0] at h217
      refine xiconst (v := 0) hk dX4_readValue_258 (by decide) ?_
      refine xzret hk he dX4_readValue_259 ⟨by decide, by decide⟩ (by first | with_reducible exact nar_b _ | rfl) ?_
      exact ⟨by simp [valS, curK, adv, b2i, *], by simp [valS, curK, adv, *]⟩
    · rw [b2i_t] at h217
      refine xaload_n hk dX4_readValue_220 rfl ?_
      refine xiload_n hk dX4_readValue_221 rfl ?_
      refine xiconst (v := 1) hk dX4_readValue_222 (by decide) ?_
      refine xiadd hk dX4_readValue_223 ?_
      refine xcallV hk (hS (dp _ _ h217) _) bX4_readSum kX4_136 dX4_readValue_224 rfl ⟨_, _, _, _, rfl, rfl⟩ rfl (by omega) ⟨by decide, by decide⟩ (Nat.le_of_ble_eq_true rfl) (det ?_)
      refine xif_eq hk 258 dX4_readValue_227 (by decide) (fun h227 => ?_) (fun h227 => ?_)
      · rw [b2i_0] at h227
        refine xiconst (v := 0) hk dX4_readValue_258 (by decide) ?_
        refine xzret hk he dX4_readValue_259 ⟨by decide, by decide⟩ (by first | with_reducible exact nar_b _ | rfl) ?_
        exact ⟨by simp [valS, curK, adv, b2i, *], by simp [valS, curK, adv, *]⟩
      · rw [b2i_t] at h227
        refine xaload_n hk dX4_readValue_230 rfl ?_
        refine xbipush (v := 44) hk dX4_readValue_231 (by decide) ?_
        refine xcallV hk c_X4_take bX4_take kX4_46 dX4_readValue_233 rfl ⟨_, _, _, _, rfl, rfl⟩ rfl (by omega) ⟨by decide, by decide⟩ (Nat.le_of_ble_eq_true rfl) (det ?_)
        refine xif_eq hk 258 dX4_readValue_236 (by decide) (fun h236 => ?_) (fun h236 => ?_)
        · rw [b2i_0] at h236
          refine xiconst (v := 0) hk dX4_readValue_258 (by decide) ?_
          refine xzret hk he dX4_readValue_259 ⟨by decide, by decide⟩ (by first | with_reducible exact nar_b _ | rfl) ?_
          exact ⟨by simp [valS, curK, adv, b2i, *], by simp [valS, curK, adv, *]⟩
        · rw [b2i_t] at h236
          refine xaload_n hk dX4_readValue_239 rfl ?_
          refine xiload_n hk dX4_readValue_240 rfl ?_
          refine xiconst (v := 1) hk dX4_readValue_241 (by decide) ?_
          refine xiadd hk dX4_readValue_242 ?_
          refine xcallV hk (hS (dp _ _ h217) _) bX4_readSum kX4_136 dX4_readValue_243 rfl ⟨_, _, _, _, rfl, rfl⟩ rfl (by omega) ⟨by decide, by decide⟩ (Nat.le_of_ble_eq_true rfl) (det ?_)
          refine xif_eq hk 258 dX4_readValue_246 (by decide) (fun h246 => ?_) (fun h246 => ?_)
          · rw [b2i_0] at h246
            refine xiconst (v := 0) hk dX4_readValue_258 (by decide) ?_
            refine xzret hk he dX4_readValue_259 ⟨by decide, by decide⟩ (by first | with_reducible exact nar_b _ | rfl) ?_
            exact ⟨by simp [valS, curK, adv, b2i, *], by simp [valS, curK, adv, *]⟩
          · rw [b2i_t] at h246
            refine xaload_n hk dX4_readValue_249 rfl ?_
            refine xbipush (v := 41) hk dX4_readValue_250 (by decide) ?_
            refine xcallV hk c_X4_take bX4_take kX4_46 dX4_readValue_252 rfl ⟨_, _, _, _, rfl, rfl⟩ rfl (by omega) ⟨by decide, by decide⟩ (Nat.le_of_ble_eq_true rfl) (det ?_)
            refine xif_ne hk 260 dX4_readValue_255 (by decide) (fun h255 => ?_) (fun h255 => ?_)
            · rw [b2i_t] at h255
              refine xaload_n hk dX4_readValue_260 rfl ?_
              refine xgetR (ci := 4) (f := 1) hk dX4_readValue_261 ⟨rfl, by decide, _, rfl, rfl⟩ kX4_22 ?_
              refine xiload_n hk dX4_readValue_264 rfl ?_
              refine xiconst (v := 0) hk dX4_readValue_265 (by decide) ?_
              refine xiconst (v := 0) hk dX4_readValue_266 (by decide) ?_
              refine xcallV hk c_X0_addCode bX0_addCode kX4_126 dX4_readValue_267 rfl ⟨_, _, _, _, rfl, rfl⟩ rfl (by omega) ⟨by decide, by decide⟩ (Nat.le_of_ble_eq_true rfl) (det ?_)
              refine xiconst (v := 1) hk dX4_readValue_270 (by decide) ?_
              refine xzret hk he dX4_readValue_271 ⟨by decide, by decide⟩ (by first | with_reducible exact nar_b _ | rfl) ?_
              exact ⟨by simp [valS, curK, adv, b2i, *], by simp [valS, curK, adv, *]⟩
            · rw [b2i_0] at h255
              refine xiconst (v := 0) hk dX4_readValue_258 (by decide) ?_
              refine xzret hk he dX4_readValue_259 ⟨by decide, by decide⟩ (by first | with_reducible exact nar_b _ | rfl) ?_
              exact ⟨by simp [valS, curK, adv, b2i, *], by simp [valS, curK, adv, *]⟩
  by_cases hs13_8 : kd = 326
  · refine xlookup hk 200 dX4_readValue_13 (by decide) (off := 187) (by rw [hs13_8]; decide +kernel) (by decide) ?_
    refine xaload_n hk dX4_readValue_200 rfl ?_
    refine xdup hk dX4_readValue_201 rfl ?_
    refine xgetI (ci := 4) (f := 4) hk dX4_readValue_202 ⟨rfl, by decide, _, rfl, rfl⟩ kX4_26 ?_
    refine xiconst (v := 1) hk dX4_readValue_205 (by decide) ?_
    refine xiadd hk dX4_readValue_206 ?_
    refine xputI (ci := 4) (f := 4) hk dX4_readValue_207 ⟨rfl, by decide, _, rfl, rfl⟩ kX4_26 ⟨rfl, by decide +kernel⟩ ?_
    refine xaload_n hk dX4_readValue_210 rfl ?_
    refine xbipush (v := 40) hk dX4_readValue_211 (by decide) ?_
    refine xiload_n hk dX4_readValue_213 rfl ?_
    refine xcallV hk c_X4_takeDeeper bX4_takeDeeper kX4_132 dX4_readValue_214 rfl ⟨_, _, _, _, rfl, rfl⟩ rfl (by omega) ⟨by decide, by decide⟩ (Nat.le_of_ble_eq_true rfl) (det ?_)
    refine xif_eq hk 258 dX4_readValue_217 (by decide) (fun h217 => ?_) (fun h217 => ?_)
    · rw [b2i_0] at h217
      refine xiconst (v := 0) hk dX4_readValue_258 (by decide) ?_
      refine xzret hk he dX4_readValue_259 ⟨by decide, by decide⟩ (by first | with_reducible exact nar_b _ | rfl) ?_
      exact ⟨by simp [valS, curK, adv, b2i, *], by simp [valS, curK, adv, *]⟩
    · rw [b2i_t] at h217
      refine xaload_n hk dX4_readValue_220 rfl ?_
      refine xiload_n hk dX4_readValue_221 rfl ?_
      refine xiconst (v := 1) hk dX4_readValue_222 (by decide) ?_
      refine xiadd hk dX4_readValue_223 ?_
      refine xcallV hk (hS (dp _ _ h217) _) bX4_readSum kX4_136 dX4_readValue_224 rfl ⟨_, _, _, _, rfl, rfl⟩ rfl (by omega) ⟨by decide, by decide⟩ (Nat.le_of_ble_eq_true rfl) (det ?_)
      refine xif_eq hk 258 dX4_readValue_227 (by decide) (fun h227 => ?_) (fun h227 => ?_)
      · rw [b2i_0] at h227
        refine xiconst (v := 0) hk dX4_readValue_258 (by decide) ?_
        refine xzret hk he dX4_readValue_259 ⟨by decide, by decide⟩ (by first | with_reducible exact nar_b _ | rfl) ?_
        exact ⟨by simp [valS, curK, adv, b2i, *], by simp [valS, curK, adv, *]⟩
      · rw [b2i_t] at h227
        refine xaload_n hk dX4_readValue_230 rfl ?_
        refine xbipush (v := 44) hk dX4_readValue_231 (by decide) ?_
        refine xcallV hk c_X4_take bX4_take kX4_46 dX4_readValue_233 rfl ⟨_, _, _, _, rfl, rfl⟩ rfl (by omega) ⟨by decide, by decide⟩ (Nat.le_of_ble_eq_true rfl) (det ?_)
        refine xif_eq hk 258 dX4_readValue_236 (by decide) (fun h236 => ?_) (fun h236 => ?_)
        · rw [b2i_0] at h236
          refine xiconst (v := 0) hk dX4_readValue_258 (by decide) ?_
          refine xzret hk he dX4_readValue_259 ⟨by decide, by decide⟩ (by first | with_reducible exact nar_b _ | rfl) ?_
          exact ⟨by simp [valS, curK, adv, b2i, *], by simp [valS, curK, adv, *]⟩
        · rw [b2i_t] at h236
          refine xaload_n hk dX4_readValue_239 rfl ?_
          refine xiload_n hk dX4_readValue_240 rfl ?_
          refine xiconst (v := 1) hk dX4_readValue_241 (by decide) ?_
          refine xiadd hk dX4_readValue_242 ?_
          refine xcallV hk (hS (dp _ _ h217) _) bX4_readSum kX4_136 dX4_readValue_243 rfl ⟨_, _, _, _, rfl, rfl⟩ rfl (by omega) ⟨by decide, by decide⟩ (Nat.le_of_ble_eq_true rfl) (det ?_)
          refine xif_eq hk 258 dX4_readValue_246 (by decide) (fun h246 => ?_) (fun h246 => ?_)
          · rw [b2i_0] at h246
            refine xiconst (v := 0) hk dX4_readValue_258 (by decide) ?_
            refine xzret hk he dX4_readValue_259 ⟨by decide, by decide⟩ (by first | with_reducible exact nar_b _ | rfl) ?_
            exact ⟨by simp [valS, curK, adv, b2i, *], by simp [valS, curK, adv, *]⟩
          · rw [b2i_t] at h246
            refine xaload_n hk dX4_readValue_249 rfl ?_
            refine xbipush (v := 41) hk dX4_readValue_250 (by decide) ?_
            refine xcallV hk c_X4_take bX4_take kX4_46 dX4_readValue_252 rfl ⟨_, _, _, _, rfl, rfl⟩ rfl (by omega) ⟨by decide, by decide⟩ (Nat.le_of_ble_eq_true rfl) (det ?_)
            refine xif_ne hk 260 dX4_readValue_255 (by decide) (fun h255 => ?_) (fun h255 => ?_)
            · rw [b2i_t] at h255
              refine xaload_n hk dX4_readValue_260 rfl ?_
              refine xgetR (ci := 4) (f := 1) hk dX4_readValue_261 ⟨rfl, by decide, _, rfl, rfl⟩ kX4_22 ?_
              refine xiload_n hk dX4_readValue_264 rfl ?_
              refine xiconst (v := 0) hk dX4_readValue_265 (by decide) ?_
              refine xiconst (v := 0) hk dX4_readValue_266 (by decide) ?_
              refine xcallV hk c_X0_addCode bX0_addCode kX4_126 dX4_readValue_267 rfl ⟨_, _, _, _, rfl, rfl⟩ rfl (by omega) ⟨by decide, by decide⟩ (Nat.le_of_ble_eq_true rfl) (det ?_)
              refine xiconst (v := 1) hk dX4_readValue_270 (by decide) ?_
              refine xzret hk he dX4_readValue_271 ⟨by decide, by decide⟩ (by first | with_reducible exact nar_b _ | rfl) ?_
              exact ⟨by simp [valS, curK, adv, b2i, *], by simp [valS, curK, adv, *]⟩
            · rw [b2i_0] at h255
              refine xiconst (v := 0) hk dX4_readValue_258 (by decide) ?_
              refine xzret hk he dX4_readValue_259 ⟨by decide, by decide⟩ (by first | with_reducible exact nar_b _ | rfl) ?_
              exact ⟨by simp [valS, curK, adv, b2i, *], by simp [valS, curK, adv, *]⟩
  refine xlookup hk 272 dX4_readValue_13 (by decide) (off := 259) (by show Op.lookupswitch.offset [(40, 152), (45, 116), (259, 83), (315, 83), (316, 83), (317, 83), (318, 83), (325, 187), (326, 187)] 259 (Int32.toInt kd) = 259; rw [lv_osw (a := 40) hs13_0 (by decide), lv_osw (a := 45) hs13_1 (by decide), lv_osw (a := 259) hs13_2 (by decide), lv_osw (a := 315) hs13_3 (by decide), lv_osw (a := 316) hs13_4 (by decide), lv_osw (a := 317) hs13_5 (by decide), lv_osw (a := 318) hs13_6 (by decide), lv_osw (a := 325) hs13_7 (by decide), lv_osw (a := 326) hs13_8 (by decide)]; rfl) (by decide) ?_
  refine xiconst (v := 0) hk dX4_readValue_272 (by decide) ?_
  refine xzret hk he dX4_readValue_273 ⟨by decide, by decide⟩ (by first | with_reducible exact nar_b _ | rfl) ?_
  exact ⟨by simp [valS, curK, adv, b2i, *], by simp [valS, curK, adv, *]⟩
