theorem bX8_digest : CBv yX8_digest cX8_digest 3 (some .long) 0 := ⟨⟨gw_mem 836 (by decide +kernel) (by decide +kernel), gw_mem 13 (by decide +kernel) (by decide +kernel), by decide +kernel, by decide⟩, gw_mem 834 (by decide +kernel) (by decide +kernel), gw_mem 835 (by decide +kernel) (by decide +kernel)⟩
theorem bX8_isNeedless : CBv yX8_isNeedless cX8_isNeedless 3 (some .boolean) 1 := ⟨⟨gw_mem 500 (by decide +kernel) (by decide +kernel), gw_mem 13 (by decide +kernel) (by decide +kernel), by decide +kernel, by decide⟩, gw_mem 498 (by decide +kernel) (by decide +kernel), gw_mem 499 (by decide +kernel) (by decide +kernel)⟩
theorem kL_255 : Cond.methodLink RL 255 yX8_isNeedless ∈ GW := gw_mem 497 (by decide +kernel) (by decide +kernel)
theorem kL_182 : Cond.methodLink RL 182 yX8_peaces ∈ GW := gw_mem 637 (by decide +kernel) (by decide +kernel)
theorem kL_178 : Cond.methodLink RL 178 yX8_digest ∈ GW := gw_mem 833 (by decide +kernel) (by decide +kernel)
theorem kL_254 : Cond.methodLink RL 254 yX8_standing ∈ GW := gw_mem 382 (by decide +kernel) (by decide +kernel)
/-! The law breaks and renews; days pass -/
theorem lcm_self (v : Int64) : lg_cmp v v = 0 := by
  unfold lg_cmp
  simp
set_option maxHeartbeats 4000000 in
set_option maxRecDepth 100000 in
theorem lw_break {k : Kx} {nm : String} {rk mc ms cells slots : Nat} {ret : Option FieldType} {lay : List Kd} {a : Nat → Nat} {x : XS} {b : Bok} {m dy ca r0 r1 r2 : Nat} {v5 v6 : Int32} {v7 : Int64} (hk : Fok k cL_law 21 RL ret nm rk mc ms) (hrk : 9 < rk) (hI : IsL lay) (hfl : (kg k).1.stackTraces = false) (hCx : Cls b m dy ca x) (hdg : ∀ x, Cls b m dy ca x → ∃ x', f_X8_digest x = some (v7, x') ∧ Cls b m dy ca x') (hmc : cells + 150 ≤ mc ∧ slots + 900 ≤ ms)
    (kk : ∀ x2, Cls b m dy ca x2 → Same48 x x2 → Wx k (cells + 150) (slots + 900) lay a x2 1149 [(0, .ref r0), (1, .ref r1), (2, .ref r2), (3, .ref (a 0)), (4, .int (nI (2 * bF b))), (5, .int v5), (6, .int v6), (7, .long v7), (9, .int (nI (nP b m)))] []) : Wx k cells slots lay a x 1020 [(0, .ref r0), (1, .ref r1), (2, .ref r2), (3, .ref (a 0)), (4, .int (nI (2 * bF b))), (5, .int v5), (6, .int v6), (7, .long v7), (9, .int (nI (nP b m)))] [] := by
  have hW := hCx.bw
  have hF := hW.1
  have hS12 := hW.2.1
  have hm : m < 2 ^ 32 := hCx.m32
  have hnP := nP_le hW m
  obtain ⟨x2, hx2⟩ : ∃ x2, x2 = x := ⟨_, rfl⟩
  have hSS : Same48 x x2 := by rw [hx2]; exact fun _ _ _ => ⟨rfl, rfl⟩
  rw [← hx2] at hCx ⊢
  clear hx2
  have hmS := hCx.2.1
  have loopS : ∀ (z s : Nat) (x2 : XS), bS b - s < z → s ≤ bS b → Cls b m dy ca x2 → Same48 x x2 → Wx k (cells + 12 * s) (slots + 72 * s) lay a x2 1035 [(0, .ref r0), (1, .ref r1), (2, .ref r2), (3, .ref (a 0)), (4, .int (nI (2 * bF b))), (5, .int v5), (6, .int v6), (7, .long v7), (9, .int (nI (nP b m))), (12, .int (nI (nS b m))), (13, .int (fwV b m)), (14, .int (nI s))] [] := by
    intro z
    induction z with
    | zero => intro s x2 h; omega
    | succ z ih =>
      intro s x2 hz hsl hCx hSS
      refine xiload hk dL_law_1035 rfl ?_
      refine xaload_n hk dL_law_1037 rfl ?_
      obtain ⟨y1038, e1038, hCy1038⟩ := q_statements hCx
      refine xaskPL (v := .int (nI (bS b))) hI hk hCy1038 (c_X8_statements e1038) bX8_statements rfl kL_225 dL_law_1038 rfl rfl hrk ⟨by omega, by omega⟩ (Nat.le_of_ble_eq_true rfl) (fun x2 hCx hS => ?_)
      have hSS := hSS.tr hS
      refine xicmp_ge hk 1137 dL_law_1041 (by decide) (fun h1041 => ?_) (fun h1041 => ?_)
      · refine xaload_n hk dL_law_1137 rfl ?_
        obtain ⟨y1138, e1138, hCy1138⟩ := hdg x2 hCx
        refine xaskPL (v := .long v7) hI hk hCy1138 (c_X8_digest e1138) bX8_digest rfl kL_178 dL_law_1138 rfl rfl hrk ⟨by omega, by omega⟩ (Nat.le_of_ble_eq_true rfl) (fun x2 hCx hS => ?_)
        have hSS := hSS.tr hS
        refine xlload hk dL_law_1141 rfl ?_
        refine xlcmp hk dL_law_1143 ?_
        rw [lcm_self]
        refine xif_eq hk 1149 dL_law_1144 (by decide) (fun h1144 => ?_) (fun h1144 => ?_)
        · refine xsub [(0, _), (1, _), (2, _), (3, _), (4, _), (5, _), (6, _), (7, _), (9, _)] rfl ?_
          exact xwiden (by omega) (by omega) (kk x2 hCx hSS)
        · exact absurd rfl h1144
      · have hs : s < bS b := Nat.not_le.mp (fun u => h1041 ((nI_leq (by omega) (by omega)).mpr u))
        have C1131 : ∀ x2, Cls b m dy ca x2 → Same48 x x2 → Wx k (cells + 12 * s + 12) (slots + 72 * s + 72) lay a x2 1131 [(0, .ref r0), (1, .ref r1), (2, .ref r2), (3, .ref (a 0)), (4, .int (nI (2 * bF b))), (5, .int v5), (6, .int v6), (7, .long v7), (9, .int (nI (nP b m))), (12, .int (nI (nS b m))), (13, .int (fwV b m)), (14, .int (nI s))] [] := by
          intro x2 hCx hSS
          refine xiinc (v := nI (s + 1)) hk dL_law_1131 rfl (by decide) (nI_inc s) ?_
          refine xgoto hk 1035 dL_law_1134 (by decide) ?_
          refine xsub [(0, _), (1, _), (2, _), (3, _), (4, _), (5, _), (6, _), (7, _), (9, _), (12, _), (13, _), (14, _)] rfl ?_
          exact xwiden (by omega) (by omega) (ih (s + 1) x2 (by omega) (by omega) hCx hSS)
        refine xaload_n hk dL_law_1044 rfl ?_
        refine xiload hk dL_law_1045 rfl ?_
        refine xaskL hI hk (q_stands hCx hs) (fun u e => c_X8_stands hfl e) bX8_stands rfl kL_236 dL_law_1047 rfl rfl hrk ⟨by omega, by omega⟩ (Nat.le_of_ble_eq_true rfl) (fun x2 hCx hS => ?_)
        have hSS := hSS.tr hS
        refine xif_ne hk 1056 dL_law_1050 (by decide) (fun h1050 => ?_) (fun h1050 => ?_)
        · have hb := b2i_tr.mp h1050
          refine xaload_n hk dL_law_1056 rfl ?_
          refine xiload hk dL_law_1057 rfl ?_
          refine xaskL hI hk (q_isNeedless hCx hs hb) (fun u e => c_X8_isNeedless hfl e) bX8_isNeedless rfl kL_255 dL_law_1059 rfl rfl hrk ⟨by omega, by omega⟩ (Nat.le_of_ble_eq_true rfl) (fun x2 hCx hS => ?_)
          have hSS := hSS.tr hS
          refine xistore hk dL_law_1062 (by decide) ?_
          refine xaload_n hk dL_law_1064 rfl ?_
          refine xiload hk dL_law_1065 rfl ?_
          have hxl := xor_lt hmS hs
          have hnx := nP_le hW (m ^^^ 2 ^ s)
          have hbl := brk_le hW hmS hs hb
          refine xaskL hI hk (q_break hCx hs hb) (fun u e => c_X8_breakStatement hfl e) bX8_breakStatement rfl kL_152 dL_law_1067 rfl rfl hrk ⟨by omega, by omega⟩ (Nat.le_of_ble_eq_true rfl) (fun x2 hCx hS => ?_)
          have hSS := hSS.tr hS
          refine xiload hk dL_law_1070 rfl ?_
          refine xiconst (v := 1) hk dL_law_1072 (by decide) ?_
          refine xisub hk dL_law_1073 ?_
          refine xicmp_ne hk 1129 dL_law_1074 (by decide) (fun h1074 => ?_) (fun h1074 => ?_)
          · exact absurd (by rw [nS_brkI hs hb]) h1074
          · refine xaload_n hk dL_law_1077 rfl ?_
            obtain ⟨y1078, e1078, hCy1078⟩ := q_peaces hCx
            refine xaskPL (v := .int (nI (nP b (m ^^^ 2 ^ s)))) hI hk hCy1078 (c_X8_peaces e1078) bX8_peaces rfl kL_182 dL_law_1078 rfl rfl hrk ⟨by omega, by omega⟩ (Nat.le_of_ble_eq_true rfl) (fun x2 hCx hS => ?_)
            have hSS := hSS.tr hS
            refine xiload hk dL_law_1081 rfl ?_
            refine xicmp_lt hk 1129 dL_law_1083 (by decide) (fun h1083 => ?_) (fun h1083 => ?_)
            · exact absurd ((nI_ltI (by omega) (by omega)).mp h1083) (by omega)
            · refine xaload_n hk dL_law_1086 rfl ?_
              obtain ⟨y1087, e1087, hCy1087⟩ := q_peaces hCx
              refine xaskPL (v := .int (nI (nP b (m ^^^ 2 ^ s)))) hI hk hCy1087 (c_X8_peaces e1087) bX8_peaces rfl kL_182 dL_law_1087 rfl rfl hrk ⟨by omega, by omega⟩ (Nat.le_of_ble_eq_true rfl) (fun x2 hCx hS => ?_)
              have hSS := hSS.tr hS
              refine xiload hk dL_law_1090 rfl ?_
              refine xicmp_ne hk 1099 dL_law_1092 (by decide) (fun h1092 => ?_) (fun h1092 => ?_)
              · have hd : decide (nP b (m ^^^ 2 ^ s) = nP b m) = false := decide_eq_false (fun e => h1092 (by rw [e]))
                refine xiconst (v := 0) hk dL_law_1099 (by decide) ?_
                refine xiload hk dL_law_1100 rfl ?_
                refine xicmp_ne hk 1129 dL_law_1102 (by decide) (fun h1102 => ?_) (fun h1102 => ?_)
                · exact absurd (by rw [hd]; rfl) h1102
                · refine xiload hk dL_law_1105 rfl ?_
                  refine xiconst (v := 1) hk dL_law_1107 (by decide) ?_
                  refine xicmp_le hk 1118 dL_law_1108 (by decide) (fun h1108 => ?_) (fun h1108 => ?_)
                  · refine xaload_n hk dL_law_1118 rfl ?_
                    refine xiload hk dL_law_1119 rfl ?_
                    have hb2 : (m ^^^ 2 ^ s).testBit s = false := by rw [xor2_bit, hb, decide_eq_true rfl]; rfl
                    have hRn := q_renew hCx hs hb2
                    rw [xor2_xor2] at hRn
                    refine xaskL hI hk hRn (fun u e => c_X8_renewStatement hfl e) bX8_renewStatement rfl kL_155 dL_law_1121 rfl rfl hrk ⟨by omega, by omega⟩ (Nat.le_of_ble_eq_true rfl) (fun x2 hCx hS => ?_)
                    have hSS := hSS.tr hS
                    refine xiload hk dL_law_1124 rfl ?_
                    refine xicmp_eq hk 1131 dL_law_1126 (by decide) (fun h1126 => ?_) (fun h1126 => ?_)
                    · refine xsub [(0, _), (1, _), (2, _), (3, _), (4, _), (5, _), (6, _), (7, _), (9, _), (12, _), (13, _), (14, _)] rfl ?_
                      exact xwiden (by omega) (by omega) (C1131 x2 hCx hSS)
                    · exact absurd rfl h1126
                  · refine xaload_n hk dL_law_1111 rfl ?_
                    obtain ⟨y1112, e1112, hCy1112⟩ := q_peaces hCx
                    refine xaskPL (v := .int (nI (nP b (m ^^^ 2 ^ s)))) hI hk hCy1112 (c_X8_peaces e1112) bX8_peaces rfl kL_182 dL_law_1112 rfl rfl hrk ⟨by omega, by omega⟩ (Nat.le_of_ble_eq_true rfl) (fun x2 hCx hS => ?_)
                    have hSS := hSS.tr hS
                    refine xif_gt hk 1129 dL_law_1115 (by decide) (fun h1115 => ?_) (fun h1115 => ?_)
                    · exact absurd h1115 (by rw [fw_one hW hmS hs (Int32.not_le.mp h1108)]; decide)
                    · refine xaload_n hk dL_law_1118 rfl ?_
                      refine xiload hk dL_law_1119 rfl ?_
                      have hb2 : (m ^^^ 2 ^ s).testBit s = false := by rw [xor2_bit, hb, decide_eq_true rfl]; rfl
                      have hRn := q_renew hCx hs hb2
                      rw [xor2_xor2] at hRn
                      refine xaskL hI hk hRn (fun u e => c_X8_renewStatement hfl e) bX8_renewStatement rfl kL_155 dL_law_1121 rfl rfl hrk ⟨by omega, by omega⟩ (Nat.le_of_ble_eq_true rfl) (fun x2 hCx hS => ?_)
                      have hSS := hSS.tr hS
                      refine xiload hk dL_law_1124 rfl ?_
                      refine xicmp_eq hk 1131 dL_law_1126 (by decide) (fun h1126 => ?_) (fun h1126 => ?_)
                      · refine xsub [(0, _), (1, _), (2, _), (3, _), (4, _), (5, _), (6, _), (7, _), (9, _), (12, _), (13, _), (14, _)] rfl ?_
                        exact xwiden (by omega) (by omega) (C1131 x2 hCx hSS)
                      · exact absurd rfl h1126
              · have hd : decide (nP b (m ^^^ 2 ^ s) = nP b m) = true := decide_eq_true ((nI_inj (by omega) (by omega)).mp h1092)
                refine xiconst (v := 1) hk dL_law_1095 (by decide) ?_
                refine xgoto hk 1100 dL_law_1096 (by decide) ?_
                refine xiload hk dL_law_1100 rfl ?_
                refine xicmp_ne hk 1129 dL_law_1102 (by decide) (fun h1102 => ?_) (fun h1102 => ?_)
                · exact absurd (by rw [hd]; rfl) h1102
                · refine xiload hk dL_law_1105 rfl ?_
                  refine xiconst (v := 1) hk dL_law_1107 (by decide) ?_
                  refine xicmp_le hk 1118 dL_law_1108 (by decide) (fun h1108 => ?_) (fun h1108 => ?_)
                  · refine xaload_n hk dL_law_1118 rfl ?_
                    refine xiload hk dL_law_1119 rfl ?_
                    have hb2 : (m ^^^ 2 ^ s).testBit s = false := by rw [xor2_bit, hb, decide_eq_true rfl]; rfl
                    have hRn := q_renew hCx hs hb2
                    rw [xor2_xor2] at hRn
                    refine xaskL hI hk hRn (fun u e => c_X8_renewStatement hfl e) bX8_renewStatement rfl kL_155 dL_law_1121 rfl rfl hrk ⟨by omega, by omega⟩ (Nat.le_of_ble_eq_true rfl) (fun x2 hCx hS => ?_)
                    have hSS := hSS.tr hS
                    refine xiload hk dL_law_1124 rfl ?_
                    refine xicmp_eq hk 1131 dL_law_1126 (by decide) (fun h1126 => ?_) (fun h1126 => ?_)
                    · refine xsub [(0, _), (1, _), (2, _), (3, _), (4, _), (5, _), (6, _), (7, _), (9, _), (12, _), (13, _), (14, _)] rfl ?_
                      exact xwiden (by omega) (by omega) (C1131 x2 hCx hSS)
                    · exact absurd rfl h1126
                  · refine xaload_n hk dL_law_1111 rfl ?_
                    obtain ⟨y1112, e1112, hCy1112⟩ := q_peaces hCx
                    refine xaskPL (v := .int (nI (nP b (m ^^^ 2 ^ s)))) hI hk hCy1112 (c_X8_peaces e1112) bX8_peaces rfl kL_182 dL_law_1112 rfl rfl hrk ⟨by omega, by omega⟩ (Nat.le_of_ble_eq_true rfl) (fun x2 hCx hS => ?_)
                    have hSS := hSS.tr hS
                    refine xif_gt hk 1129 dL_law_1115 (by decide) (fun h1115 => ?_) (fun h1115 => ?_)
                    · exact absurd h1115 (by rw [fw_one hW hmS hs (Int32.not_le.mp h1108)]; decide)
                    · refine xaload_n hk dL_law_1118 rfl ?_
                      refine xiload hk dL_law_1119 rfl ?_
                      have hb2 : (m ^^^ 2 ^ s).testBit s = false := by rw [xor2_bit, hb, decide_eq_true rfl]; rfl
                      have hRn := q_renew hCx hs hb2
                      rw [xor2_xor2] at hRn
                      refine xaskL hI hk hRn (fun u e => c_X8_renewStatement hfl e) bX8_renewStatement rfl kL_155 dL_law_1121 rfl rfl hrk ⟨by omega, by omega⟩ (Nat.le_of_ble_eq_true rfl) (fun x2 hCx hS => ?_)
                      have hSS := hSS.tr hS
                      refine xiload hk dL_law_1124 rfl ?_
                      refine xicmp_eq hk 1131 dL_law_1126 (by decide) (fun h1126 => ?_) (fun h1126 => ?_)
                      · refine xsub [(0, _), (1, _), (2, _), (3, _), (4, _), (5, _), (6, _), (7, _), (9, _), (12, _), (13, _), (14, _)] rfl ?_
                        exact xwiden (by omega) (by omega) (C1131 x2 hCx hSS)
                      · exact absurd rfl h1126
        · refine xgoto hk 1131 dL_law_1053 (by decide) ?_
          refine xsub [(0, _), (1, _), (2, _), (3, _), (4, _), (5, _), (6, _), (7, _), (9, _), (12, _), (13, _), (14, _)] rfl ?_
          exact xwiden (by omega) (by omega) (C1131 x2 hCx hSS)
  refine xaload_n hk dL_law_1020 rfl ?_
  obtain ⟨y1021, e1021, hCy1021⟩ := q_standing hCx
  refine xaskPL (v := .int (nI (nS b m))) hI hk hCy1021 (c_X8_standing e1021) bX8_standing rfl kL_254 dL_law_1021 rfl rfl hrk ⟨by omega, by omega⟩ (Nat.le_of_ble_eq_true rfl) (fun x2 hCx hS => ?_)
  have hSS := hSS.tr hS
  refine xistore hk dL_law_1024 (by decide) ?_
  refine xaload_n hk dL_law_1026 rfl ?_
  obtain ⟨y1027, e1027, hCy1027⟩ := q_fewest hCx
  refine xaskPL (v := .int (fwV b m)) hI hk hCy1027 (c_X8_fewestToBreak e1027) bX8_fewestToBreak rfl kL_245 dL_law_1027 rfl rfl hrk ⟨by omega, by omega⟩ (Nat.le_of_ble_eq_true rfl) (fun x2 hCx hS => ?_)
  have hSS := hSS.tr hS
  refine xistore hk dL_law_1030 (by decide) ?_
  refine xiconst (v := 0) hk dL_law_1032 (by decide) ?_
  refine xistore hk dL_law_1033 (by decide) ?_
  refine xsub [(0, _), (1, _), (2, _), (3, _), (4, _), (5, _), (6, _), (7, _), (9, _), (12, _), (13, _), (14, _)] rfl ?_
  exact xwiden (by omega) (by omega) (loopS (bS b + 1) 0 x2 (by omega) (Nat.zero_le _) hCx hSS)
