theorem bX8_standingAfter : CBv yX8_standingAfter cX8_standingAfter 2 (some .int) 1 := ⟨⟨gw_mem 798 (by decide +kernel) (by decide +kernel), gw_mem 13 (by decide +kernel) (by decide +kernel), by decide +kernel, by decide⟩, gw_mem 796 (by decide +kernel) (by decide +kernel), gw_mem 797 (by decide +kernel) (by decide +kernel)⟩
theorem kL_258 : Cond.methodLink RL 258 yX8_standingAfter ∈ GW := gw_mem 795 (by decide +kernel) (by decide +kernel)
theorem bX8_peacesAfter : CBv yX8_peacesAfter cX8_peacesAfter 2 (some .int) 1 := ⟨⟨gw_mem 806 (by decide +kernel) (by decide +kernel), gw_mem 13 (by decide +kernel) (by decide +kernel), by decide +kernel, by decide⟩, gw_mem 804 (by decide +kernel) (by decide +kernel), gw_mem 805 (by decide +kernel) (by decide +kernel)⟩
theorem kL_261 : Cond.methodLink RL 261 yX8_peacesAfter ∈ GW := gw_mem 803 (by decide +kernel) (by decide +kernel)
theorem kL_264 : Cond.methodLink RL 264 yX8_ordersCarriedOut ∈ GW := gw_mem 378 (by decide +kernel) (by decide +kernel)
theorem kL_267 : Cond.methodLink RL 267 yX8_orders ∈ GW := gw_mem 374 (by decide +kernel) (by decide +kernel)
/-! Days pass in the law -/
def OutA (x x' : XS) (q : Nat) (b : Bok) : Prop := ∀ i, 48 ≤ i → (i < q ∨ q + 3 + bS b + bM b ≤ i) → ∀ j, x'.1 i j = x.1 i j
theorem OutA.tr {x y z : XS} {q : Nat} {b : Bok} (h1 : OutA x y q b) (h2 : OutA y z q b) : OutA x z q b := fun i hi h j => (h2 i hi h j).trans (h1 i hi h j)
theorem OutA.s48 {x y : XS} {q : Nat} {b : Bok} (h : Same48 x y) : OutA x y q b := fun i hi _ j => (h i hi j).1
set_option maxHeartbeats 4000000 in
set_option maxRecDepth 100000 in
theorem lw_days {k : Kx} {nm : String} {rk mc ms cells slots : Nat} {ret : Option FieldType} {lay : List Kd} {a : Nat → Nat} {x : XS} {b : Bok} {m dy ca r0 r1 r2 q : Nat} {v5 v6 : Int32} {v7 : Int64} (hk : Fok k cL_law 21 RL ret nm rk mc ms) (hrk2 : 13 < rk) (hI : IsL lay) (hfl : (kg k).1.stackTraces = false) (hCx : Cls b m dy ca x) (hL : SimL lay q b) (hq48 : 48 ≤ q) (hX : SimX x q b m dy ca) (hC : Cl lay) (hr2 : r2 = a q) (hdy : dy + 40 ≤ 900) (hdg : ∀ x, Cls b m dy ca x → ∃ x', f_X8_digest x = some (v7, x') ∧ Cls b m dy ca x') (hmc : cells + 300 ≤ mc ∧ slots + 3000 ≤ ms)
    (kk : ∀ x2 m' dy' ca', Cls b m' dy' ca' x2 → SimX x2 q b m' dy' ca' → OutA x x2 q b → dy' ≤ dy + 4 → Wx k (cells + 300) (slots + 3000) lay a x2 1311 [(0, .ref r0), (1, .ref r1), (2, .ref r2), (3, .ref (a 0)), (4, .int (nI (2 * bF b))), (5, .int v5), (6, .int v6), (7, .long v7)] []) : Wx k cells slots lay a x 1149 [(0, .ref r0), (1, .ref r1), (2, .ref r2), (3, .ref (a 0)), (4, .int (nI (2 * bF b))), (5, .int v5), (6, .int v6), (7, .long v7), (9, .int (nI (nP b m)))] [] := by
  have hW := hCx.bw
  have hF := hW.1
  have hS12 := hW.2.1
  have hM5 := hW.2.2.2.1
  have hmS := hCx.2.1
  have hnP := nP_le hW m
  have hlt := hL.lt
  have hrk : 9 < rk := by omega
  subst hr2
  have hbl := belowN_lt (v := v6 >>> ((4 : Int32) &&& 31)) (n := 4) (by decide)
  have start : ∀ x2, Cls b m dy ca x2 → SimX x2 q b m dy ca → OutA x x2 q b → Wx k cells slots lay a x2 1149 [(0, .ref r0), (1, .ref r1), (2, .ref (a q)), (3, .ref (a 0)), (4, .int (nI (2 * bF b))), (5, .int v5), (6, .int v6), (7, .long v7), (9, .int (nI (nP b m)))] [] := by
    intro x2 hCx hX hO
    refine xiconst (v := 1) hk dL_law_1149 (by decide) ?_
    refine xiload hk dL_law_1150 rfl ?_
    refine xiconst (v := 4) hk dL_law_1152 (by decide) ?_
    refine xishr hk dL_law_1153 ?_
    refine xiconst (v := 4) hk dL_law_1154 (by decide) ?_
    refine xcallS hk (c_L_below (n := 4) (by decide) (by decide)) bL_below kL_107 dL_law_1155 rfl rfl (by omega) ⟨by omega, by omega⟩ (Nat.le_of_ble_eq_true rfl) (det ?_)
    refine xiadd hk dL_law_1158 ?_
    obtain ⟨dd, hdd⟩ : ∃ dd, dd = 1 + belowN (v6 >>> ((4 : Int32) &&& 31)) 4 := ⟨_, rfl⟩
    rw [show (1 : Int32) + nI (belowN (v6 >>> ((4 : Int32) &&& 31)) 4) = nI dd by rw [hdd, ← nI_addN]; rfl]
    refine xistore hk dL_law_1159 (by decide) ?_
    refine xaload_n hk dL_law_1161 rfl ?_
    refine xiload hk dL_law_1162 rfl ?_
    refine xaskL hI hk (q_standingAfter hCx (n := dd) (by omega) (by omega) (by omega)) (fun u e => c_X8_standingAfter hfl e) bX8_standingAfter rfl kL_258 dL_law_1164 rfl rfl hrk ⟨by omega, by omega⟩ (Nat.le_of_ble_eq_true rfl) (fun x2 hCx hS => ?_)
    have hX := hX.s48 hq48 hS
    have hO := hO.tr (OutA.s48 hS)
    refine xistore hk dL_law_1167 (by decide) ?_
    refine xaload_n hk dL_law_1169 rfl ?_
    refine xiload hk dL_law_1170 rfl ?_
    refine xaskL hI hk (q_peacesAfter hCx (n := dd) (by omega) (by omega) (by omega)) (fun u e => c_X8_peacesAfter hfl e) bX8_peacesAfter rfl kL_261 dL_law_1172 rfl rfl hrk ⟨by omega, by omega⟩ (Nat.le_of_ble_eq_true rfl) (fun x2 hCx hS => ?_)
    have hX := hX.s48 hq48 hS
    have hO := hO.tr (OutA.s48 hS)
    refine xistore hk dL_law_1175 (by decide) ?_
    refine xaload_n hk dL_law_1177 rfl ?_
    obtain ⟨vu, ⟨y1178, e1178, hCy1178⟩, hU⟩ := q_until hCx (by omega)
    refine xaskPL (v := .int vu) hI hk hCy1178 (c_X8_daysUntilPeace e1178) bX8_daysUntilPeace rfl kL_248 dL_law_1178 rfl rfl hrk ⟨by omega, by omega⟩ (Nat.le_of_ble_eq_true rfl) (fun x2 hCx hS => ?_)
    have hX := hX.s48 hq48 hS
    have hO := hO.tr (OutA.s48 hS)
    refine xistore hk dL_law_1181 (by decide) ?_
    refine xaload_n hk dL_law_1183 rfl ?_
    obtain ⟨y1184, e1184, hCy1184⟩ := hdg x2 hCx
    refine xaskPL (v := .long v7) hI hk hCy1184 (c_X8_digest e1184) bX8_digest rfl kL_178 dL_law_1184 rfl rfl hrk ⟨by omega, by omega⟩ (Nat.le_of_ble_eq_true rfl) (fun x2 hCx hS => ?_)
    have hX := hX.s48 hq48 hS
    have hO := hO.tr (OutA.s48 hS)
    refine xlload hk dL_law_1187 rfl ?_
    refine xlcmp hk dL_law_1189 ?_
    rw [lcm_self]
    refine xif_eq hk 1195 dL_law_1190 (by decide) (fun h1190 => ?_) (fun h1190 => ?_)
    · refine xiconst (v := 0) hk dL_law_1195 (by decide) ?_
      refine xistore hk dL_law_1196 (by decide) ?_
      have loop : ∀ (z j : Nat) (x2 : XS), dd - j < z → j ≤ dd → Cls b (daysN b dy j (m, ca)).1 (dy + j) (daysN b dy j (m, ca)).2 x2 → SimX x2 q b (daysN b dy j (m, ca)).1 (dy + j) (daysN b dy j (m, ca)).2 → OutA x x2 q b → Wx k (cells + 6 + 68 * j) (slots + 36 + 668 * j) lay a x2 1198 [(0, .ref r0), (1, .ref r1), (2, .ref (a q)), (3, .ref (a 0)), (4, .int (nI (2 * bF b))), (5, .int v5), (6, .int v6), (7, .long v7), (9, .int (nI (nP b m))), (14, .int (nI dd)), (15, .int (nI (nS b (daysN b dy dd (m, ca)).1))), (16, .int (nI (nP b (daysN b dy dd (m, ca)).1))), (17, .int vu), (18, .int (nI j))] [] := by
        intro z
        induction z with
        | zero => intro j x2 h; omega
        | succ z ih =>
          intro j x2 hz hj hCx hX hO
          have hmj := daysN_lt hW (dy := dy) (s := (m, ca)) hmS j
          have hUj := hU.at (k := j) (by omega)
          have hnj := nP_le hW (daysN b dy j (m, ca)).1
          have hca := dayS_ca (b := b) (dy := dy + j) (daysN b dy j (m, ca)) (bM b)
          have hdn : dayS b (dy + j) (bM b) (daysN b dy j (m, ca)) = daysN b dy (j + 1) (m, ca) := rfl
          rw [hdn] at hca
          refine xiload hk dL_law_1198 rfl ?_
          refine xiload hk dL_law_1200 rfl ?_
          refine xicmp_ge hk 1291 dL_law_1202 (by decide) (fun h1202 => ?_) (fun h1202 => ?_)
          · have hje : dd = j := Nat.le_antisymm ((nI_leq (by omega) (by omega)).mp h1202) hj
            subst hje
            refine xaload_n hk dL_law_1291 rfl ?_
            obtain ⟨y1292, e1292, hCy1292⟩ := q_standing hCx
            refine xaskPL (v := .int (nI (nS b (daysN b dy dd (m, ca)).1))) hI hk hCy1292 (c_X8_standing e1292) bX8_standing rfl kL_254 dL_law_1292 rfl rfl hrk ⟨by omega, by omega⟩ (Nat.le_of_ble_eq_true rfl) (fun x2 hCx hS => ?_)
            have hX := hX.s48 hq48 hS
            have hO := hO.tr (OutA.s48 hS)
            refine xiload hk dL_law_1295 rfl ?_
            refine xicmp_ne hk 1309 dL_law_1297 (by decide) (fun h1297 => ?_) (fun h1297 => ?_)
            · exact absurd rfl h1297
            · refine xaload_n hk dL_law_1300 rfl ?_
              obtain ⟨y1301, e1301, hCy1301⟩ := q_peaces hCx
              refine xaskPL (v := .int (nI (nP b (daysN b dy dd (m, ca)).1))) hI hk hCy1301 (c_X8_peaces e1301) bX8_peaces rfl kL_182 dL_law_1301 rfl rfl hrk ⟨by omega, by omega⟩ (Nat.le_of_ble_eq_true rfl) (fun x2 hCx hS => ?_)
              have hX := hX.s48 hq48 hS
              have hO := hO.tr (OutA.s48 hS)
              refine xiload hk dL_law_1304 rfl ?_
              refine xicmp_eq hk 1311 dL_law_1306 (by decide) (fun h1306 => ?_) (fun h1306 => ?_)
              · refine xsub [(0, _), (1, _), (2, _), (3, _), (4, _), (5, _), (6, _), (7, _)] rfl ?_
                exact xwiden (by omega) (by omega) (kk x2 _ _ _ hCx hX hO (by omega))
              · exact absurd rfl h1306
          · have hjl : j < dd := Nat.not_le.mp (fun u => h1202 ((nI_leq (by omega) (by omega)).mpr u))
            have C1240 : ∀ x2, Cls b (daysN b dy j (m, ca)).1 (dy + j) (daysN b dy j (m, ca)).2 x2 → SimX x2 q b (daysN b dy j (m, ca)).1 (dy + j) (daysN b dy j (m, ca)).2 → OutA x x2 q b → Wx k (cells + 6 + 68 * j) (slots + 36 + 668 * j) lay a x2 1240 [(0, .ref r0), (1, .ref r1), (2, .ref (a q)), (3, .ref (a 0)), (4, .int (nI (2 * bF b))), (5, .int v5), (6, .int v6), (7, .long v7), (9, .int (nI (nP b m))), (14, .int (nI dd)), (15, .int (nI (nS b (daysN b dy dd (m, ca)).1))), (16, .int (nI (nP b (daysN b dy dd (m, ca)).1))), (17, .int vu), (18, .int (nI j))] [] := by
              intro x2 hCx hX hO
              refine xaload_n hk dL_law_1240 rfl ?_
              obtain ⟨y1241, e1241, hCy1241⟩ := q_carried hCx
              refine xaskPL (v := .int (nI (daysN b dy j (m, ca)).2)) hI hk hCy1241 (c_X8_ordersCarriedOut e1241) bX8_ordersCarriedOut rfl kL_264 dL_law_1241 rfl rfl hrk ⟨by omega, by omega⟩ (Nat.le_of_ble_eq_true rfl) (fun x2 hCx hS => ?_)
              have hX := hX.s48 hq48 hS
              have hO := hO.tr (OutA.s48 hS)
              refine xistore hk dL_law_1244 (by decide) ?_
              refine xaload_n hk dL_law_1246 rfl ?_
              refine xiconst (v := 1) hk dL_law_1247 (by decide) ?_
              have hPs : Ans b (daysN b dy (j + 1) (m, ca)).1 (dy + (j + 1)) (daysN b dy (j + 1) (m, ca)).2 (f_X8_passDays (nI 1) x2) (.int (nI ((daysN b dy (j + 1) (m, ca)).2 - (daysN b dy j (m, ca)).2))) := by
                have := q_pass hCx (n := 1) (by decide) (by decide) (by omega)
                rw [show daysN b (dy + j) 1 ((daysN b dy j (m, ca)).1, (daysN b dy j (m, ca)).2) = daysN b dy (j + 1) (m, ca) from rfl, nI_subN hca.1] at this
                exact this
              refine xaskL hI hk hPs (fun u e => c_X8_passDays hfl e) bX8_passDays rfl kL_149 dL_law_1248 rfl rfl hrk ⟨by omega, by omega⟩ (Nat.le_of_ble_eq_true rfl) (fun x2 hCx hS => ?_)
              have hX := hX.s48 hq48 hS
              have hO := hO.tr (OutA.s48 hS)
              refine xistore hk dL_law_1251 (by decide) ?_
              refine xaload_n hk dL_law_1253 rfl ?_
              refine xcallV hk (c_X9_pass hL hW hX hmj hC (by omega)) bX9_pass kL_146 dL_law_1254 rfl ⟨_, _, _, _, hL.1, rfl⟩ rfl (by omega) ⟨by omega, by omega⟩ (Nat.le_of_ble_eq_true rfl) (fun r x3 h3 => ?_)
              obtain ⟨rfl, hX3, hO3⟩ := h3
              have hCx3 : Cls b (daysN b dy (j + 1) (m, ca)).1 (dy + (j + 1)) (daysN b dy (j + 1) (m, ca)).2 x3 := hCx.of (fun i hi jj => ⟨hO3.1 i jj (Or.inl (by omega)), by rw [hO3.2]⟩)
              have hX4 : SimX x3 q b (daysN b dy (j + 1) (m, ca)).1 (dy + (j + 1)) (daysN b dy (j + 1) (m, ca)).2 := hX3
              have hO4 : OutA x x3 q b := hO.tr (fun i _ h jj => hO3.1 i jj h)
              clear hCx hX hO hX3 hO3
              have hCx := hCx3
              have hX := hX4
              have hO := hO4
              generalize x3 = x2 at hCx hX hO ⊢
              refine xiload hk dL_law_1257 rfl ?_
              refine xif_lt hk 1283 dL_law_1259 (by decide) (fun h1259 => ?_) (fun h1259 => ?_)
              · exact absurd h1259 (nI_pos (by omega))
              · refine xiload hk dL_law_1262 rfl ?_
                refine xaload_n hk dL_law_1264 rfl ?_
                obtain ⟨y1265, e1265, hCy1265⟩ := q_orders hCx
                refine xaskPL (v := .int (nI (bM b))) hI hk hCy1265 (c_X8_orders e1265) bX8_orders rfl kL_267 dL_law_1265 rfl rfl hrk ⟨by omega, by omega⟩ (Nat.le_of_ble_eq_true rfl) (fun x2 hCx hS => ?_)
                have hX := hX.s48 hq48 hS
                have hO := hO.tr (OutA.s48 hS)
                refine xicmp_gt hk 1283 dL_law_1268 (by decide) (fun h1268 => ?_) (fun h1268 => ?_)
                · exact absurd ((nI_ltI (by omega) (by omega)).mp h1268) (by omega)
                · refine xaload_n hk dL_law_1271 rfl ?_
                  obtain ⟨y1272, e1272, hCy1272⟩ := q_carried hCx
                  refine xaskPL (v := .int (nI (daysN b dy (j + 1) (m, ca)).2)) hI hk hCy1272 (c_X8_ordersCarriedOut e1272) bX8_ordersCarriedOut rfl kL_264 dL_law_1272 rfl rfl hrk ⟨by omega, by omega⟩ (Nat.le_of_ble_eq_true rfl) (fun x2 hCx hS => ?_)
                  have hX := hX.s48 hq48 hS
                  have hO := hO.tr (OutA.s48 hS)
                  refine xiload hk dL_law_1275 rfl ?_
                  refine xiload hk dL_law_1277 rfl ?_
                  refine xiadd hk dL_law_1279 ?_
                  rw [nI_addN, Nat.add_sub_cancel' hca.1]
                  refine xicmp_eq hk 1285 dL_law_1280 (by decide) (fun h1280 => ?_) (fun h1280 => ?_)
                  · refine xiinc (v := nI (j + 1)) hk dL_law_1285 rfl (by decide) (nI_inc j) ?_
                    refine xgoto hk 1198 dL_law_1288 (by decide) ?_
                    refine xsub [(0, _), (1, _), (2, _), (3, _), (4, _), (5, _), (6, _), (7, _), (9, _), (14, _), (15, _), (16, _), (17, _), (18, _)] rfl ?_
                    exact xwiden (by omega) (by omega) (ih (j + 1) x2 (by omega) (by omega) hCx hX hO)
                  · exact absurd rfl h1280
            have C1224 : ∀ x2, Cls b (daysN b dy j (m, ca)).1 (dy + j) (daysN b dy j (m, ca)).2 x2 → SimX x2 q b (daysN b dy j (m, ca)).1 (dy + j) (daysN b dy j (m, ca)).2 → OutA x x2 q b → Wx k (cells + 6 + 68 * j) (slots + 36 + 668 * j) lay a x2 1224 [(0, .ref r0), (1, .ref r1), (2, .ref (a q)), (3, .ref (a 0)), (4, .int (nI (2 * bF b))), (5, .int v5), (6, .int v6), (7, .long v7), (9, .int (nI (nP b m))), (14, .int (nI dd)), (15, .int (nI (nS b (daysN b dy dd (m, ca)).1))), (16, .int (nI (nP b (daysN b dy dd (m, ca)).1))), (17, .int vu), (18, .int (nI j))] [] := by
              intro x2 hCx hX hO
              refine xiload hk dL_law_1224 rfl ?_
              refine xiload hk dL_law_1226 rfl ?_
              refine xicmp_ne hk 1240 dL_law_1228 (by decide) (fun h1228 => ?_) (fun h1228 => ?_)
              · refine xsub [(0, _), (1, _), (2, _), (3, _), (4, _), (5, _), (6, _), (7, _), (9, _), (14, _), (15, _), (16, _), (17, _), (18, _)] rfl ?_
                exact C1240 x2 hCx hX hO
              · refine xaload_n hk dL_law_1231 rfl ?_
                obtain ⟨y1232, e1232, hCy1232⟩ := q_isPeacePossible hCx
                refine xaskPL (v := .int (b2i (decide (0 < nP b (daysN b dy j (m, ca)).1)))) hI hk hCy1232 (c_X8_isPeacePossible e1232) bX8_isPeacePossible rfl kL_214 dL_law_1232 rfl rfl hrk ⟨by omega, by omega⟩ (Nat.le_of_ble_eq_true rfl) (fun x2 hCx hS => ?_)
                have hX := hX.s48 hq48 hS
                have hO := hO.tr (OutA.s48 hS)
                refine xif_ne hk 1240 dL_law_1235 (by decide) (fun h1235 => ?_) (fun h1235 => ?_)
                · refine xsub [(0, _), (1, _), (2, _), (3, _), (4, _), (5, _), (6, _), (7, _), (9, _), (14, _), (15, _), (16, _), (17, _), (18, _)] rfl ?_
                  exact C1240 x2 hCx hX hO
                · exact absurd (decide_eq_true (hUj.2 h1228)) (by rw [b2i_z.mp h1235]; decide)
            refine xaload_n hk dL_law_1205 rfl ?_
            obtain ⟨y1206, e1206, hCy1206⟩ := q_isPeacePossible hCx
            refine xaskPL (v := .int (b2i (decide (0 < nP b (daysN b dy j (m, ca)).1)))) hI hk hCy1206 (c_X8_isPeacePossible e1206) bX8_isPeacePossible rfl kL_214 dL_law_1206 rfl rfl hrk ⟨by omega, by omega⟩ (Nat.le_of_ble_eq_true rfl) (fun x2 hCx hS => ?_)
            have hX := hX.s48 hq48 hS
            have hO := hO.tr (OutA.s48 hS)
            refine xif_eq hk 1224 dL_law_1209 (by decide) (fun h1209 => ?_) (fun h1209 => ?_)
            · refine xsub [(0, _), (1, _), (2, _), (3, _), (4, _), (5, _), (6, _), (7, _), (9, _), (14, _), (15, _), (16, _), (17, _), (18, _)] rfl ?_
              exact C1224 x2 hCx hX hO
            · have hpj := hUj.1 (of_decide_eq_true (b2i_tr.mp h1209))
              refine xiload hk dL_law_1212 rfl ?_
              refine xif_lt hk 1238 dL_law_1214 (by decide) (fun h1214 => ?_) (fun h1214 => ?_)
              · exact absurd hpj.1 (Int32.not_le.mpr h1214)
              · refine xiload hk dL_law_1217 rfl ?_
                refine xiload hk dL_law_1219 rfl ?_
                refine xicmp_gt hk 1238 dL_law_1221 (by decide) (fun h1221 => ?_) (fun h1221 => ?_)
                · exact absurd hpj.2 (Int32.not_le.mpr h1221)
                · refine xsub [(0, _), (1, _), (2, _), (3, _), (4, _), (5, _), (6, _), (7, _), (9, _), (14, _), (15, _), (16, _), (17, _), (18, _)] rfl ?_
                  exact C1224 x2 hCx hX hO
      refine xsub [(0, _), (1, _), (2, _), (3, _), (4, _), (5, _), (6, _), (7, _), (9, _), (14, _), (15, _), (16, _), (17, _), (18, _)] rfl ?_
      exact xwiden (by omega) (by omega) (loop (dd + 1) 0 x2 (by omega) (Nat.zero_le _) hCx hX hO)
    · exact absurd rfl h1190
  exact start x hCx hX (fun _ _ _ _ => rfl)
