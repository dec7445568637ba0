theorem kL_211 : Cond.methodLink RL 211 yX8_parts ∈ GW := gw_mem 612 (by decide +kernel) (by decide +kernel)
theorem kL_214 : Cond.methodLink RL 214 yX8_isPeacePossible ∈ GW := gw_mem 633 (by decide +kernel) (by decide +kernel)
theorem kL_172 : Cond.methodLink RL 172 yX8_families ∈ GW := gw_mem 366 (by decide +kernel) (by decide +kernel)
theorem kL_218 : Cond.methodLink RL 218 yX8_meanRiders ∈ GW := gw_mem 829 (by decide +kernel) (by decide +kernel)
theorem kL_251 : Cond.methodLink RL 251 yX8_blamedFamily ∈ GW := gw_mem 685 (by decide +kernel) (by decide +kernel)
theorem bX8_fewestToBreak : CBv yX8_fewestToBreak cX8_fewestToBreak 1 (some .int) 0 := ⟨⟨gw_mem 814 (by decide +kernel) (by decide +kernel), gw_mem 13 (by decide +kernel) (by decide +kernel), by decide +kernel, by decide⟩, gw_mem 812 (by decide +kernel) (by decide +kernel), gw_mem 813 (by decide +kernel) (by decide +kernel)⟩
theorem kL_245 : Cond.methodLink RL 245 yX8_fewestToBreak ∈ GW := gw_mem 811 (by decide +kernel) (by decide +kernel)
theorem kL_225 : Cond.methodLink RL 225 yX8_statements ∈ GW := gw_mem 370 (by decide +kernel) (by decide +kernel)
theorem kL_222 : Cond.methodLink RL 222 yX8_ridesInPeace ∈ GW := gw_mem 667 (by decide +kernel) (by decide +kernel)
theorem kL_227 : Cond.methodLink RL 227 yX8_firstClaimOf ∈ GW := gw_mem 474 (by decide +kernel) (by decide +kernel)
theorem kL_230 : Cond.methodLink RL 230 yX8_secondClaimOf ∈ GW := gw_mem 482 (by decide +kernel) (by decide +kernel)
theorem kL_233 : Cond.methodLink RL 233 yX8_kindOf ∈ GW := gw_mem 392 (by decide +kernel) (by decide +kernel)
theorem kL_236 : Cond.methodLink RL 236 yX8_stands ∈ GW := gw_mem 490 (by decide +kernel) (by decide +kernel)
theorem bX8_mostTellingOath : CBv yX8_mostTellingOath cX8_mostTellingOath 5 (some .int) 0 := ⟨⟨gw_mem 827 (by decide +kernel) (by decide +kernel), gw_mem 13 (by decide +kernel) (by decide +kernel), by decide +kernel, by decide⟩, gw_mem 825 (by decide +kernel) (by decide +kernel), gw_mem 826 (by decide +kernel) (by decide +kernel)⟩
theorem kL_239 : Cond.methodLink RL 239 yX8_mostTellingOath ∈ GW := gw_mem 824 (by decide +kernel) (by decide +kernel)
theorem kL_242 : Cond.methodLink RL 242 yX8_ridersInPeace ∈ GW := gw_mem 681 (by decide +kernel) (by decide +kernel)
theorem bX8_daysUntilPeace : CBv yX8_daysUntilPeace cX8_daysUntilPeace 2 (some .int) 0 := ⟨⟨gw_mem 810 (by decide +kernel) (by decide +kernel), gw_mem 13 (by decide +kernel) (by decide +kernel), by decide +kernel, by decide⟩, gw_mem 808 (by decide +kernel) (by decide +kernel), gw_mem 809 (by decide +kernel) (by decide +kernel)⟩
theorem kL_248 : Cond.methodLink RL 248 yX8_daysUntilPeace ∈ GW := gw_mem 807 (by decide +kernel) (by decide +kernel)
/-! The law's other looks -/
theorem b2i_z {u : Bool} : b2i u = 0 ↔ u = false := by cases u <;> decide
theorem b2i_tr {u : Bool} : ¬ b2i u = 0 ↔ u = true := by cases u <;> decide
theorem holds_of {p c : Nat} : holdsP p c = (p.testBit (c / 2) == decide (c % 2 = 0)) := rfl
theorem shl_lt : ∀ F, F ≤ 5 → 2 ^ F ≤ 32 := by decide
set_option maxHeartbeats 4000000 in
set_option maxRecDepth 100000 in
theorem lw_mean {k : Kx} {nm : String} {rk mc ms cells slots : Nat} {ret : Option FieldType} {lay : List Kd} {a : Nat → Nat} {x : XS} {b : Bok} {m dy ca r0 r1 r2 : Nat} {v5 v6 : Int32} {v7 : Int64} (hk : Fok k cL_law 21 RL ret nm rk mc ms) (hrk : 9 < rk) (hI : IsL lay) (hfl : (kg k).1.stackTraces = false) (hCx : Cls b m dy ca x)  (hmc : cells + 0 ≤ mc ∧ slots + 0 ≤ ms)
    (kk : ∀ x2, Cls b m dy ca x2 → Same48 x x2 → Wx k (cells + 0) (slots + 0) lay a x2 589 [(0, .ref r0), (1, .ref r1), (2, .ref r2), (3, .ref (a 0)), (4, .int (nI (2 * bF b))), (5, .int v5), (6, .int v6), (7, .long v7), (9, .int (nI (nP b m)))] []) : Wx k cells slots lay a x 526 [(0, .ref r0), (1, .ref r1), (2, .ref r2), (3, .ref (a 0)), (4, .int (nI (2 * bF b))), (5, .int v5), (6, .int v6), (7, .long v7), (9, .int (nI (nP b m))), (10, .int (nI (pN (bF b) (RB b m)))), (11, .int (nI (fb_sm (fun f => nW b m (2 * f)) (bF b))))] [] := by
  have hW := hCx.bw
  have hF := hW.1
  have hS12 := hW.2.1
  have hm : m < 2 ^ 32 := hCx.m32
  have hnP := nP_le hW m
  obtain ⟨x2, hx2⟩ : ∃ x2, x2 = x := ⟨_, rfl⟩
  have hSS : Same48 x x2 := by rw [hx2]; exact fun _ _ _ => ⟨rfl, rfl⟩
  rw [← hx2] at hCx ⊢
  clear hx2
  refine xiload hk dL_law_526 rfl ?_
  refine xaload_n hk dL_law_528 rfl ?_
  obtain ⟨y529, e529, hCy529⟩ := q_parts hCx
  refine xaskPL (v := .int (nI (pN (bF b) (RB b m)))) hI hk hCy529 (c_X8_parts e529) bX8_parts rfl kL_211 dL_law_529 rfl rfl hrk ⟨by omega, by omega⟩ (Nat.le_of_ble_eq_true rfl) (fun x2 hCx hS => ?_)
  have hSS := hSS.tr hS
  refine xicmp_ne hk 587 dL_law_532 (by decide) (fun h532 => ?_) (fun h532 => ?_)
  · exact absurd rfl h532
  · refine xaload_n hk dL_law_535 rfl ?_
    obtain ⟨y536, e536, hCy536⟩ := q_isPeacePossible hCx
    refine xaskPL (v := .int (b2i (decide (0 < nP b m)))) hI hk hCy536 (c_X8_isPeacePossible e536) bX8_isPeacePossible rfl kL_214 dL_law_536 rfl rfl hrk ⟨by omega, by omega⟩ (Nat.le_of_ble_eq_true rfl) (fun x2 hCx hS => ?_)
    have hSS := hSS.tr hS
    refine xiload hk dL_law_539 rfl ?_
    refine xif_le hk 548 dL_law_541 (by decide) (fun h541 => ?_) (fun h541 => ?_)
    · have hp0 : nP b m = 0 := (nz_le (by omega)).mp h541
      refine xiconst (v := 0) hk dL_law_548 (by decide) ?_
      refine xicmp_ne hk 587 dL_law_549 (by decide) (fun h549 => ?_) (fun h549 => ?_)
      · exact absurd (by rw [hp0]; rfl) h549
      · refine xaload_n hk dL_law_552 rfl ?_
        obtain ⟨y553, e553, hCy553⟩ := q_mean hCx
        refine xaskPL (v := .double (mnV b m)) hI hk hCy553 (c_X8_meanRiders e553) bX8_meanRiders rfl kL_218 dL_law_553 rfl rfl hrk ⟨by omega, by omega⟩ (Nat.le_of_ble_eq_true rfl) (fun x2 hCx hS => ?_)
        have hSS := hSS.tr hS
        refine xiload hk dL_law_556 rfl ?_
        refine xif_ne hk 565 dL_law_558 (by decide) (fun h558 => ?_) (fun h558 => ?_)
        · refine xiload hk dL_law_565 rfl ?_
          refine xi2d hk dL_law_567 ?_
          refine xiload hk dL_law_568 rfl ?_
          refine xi2d hk dL_law_570 ?_
          refine xddiv hk dL_law_571 (mean_n h558) ?_
          exact absurd (by rw [hp0]; rfl) h558
        · refine xdconst0 hk dL_law_561 ?_
          refine xgoto hk 572 dL_law_562 (by decide) ?_
          refine xdcmp hk dL_law_572 ?_
          rw [show mnV b m = 0 from if_pos hp0, cmp00]
          refine xif_ne hk 587 dL_law_573 (by decide) (fun h573 => ?_) (fun h573 => ?_)
          · exact absurd rfl h573
          · refine xiload hk dL_law_576 rfl ?_
            refine xiconst (v := 1) hk dL_law_578 (by decide) ?_
            refine xaload_n hk dL_law_579 rfl ?_
            obtain ⟨y580, e580, hCy580⟩ := q_families hCx
            refine xaskPL (v := .int (nI (bF b))) hI hk hCy580 (c_X8_families e580) bX8_families rfl kL_172 dL_law_580 rfl rfl hrk ⟨by omega, by omega⟩ (Nat.le_of_ble_eq_true rfl) (fun x2 hCx hS => ?_)
            have hSS := hSS.tr hS
            refine xishl hk dL_law_583 ?_
            rw [shl_pow (bF b) (by omega)]
            refine xicmp_le hk 589 dL_law_584 (by decide) (fun h584 => ?_) (fun h584 => ?_)
            · refine xsub [(0, _), (1, _), (2, _), (3, _), (4, _), (5, _), (6, _), (7, _), (9, _)] rfl ?_
              exact xwiden (by omega) (by omega) (kk x2 hCx hSS)
            · exact absurd ((nI_leq (by omega) (by have := shl_lt (bF b) (by omega); omega)).mpr (nP_pow b m)) h584
    · have hp1 : 0 < nP b m := by
        have : ¬ nP b m = 0 := fun e => h541 (by rw [e]; decide)
        omega
      refine xiconst (v := 1) hk dL_law_544 (by decide) ?_
      refine xgoto hk 549 dL_law_545 (by decide) ?_
      refine xicmp_ne hk 587 dL_law_549 (by decide) (fun h549 => ?_) (fun h549 => ?_)
      · exact absurd (by rw [decide_eq_true hp1]; rfl) h549
      · refine xaload_n hk dL_law_552 rfl ?_
        obtain ⟨y553, e553, hCy553⟩ := q_mean hCx
        refine xaskPL (v := .double (mnV b m)) hI hk hCy553 (c_X8_meanRiders e553) bX8_meanRiders rfl kL_218 dL_law_553 rfl rfl hrk ⟨by omega, by omega⟩ (Nat.le_of_ble_eq_true rfl) (fun x2 hCx hS => ?_)
        have hSS := hSS.tr hS
        refine xiload hk dL_law_556 rfl ?_
        refine xif_ne hk 565 dL_law_558 (by decide) (fun h558 => ?_) (fun h558 => ?_)
        · refine xiload hk dL_law_565 rfl ?_
          refine xi2d hk dL_law_567 ?_
          refine xiload hk dL_law_568 rfl ?_
          refine xi2d hk dL_law_570 ?_
          refine xddiv hk dL_law_571 (mean_n h558) ?_
          refine xdcmp hk dL_law_572 ?_
          rw [show mnV b m = FP.ddiv (FP.i2d (nI (fb_sm (fun f => nW b m (2 * f)) (bF b)))) (FP.i2d (nI (nP b m))) from if_neg (by omega), mean_cmp h558]
          refine xif_ne hk 587 dL_law_573 (by decide) (fun h573 => ?_) (fun h573 => ?_)
          · exact absurd rfl h573
          · refine xiload hk dL_law_576 rfl ?_
            refine xiconst (v := 1) hk dL_law_578 (by decide) ?_
            refine xaload_n hk dL_law_579 rfl ?_
            obtain ⟨y580, e580, hCy580⟩ := q_families hCx
            refine xaskPL (v := .int (nI (bF b))) hI hk hCy580 (c_X8_families e580) bX8_families rfl kL_172 dL_law_580 rfl rfl hrk ⟨by omega, by omega⟩ (Nat.le_of_ble_eq_true rfl) (fun x2 hCx hS => ?_)
            have hSS := hSS.tr hS
            refine xishl hk dL_law_583 ?_
            rw [shl_pow (bF b) (by omega)]
            refine xicmp_le hk 589 dL_law_584 (by decide) (fun h584 => ?_) (fun h584 => ?_)
            · refine xsub [(0, _), (1, _), (2, _), (3, _), (4, _), (5, _), (6, _), (7, _), (9, _)] rfl ?_
              exact xwiden (by omega) (by omega) (kk x2 hCx hSS)
            · exact absurd ((nI_leq (by omega) (by have := shl_lt (bF b) (by omega); omega)).mpr (nP_pow b m)) h584
        · refine xdconst0 hk dL_law_561 ?_
          refine xgoto hk 572 dL_law_562 (by decide) ?_
          exact absurd ((nz_eq (by omega)).mp h558) (by omega)
theorem Cls.best {b : Bok} {m dy ca : Nat} {x : XS} (h : Cls b m dy ca x) : ∃ t, Best (Pm b m) (2 ^ bF b) t := by
  obtain ⟨-, t, -, -, h3⟩ := h.ridx
  exact ⟨t, h3⟩
theorem Tel.uniq {b : Bok} {m c d : Nat} (h1 : Tel b m c) (h2 : Tel b m d) : c = d := by
  obtain ⟨a1, a2, a3, a4⟩ := h1
  obtain ⟨b1, b2, b3, b4⟩ := h2
  have e1 := a3 d b1
  have e2 := b3 c a1
  rcases Nat.lt_trichotomy c d with h | h | h
  · have := b4 c h; omega
  · exact h
  · have := a4 d h; omega
set_option maxHeartbeats 4000000 in
set_option maxRecDepth 100000 in
theorem lw_peace {k : Kx} {nm : String} {rk mc ms cells slots : Nat} {ret : Option FieldType} {lay : List Kd} {a : Nat → Nat} {x : XS} {b : Bok} {m dy ca r0 r1 r2 : Nat} {v5 v6 : Int32} {v7 : Int64} (hk : Fok k cL_law 21 RL ret nm rk mc ms) (hrk : 9 < rk) (hI : IsL lay) (hfl : (kg k).1.stackTraces = false) (hCx : Cls b m dy ca x) (hdy : dy + 30 ≤ 1000) (hmc : cells + 490 ≤ mc ∧ slots + 2940 ≤ ms)
    (kk : ∀ x2, Cls b m dy ca x2 → Same48 x x2 → Wx k (cells + 490) (slots + 2940) lay a x2 1020 [(0, .ref r0), (1, .ref r1), (2, .ref r2), (3, .ref (a 0)), (4, .int (nI (2 * bF b))), (5, .int v5), (6, .int v6), (7, .long v7), (9, .int (nI (nP b m)))] []) : Wx k cells slots lay a x 589 [(0, .ref r0), (1, .ref r1), (2, .ref r2), (3, .ref (a 0)), (4, .int (nI (2 * bF b))), (5, .int v5), (6, .int v6), (7, .long v7), (9, .int (nI (nP b m)))] [] := by
  have hW := hCx.bw
  have hF := hW.1
  have hS12 := hW.2.1
  have hm : m < 2 ^ 32 := hCx.m32
  have hnP := nP_le hW m
  obtain ⟨x2, hx2⟩ : ∃ x2, x2 = x := ⟨_, rfl⟩
  have hSS : Same48 x x2 := by rw [hx2]; exact fun _ _ _ => ⟨rfl, rfl⟩
  rw [← hx2] at hCx ⊢
  clear hx2
  by_cases hp : nP b m = 0
  · obtain ⟨f0, hf0, hm1, hm2⟩ := blame_ex hW hp
    have hfw := fw_none hp
    refine xiload hk dL_law_589 rfl ?_
    refine xif_le hk 929 dL_law_591 (by decide) (fun h591 => ?_) (fun h591 => ?_)
    · refine xaload_n hk dL_law_929 rfl ?_
      refine xaskL hI hk (q_blamed hCx hp hf0 hm1 hm2) (fun u e => c_X8_blamedFamily hfl e) bX8_blamedFamily rfl kL_251 dL_law_930 rfl rfl hrk ⟨by omega, by omega⟩ (Nat.le_of_ble_eq_true rfl) (fun x2 hCx hS => ?_)
      have hSS := hSS.tr hS
      refine xistore hk dL_law_933 (by decide) ?_
      refine xaload_n hk dL_law_935 rfl ?_
      obtain ⟨y936, e936, hCy936⟩ := q_fewest hCx
      refine xaskPL (v := .int (fwV b m)) hI hk hCy936 (c_X8_fewestToBreak e936) bX8_fewestToBreak rfl kL_245 dL_law_936 rfl rfl hrk ⟨by omega, by omega⟩ (Nat.le_of_ble_eq_true rfl) (fun x2 hCx hS => ?_)
      have hSS := hSS.tr hS
      refine xistore hk dL_law_939 (by decide) ?_
      refine xaload_n hk dL_law_941 rfl ?_
      refine xiconst (v := 2) hk dL_law_942 (by decide) ?_
      refine xiload hk dL_law_943 rfl ?_
      refine ximul hk dL_law_945 ?_
      rw [show (2 : Int32) = nI 2 from rfl, mul_nI]
      refine xaskL hI hk (q_partOf hCx (c := 2 * f0) (by omega)) (fun u e => c_X8_partOf hfl e) bX8_partOf rfl kL_185 dL_law_946 rfl rfl hrk ⟨by omega, by omega⟩ (Nat.le_of_ble_eq_true rfl) (fun x2 hCx hS => ?_)
      have hSS := hSS.tr hS
      refine xaload_n hk dL_law_949 rfl ?_
      refine xiconst (v := 2) hk dL_law_950 (by decide) ?_
      refine xiload hk dL_law_951 rfl ?_
      refine ximul hk dL_law_953 ?_
      rw [show (2 : Int32) = nI 2 from rfl, mul_nI]
      refine xiconst (v := 1) hk dL_law_954 (by decide) ?_
      refine xiadd hk dL_law_955 ?_
      rw [nI_1]
      refine xaskL hI hk (q_partOf hCx (c := 2 * f0 + 1) (by omega)) (fun u e => c_X8_partOf hfl e) bX8_partOf rfl kL_185 dL_law_956 rfl rfl hrk ⟨by omega, by omega⟩ (Nat.le_of_ble_eq_true rfl) (fun x2 hCx hS => ?_)
      have hSS := hSS.tr hS
      refine xicmp_ne hk 979 dL_law_959 (by decide) (fun h959 => ?_) (fun h959 => ?_)
      · rw [mut_part hW hf0] at hm1
        exact absurd (by rw [of_decide_eq_true hm1]) h959
      · refine xiload hk dL_law_962 rfl ?_
        refine xif_eq hk 979 dL_law_964 (by decide) (fun h964 => ?_) (fun h964 => ?_)
        · rcases hfw with e | e | e <;> rw [e] at h964 <;> exact absurd h964 (by decide)
        · refine xiload hk dL_law_967 rfl ?_
          refine xiconst (v := (-1)) hk dL_law_969 (by decide) ?_
          refine xicmp_lt hk 979 dL_law_970 (by decide) (fun h970 => ?_) (fun h970 => ?_)
          · rcases hfw with e | e | e <;> rw [e] at h970 <;> exact absurd h970 (by decide)
          · refine xiload hk dL_law_973 rfl ?_
            refine xiconst (v := 2) hk dL_law_975 (by decide) ?_
            refine xicmp_le hk 981 dL_law_976 (by decide) (fun h976 => ?_) (fun h976 => ?_)
            · refine xiconst (v := 0) hk dL_law_981 (by decide) ?_
              refine xistore hk dL_law_982 (by decide) ?_
              have loopB : ∀ (z o : Nat) (x2 : XS), f0 - o < z → o ≤ f0 → Cls b m dy ca x2 → Same48 x x2 → Wx k (cells + 9 + 6 * o) (slots + 54 + 36 * o) lay a x2 984 [(0, .ref r0), (1, .ref r1), (2, .ref r2), (3, .ref (a 0)), (4, .int (nI (2 * bF b))), (5, .int v5), (6, .int v6), (7, .long v7), (9, .int (nI (nP b m))), (12, .int (nI f0)), (13, .int (fwV b m)), (14, .int (nI o))] [] := by
                intro z
                induction z with
                | zero => intro o x2 h; omega
                | succ z ih =>
                  intro o x2 hz hol hCx hSS
                  refine xiload hk dL_law_984 rfl ?_
                  refine xiload hk dL_law_986 rfl ?_
                  refine xicmp_ge hk 1020 dL_law_988 (by decide) (fun h988 => ?_) (fun h988 => ?_)
                  · refine xsub [(0, _), (1, _), (2, _), (3, _), (4, _), (5, _), (6, _), (7, _), (9, _)] rfl ?_
                    exact xwiden (by omega) (by omega) (kk x2 hCx hSS)
                  · have ho : o < f0 := Nat.not_le.mp (fun u => h988 ((nI_leq (by omega) (by omega)).mpr u))
                    have hno := hm2 o ho
                    rw [mut_part hW (by omega)] at hno
                    have hl1 := (lst_p hW (m := m) (c := 2 * o) (by omega)).1
                    have hl2 := (lst_p hW (m := m) (c := 2 * o + 1) (by omega)).1
                    refine xaload_n hk dL_law_991 rfl ?_
                    refine xiconst (v := 2) hk dL_law_992 (by decide) ?_
                    refine xiload hk dL_law_993 rfl ?_
                    refine ximul hk dL_law_995 ?_
                    rw [show (2 : Int32) = nI 2 from rfl, mul_nI]
                    refine xaskL hI hk (q_partOf hCx (c := 2 * o) (by omega)) (fun u e => c_X8_partOf hfl e) bX8_partOf rfl kL_185 dL_law_996 rfl rfl hrk ⟨by omega, by omega⟩ (Nat.le_of_ble_eq_true rfl) (fun x2 hCx hS => ?_)
                    have hSS := hSS.tr hS
                    refine xaload_n hk dL_law_999 rfl ?_
                    refine xiconst (v := 2) hk dL_law_1000 (by decide) ?_
                    refine xiload hk dL_law_1001 rfl ?_
                    refine ximul hk dL_law_1003 ?_
                    rw [show (2 : Int32) = nI 2 from rfl, mul_nI]
                    refine xiconst (v := 1) hk dL_law_1004 (by decide) ?_
                    refine xiadd hk dL_law_1005 ?_
                    rw [nI_1]
                    refine xaskL hI hk (q_partOf hCx (c := 2 * o + 1) (by omega)) (fun u e => c_X8_partOf hfl e) bX8_partOf rfl kL_185 dL_law_1006 rfl rfl hrk ⟨by omega, by omega⟩ (Nat.le_of_ble_eq_true rfl) (fun x2 hCx hS => ?_)
                    have hSS := hSS.tr hS
                    refine xicmp_ne hk 1014 dL_law_1009 (by decide) (fun h1009 => ?_) (fun h1009 => ?_)
                    · refine xiinc (v := nI (o + 1)) hk dL_law_1014 rfl (by decide) (nI_inc o) ?_
                      refine xgoto hk 984 dL_law_1017 (by decide) ?_
                      refine xsub [(0, _), (1, _), (2, _), (3, _), (4, _), (5, _), (6, _), (7, _), (9, _), (12, _), (13, _), (14, _)] rfl ?_
                      exact xwiden (by omega) (by omega) (ih (o + 1) x2 (by omega) (by omega) hCx hSS)
                    · exact absurd ((nI_inj (by omega) (by omega)).mp h1009) (of_decide_eq_false hno)
              refine xsub [(0, _), (1, _), (2, _), (3, _), (4, _), (5, _), (6, _), (7, _), (9, _), (12, _), (13, _), (14, _)] rfl ?_
              exact xwiden (by omega) (by omega) (loopB (f0 + 1) 0 x2 (by omega) (Nat.zero_le _) hCx hSS)
            · rcases hfw with e | e | e <;> rw [e] at h976 <;> exact absurd (by decide) h976
    · exact absurd (by rw [hp]; decide) h591
  · have hpp : 0 < nP b m := by omega
    obtain ⟨t, hBt⟩ := hCx.best
    have hb0 := best_zero hBt hp
    obtain ⟨tc, hTel, -⟩ := q_telling hCx hp
    refine xiload hk dL_law_589 rfl ?_
    refine xif_le hk 929 dL_law_591 (by decide) (fun h591 => ?_) (fun h591 => ?_)
    · exact absurd ((nz_le (by omega)).mp h591) hp
    · refine xiconst (v := 0) hk dL_law_594 (by decide) ?_
      refine xistore hk dL_law_595 (by decide) ?_
      refine xiconst (v := 0) hk dL_law_597 (by decide) ?_
      refine xistore hk dL_law_598 (by decide) ?_
      have C862 : ∀ x2, Cls b m dy ca x2 → Same48 x x2 → Wx k (cells + 330) (slots + 1980) lay a x2 862 [(0, .ref r0), (1, .ref r1), (2, .ref r2), (3, .ref (a 0)), (4, .int (nI (2 * bF b))), (5, .int v5), (6, .int v6), (7, .long v7), (9, .int (nI (nP b m))), (13, .int (nI tc))] [] := by
        intro x2 hCx hSS
        refine xiconst (v := 0) hk dL_law_862 (by decide) ?_
        refine xistore hk dL_law_863 (by decide) ?_
        have loopT : ∀ (z c : Nat) (x2 : XS), 2 * bF b - c < z → c ≤ 2 * bF b → Cls b m dy ca x2 → Same48 x x2 → Wx k (cells + 330 + 15 * c) (slots + 1980 + 90 * c) lay a x2 865 [(0, .ref r0), (1, .ref r1), (2, .ref r2), (3, .ref (a 0)), (4, .int (nI (2 * bF b))), (5, .int v5), (6, .int v6), (7, .long v7), (9, .int (nI (nP b m))), (13, .int (nI tc)), (14, .int (nI c))] [] := by
          intro z
          induction z with
          | zero => intro c x2 h; omega
          | succ z ih =>
            intro c x2 hz hcl hCx hSS
            refine xiload hk dL_law_865 rfl ?_
            refine xiload hk dL_law_867 rfl ?_
            refine xicmp_ge hk 926 dL_law_869 (by decide) (fun h869 => ?_) (fun h869 => ?_)
            · refine xgoto hk 1020 dL_law_926 (by decide) ?_
              refine xsub [(0, _), (1, _), (2, _), (3, _), (4, _), (5, _), (6, _), (7, _), (9, _)] rfl ?_
              exact xwiden (by omega) (by omega) (kk x2 hCx hSS)
            · have hc : c < 2 * bF b := Nat.not_le.mp (fun u => h869 ((nI_leq (by omega) (by omega)).mpr u))
              have hwc := nW_le hW m c
              have hwt := nW_le hW m tc
              have hT3 := hTel.2.2.1 c hc
              have hT4 := hTel.2.2.2 c
              have htl := hTel.1
              refine xaload_n hk dL_law_872 rfl ?_
              refine xiload hk dL_law_873 rfl ?_
              refine xaskL hI hk (q_peacesWith hCx hc) (fun u e => c_X8_peacesWith hfl e) bX8_peacesWith rfl kL_188 dL_law_875 rfl rfl hrk ⟨by omega, by omega⟩ (Nat.le_of_ble_eq_true rfl) (fun x2 hCx hS => ?_)
              have hSS := hSS.tr hS
              refine xif_le hk 920 dL_law_878 (by decide) (fun h878 => ?_) (fun h878 => ?_)
              · refine xiinc (v := nI (c + 1)) hk dL_law_920 rfl (by decide) (nI_inc c) ?_
                refine xgoto hk 865 dL_law_923 (by decide) ?_
                refine xsub [(0, _), (1, _), (2, _), (3, _), (4, _), (5, _), (6, _), (7, _), (9, _), (13, _), (14, _)] rfl ?_
                exact xwiden (by omega) (by omega) (ih (c + 1) x2 (by omega) (by omega) hCx hSS)
              · have hn0 : ¬ nW b m c = 0 := fun e => h878 (by rw [e]; decide)
                refine xaload_n hk dL_law_881 rfl ?_
                refine xiload hk dL_law_882 rfl ?_
                refine xaskL hI hk (q_peacesWith hCx hc) (fun u e => c_X8_peacesWith hfl e) bX8_peacesWith rfl kL_188 dL_law_884 rfl rfl hrk ⟨by omega, by omega⟩ (Nat.le_of_ble_eq_true rfl) (fun x2 hCx hS => ?_)
                have hSS := hSS.tr hS
                refine xaload_n hk dL_law_887 rfl ?_
                refine xiload hk dL_law_888 rfl ?_
                refine xaskL hI hk (q_peacesWith hCx hTel.1) (fun u e => c_X8_peacesWith hfl e) bX8_peacesWith rfl kL_188 dL_law_890 rfl rfl hrk ⟨by omega, by omega⟩ (Nat.le_of_ble_eq_true rfl) (fun x2 hCx hS => ?_)
                have hSS := hSS.tr hS
                refine xicmp_lt hk 918 dL_law_893 (by decide) (fun h893 => ?_) (fun h893 => ?_)
                · exact absurd ((nI_ltI (by omega) (by omega)).mp h893) (by omega)
                · refine xiload hk dL_law_896 rfl ?_
                  refine xiload hk dL_law_898 rfl ?_
                  refine xicmp_ge hk 920 dL_law_900 (by decide) (fun h900 => ?_) (fun h900 => ?_)
                  · refine xiinc (v := nI (c + 1)) hk dL_law_920 rfl (by decide) (nI_inc c) ?_
                    refine xgoto hk 865 dL_law_923 (by decide) ?_
                    refine xsub [(0, _), (1, _), (2, _), (3, _), (4, _), (5, _), (6, _), (7, _), (9, _), (13, _), (14, _)] rfl ?_
                    exact xwiden (by omega) (by omega) (ih (c + 1) x2 (by omega) (by omega) hCx hSS)
                  · refine xaload_n hk dL_law_903 rfl ?_
                    refine xiload hk dL_law_904 rfl ?_
                    refine xaskL hI hk (q_peacesWith hCx hc) (fun u e => c_X8_peacesWith hfl e) bX8_peacesWith rfl kL_188 dL_law_906 rfl rfl hrk ⟨by omega, by omega⟩ (Nat.le_of_ble_eq_true rfl) (fun x2 hCx hS => ?_)
                    have hSS := hSS.tr hS
                    refine xaload_n hk dL_law_909 rfl ?_
                    refine xiload hk dL_law_910 rfl ?_
                    refine xaskL hI hk (q_peacesWith hCx hTel.1) (fun u e => c_X8_peacesWith hfl e) bX8_peacesWith rfl kL_188 dL_law_912 rfl rfl hrk ⟨by omega, by omega⟩ (Nat.le_of_ble_eq_true rfl) (fun x2 hCx hS => ?_)
                    have hSS := hSS.tr hS
                    refine xicmp_ne hk 920 dL_law_915 (by decide) (fun h915 => ?_) (fun h915 => ?_)
                    · refine xiinc (v := nI (c + 1)) hk dL_law_920 rfl (by decide) (nI_inc c) ?_
                      refine xgoto hk 865 dL_law_923 (by decide) ?_
                      refine xsub [(0, _), (1, _), (2, _), (3, _), (4, _), (5, _), (6, _), (7, _), (9, _), (13, _), (14, _)] rfl ?_
                      exact xwiden (by omega) (by omega) (ih (c + 1) x2 (by omega) (by omega) hCx hSS)
                    · have h1 : nW b m c = nW b m tc := (nI_inj (by omega) (by omega)).mp h915
                      have h2 : c < tc := Nat.not_le.mp (fun u => h900 ((nI_leq (by omega) (by omega)).mpr u))
                      have := hT4 h2
                      omega
        refine xsub [(0, _), (1, _), (2, _), (3, _), (4, _), (5, _), (6, _), (7, _), (9, _), (13, _), (14, _)] rfl ?_
        exact xwiden (by omega) (by omega) (loopT (2 * bF b + 1) 0 x2 (by omega) (Nat.zero_le _) hCx hSS)
      have C808 : ∀ x2, Cls b m dy ca x2 → Same48 x x2 → Wx k (cells + 303) (slots + 1818) lay a x2 808 [(0, .ref r0), (1, .ref r1), (2, .ref r2), (3, .ref (a 0)), (4, .int (nI (2 * bF b))), (5, .int v5), (6, .int v6), (7, .long v7), (9, .int (nI (nP b m))), (12, .int (nI (fb_ct t.testBit (bF b))))] [] := by
        intro x2 hCx hSS
        refine xaload_n hk dL_law_808 rfl ?_
        have hA9 := q_telling hCx hp
        obtain ⟨tc2, hTel2, hAt⟩ := hA9
        have htc : tc = tc2 := Tel.uniq hTel hTel2
        subst htc
        refine xaskL hI hk hAt (fun u e => c_X8_mostTellingOath hfl e) bX8_mostTellingOath rfl kL_239 dL_law_809 rfl rfl hrk ⟨by omega, by omega⟩ (Nat.le_of_ble_eq_true rfl) (fun x2 hCx hS => ?_)
        have hSS := hSS.tr hS
        refine xistore hk dL_law_812 (by decide) ?_
        refine xiload hk dL_law_814 rfl ?_
        refine xaload_n hk dL_law_816 rfl ?_
        refine xaskL hI hk (q_ridersInPeace hCx hp hBt) (fun u e => c_X8_ridersInPeace hfl e) bX8_ridersInPeace rfl kL_242 dL_law_817 rfl rfl hrk ⟨by omega, by omega⟩ (Nat.le_of_ble_eq_true rfl) (fun x2 hCx hS => ?_)
        have hSS := hSS.tr hS
        refine xicmp_ne hk 860 dL_law_820 (by decide) (fun h820 => ?_) (fun h820 => ?_)
        · exact absurd rfl h820
        · refine xaload_n hk dL_law_823 rfl ?_
          refine xiconst (v := 0) hk dL_law_824 (by decide) ?_
          refine xaskL hI hk (q_ridesInPeace hCx hp hBt (f := 0) (by omega)) (fun u e => c_X8_ridesInPeace hfl e) bX8_ridesInPeace rfl kL_222 dL_law_825 rfl rfl hrk ⟨by omega, by omega⟩ (Nat.le_of_ble_eq_true rfl) (fun x2 hCx hS => ?_)
          have hSS := hSS.tr hS
          refine xaload_n hk dL_law_828 rfl ?_
          refine xiconst (v := 0) hk dL_law_829 (by decide) ?_
          refine xaskL hI hk (q_isPossible hCx (c := 0) (by omega)) (fun u e => c_X8_isPossible hfl e) bX8_isPossible rfl kL_201 dL_law_830 rfl rfl hrk ⟨by omega, by omega⟩ (Nat.le_of_ble_eq_true rfl) (fun x2 hCx hS => ?_)
          have hSS := hSS.tr hS
          refine xicmp_ne hk 860 dL_law_833 (by decide) (fun h833 => ?_) (fun h833 => ?_)
          · exact absurd (by rw [hb0]) h833
          · refine xaload_n hk dL_law_836 rfl ?_
            refine xiload hk dL_law_837 rfl ?_
            refine xaskL hI hk (q_peacesWith hCx hTel.1) (fun u e => c_X8_peacesWith hfl e) bX8_peacesWith rfl kL_188 dL_law_839 rfl rfl hrk ⟨by omega, by omega⟩ (Nat.le_of_ble_eq_true rfl) (fun x2 hCx hS => ?_)
            have hSS := hSS.tr hS
            refine xiconst (v := 1) hk dL_law_842 (by decide) ?_
            refine xicmp_lt hk 860 dL_law_843 (by decide) (fun h843 => ?_) (fun h843 => ?_)
            · exact absurd ((nI_ltI (b := 1) (by have := nW_le hW m tc; omega) (by decide)).mp h843) (by have := hTel.2.1; omega)
            · refine xaload_n hk dL_law_846 rfl ?_
              obtain ⟨y847, e847, hCy847⟩ := q_fewest hCx
              refine xaskPL (v := .int (fwV b m)) hI hk hCy847 (c_X8_fewestToBreak e847) bX8_fewestToBreak rfl kL_245 dL_law_847 rfl rfl hrk ⟨by omega, by omega⟩ (Nat.le_of_ble_eq_true rfl) (fun x2 hCx hS => ?_)
              have hSS := hSS.tr hS
              refine xif_ne hk 860 dL_law_850 (by decide) (fun h850 => ?_) (fun h850 => ?_)
              · exact absurd (by rw [fw_pos hp]) h850
              · refine xaload_n hk dL_law_853 rfl ?_
                obtain ⟨vu, ⟨y854, e854, hCy854⟩, hU⟩ := q_until hCx hdy
                refine xaskPL (v := .int vu) hI hk hCy854 (c_X8_daysUntilPeace e854) bX8_daysUntilPeace rfl kL_248 dL_law_854 rfl rfl hrk ⟨by omega, by omega⟩ (Nat.le_of_ble_eq_true rfl) (fun x2 hCx hS => ?_)
                have hSS := hSS.tr hS
                refine xif_eq hk 862 dL_law_857 (by decide) (fun h857 => ?_) (fun h857 => ?_)
                · refine xsub [(0, _), (1, _), (2, _), (3, _), (4, _), (5, _), (6, _), (7, _), (9, _), (13, _)] rfl ?_
                  exact xwiden (by omega) (by omega) (C862 x2 hCx hSS)
                · have hU0 := (hU.at (k := 0) (by decide)).1 hpp
                  exact absurd (Int32.le_antisymm hU0.2 hU0.1) h857
      have loopS : ∀ (z s : Nat) (x2 : XS), bS b - s < z → s ≤ bS b → Cls b m dy ca x2 → Same48 x x2 → Wx k (cells + 15 + 24 * s) (slots + 90 + 144 * s) lay a x2 637 [(0, .ref r0), (1, .ref r1), (2, .ref r2), (3, .ref (a 0)), (4, .int (nI (2 * bF b))), (5, .int v5), (6, .int v6), (7, .long v7), (9, .int (nI (nP b m))), (12, .int (nI (fb_ct t.testBit (bF b)))), (13, .int (nI s))] [] := by
        intro z
        induction z with
        | zero => intro s x2 h; omega
        | succ z ih =>
          intro s x2 hz hsl hCx hSS
          refine xiload hk dL_law_637 rfl ?_
          refine xaload_n hk dL_law_639 rfl ?_
          obtain ⟨y640, e640, hCy640⟩ := q_statements hCx
          refine xaskPL (v := .int (nI (bS b))) hI hk hCy640 (c_X8_statements e640) bX8_statements rfl kL_225 dL_law_640 rfl rfl hrk ⟨by omega, by omega⟩ (Nat.le_of_ble_eq_true rfl) (fun x2 hCx hS => ?_)
          have hSS := hSS.tr hS
          refine xicmp_ge hk 808 dL_law_643 (by decide) (fun h643 => ?_) (fun h643 => ?_)
          · refine xsub [(0, _), (1, _), (2, _), (3, _), (4, _), (5, _), (6, _), (7, _), (9, _), (12, _)] rfl ?_
            exact xwiden (by omega) (by omega) (C808 x2 hCx hSS)
          · have hs : s < bS b := Nat.not_le.mp (fun u => h643 ((nI_leq (by omega) (by omega)).mpr u))
            have hst := hW.2.2.1 s hs
            have C802 : ∀ x2, Cls b m dy ca x2 → Same48 x x2 → Wx k (cells + 15 + 24 * s + 24) (slots + 90 + 144 * s + 144) lay a x2 802 [(0, .ref r0), (1, .ref r1), (2, .ref r2), (3, .ref (a 0)), (4, .int (nI (2 * bF b))), (5, .int v5), (6, .int v6), (7, .long v7), (9, .int (nI (nP b m))), (12, .int (nI (fb_ct t.testBit (bF b)))), (13, .int (nI s))] [] := by
              intro x2 hCx hSS
              refine xiinc (v := nI (s + 1)) hk dL_law_802 rfl (by decide) (nI_inc s) ?_
              refine xgoto hk 637 dL_law_805 (by decide) ?_
              refine xsub [(0, _), (1, _), (2, _), (3, _), (4, _), (5, _), (6, _), (7, _), (9, _), (12, _), (13, _)] rfl ?_
              exact xwiden (by omega) (by omega) (ih (s + 1) x2 (by omega) (by omega) hCx hSS)
            have C722 : ∀ x2, Cls b m dy ca x2 → Same48 x x2 → Wx k (cells + 15 + 24 * s + 18) (slots + 90 + 144 * s + 108) lay a x2 722 [(0, .ref r0), (1, .ref r1), (2, .ref r2), (3, .ref (a 0)), (4, .int (nI (2 * bF b))), (5, .int v5), (6, .int v6), (7, .long v7), (9, .int (nI (nP b m))), (12, .int (nI (fb_ct t.testBit (bF b)))), (13, .int (nI s)), (14, .int (b2i (holdsP t (b1 b s)))), (15, .int (b2i (holdsP t (b2 b s))))] [] := by
              intro x2 hCx hSS
              refine xaload_n hk dL_law_722 rfl ?_
              refine xiload hk dL_law_723 rfl ?_
              refine xaskL hI hk (q_kindOf hCx hs) (fun u e => c_X8_kindOf hfl e) bX8_kindOf rfl kL_233 dL_law_725 rfl rfl hrk ⟨by omega, by omega⟩ (Nat.le_of_ble_eq_true rfl) (fun x2 hCx hS => ?_)
              have hSS := hSS.tr hS
              refine xistore hk dL_law_728 (by decide) ?_
              refine xaload_n hk dL_law_730 rfl ?_
              refine xiload hk dL_law_731 rfl ?_
              refine xaskL hI hk (q_stands hCx hs) (fun u e => c_X8_stands hfl e) bX8_stands rfl kL_236 dL_law_733 rfl rfl hrk ⟨by omega, by omega⟩ (Nat.le_of_ble_eq_true rfl) (fun x2 hCx hS => ?_)
              have hSS := hSS.tr hS
              refine xif_eq hk 802 dL_law_736 (by decide) (fun h736 => ?_) (fun h736 => ?_)
              · refine xsub [(0, _), (1, _), (2, _), (3, _), (4, _), (5, _), (6, _), (7, _), (9, _), (12, _), (13, _)] rfl ?_
                exact xwiden (by omega) (by omega) (C802 x2 hCx hSS)
              · have hTK := told_kept hW hm hBt hp hs (b2i_tr.mp h736)
                refine xiload hk dL_law_739 rfl ?_
                refine xif_ne hk 757 dL_law_741 (by decide) (fun h741 => ?_) (fun h741 => ?_)
                · have hk0 : ¬ bk b s = 0 := fun e => h741 (by rw [e]; rfl)
                  rw [if_neg hk0] at hTK
                  refine xiload hk dL_law_757 rfl ?_
                  refine xiconst (v := 1) hk dL_law_759 (by decide) ?_
                  refine xicmp_ne hk 776 dL_law_760 (by decide) (fun h760 => ?_) (fun h760 => ?_)
                  · have hk1 : ¬ bk b s = 1 := fun e => h760 (by rw [e]; rfl)
                    rw [if_neg hk1] at hTK
                    refine xiload hk dL_law_776 rfl ?_
                    refine xiconst (v := 2) hk dL_law_778 (by decide) ?_
                    refine xicmp_ne hk 795 dL_law_779 (by decide) (fun h779 => ?_) (fun h779 => ?_)
                    · have hk2 : ¬ bk b s = 2 := fun e => h779 (by rw [e]; rfl)
                      rw [if_neg hk2] at hTK
                      refine xiload hk dL_law_795 rfl ?_
                      refine xif_ne hk 802 dL_law_797 (by decide) (fun h797 => ?_) (fun h797 => ?_)
                      · refine xsub [(0, _), (1, _), (2, _), (3, _), (4, _), (5, _), (6, _), (7, _), (9, _), (12, _), (13, _)] rfl ?_
                        exact xwiden (by omega) (by omega) (C802 x2 hCx hSS)
                      · rw [b2i_z.mp h797] at hTK; exact absurd hTK (by decide)
                    · have hk2 : bk b s = 2 := (nI_inj (by omega) (by decide)).mp (h779 : nI (bk b s) = nI 2)
                      rw [if_pos hk2] at hTK
                      refine xiload hk dL_law_782 rfl ?_
                      refine xif_eq hk 802 dL_law_784 (by decide) (fun h784 => ?_) (fun h784 => ?_)
                      · refine xsub [(0, _), (1, _), (2, _), (3, _), (4, _), (5, _), (6, _), (7, _), (9, _), (12, _), (13, _)] rfl ?_
                        exact xwiden (by omega) (by omega) (C802 x2 hCx hSS)
                      · refine xiload hk dL_law_787 rfl ?_
                        refine xif_ne hk 800 dL_law_789 (by decide) (fun h789 => ?_) (fun h789 => ?_)
                        · rw [b2i_tr.mp h784, b2i_tr.mp h789] at hTK; exact absurd hTK (by decide)
                        · refine xgoto hk 802 dL_law_792 (by decide) ?_
                          refine xsub [(0, _), (1, _), (2, _), (3, _), (4, _), (5, _), (6, _), (7, _), (9, _), (12, _), (13, _)] rfl ?_
                          exact xwiden (by omega) (by omega) (C802 x2 hCx hSS)
                  · have hk1 : bk b s = 1 := (nI_inj (by omega) (by decide)).mp (h760 : nI (bk b s) = nI 1)
                    rw [if_pos hk1] at hTK
                    refine xiload hk dL_law_763 rfl ?_
                    refine xif_ne hk 802 dL_law_765 (by decide) (fun h765 => ?_) (fun h765 => ?_)
                    · refine xsub [(0, _), (1, _), (2, _), (3, _), (4, _), (5, _), (6, _), (7, _), (9, _), (12, _), (13, _)] rfl ?_
                      exact xwiden (by omega) (by omega) (C802 x2 hCx hSS)
                    · refine xiload hk dL_law_768 rfl ?_
                      refine xif_eq hk 800 dL_law_770 (by decide) (fun h770 => ?_) (fun h770 => ?_)
                      · rw [b2i_z.mp h765, b2i_z.mp h770] at hTK; exact absurd hTK (by decide)
                      · refine xgoto hk 802 dL_law_773 (by decide) ?_
                        refine xsub [(0, _), (1, _), (2, _), (3, _), (4, _), (5, _), (6, _), (7, _), (9, _), (12, _), (13, _)] rfl ?_
                        exact xwiden (by omega) (by omega) (C802 x2 hCx hSS)
                · have hk0 : bk b s = 0 := (nz_eq (by omega)).mp h741
                  rw [if_pos hk0] at hTK
                  refine xiload hk dL_law_744 rfl ?_
                  refine xif_eq hk 802 dL_law_746 (by decide) (fun h746 => ?_) (fun h746 => ?_)
                  · refine xsub [(0, _), (1, _), (2, _), (3, _), (4, _), (5, _), (6, _), (7, _), (9, _), (12, _), (13, _)] rfl ?_
                    exact xwiden (by omega) (by omega) (C802 x2 hCx hSS)
                  · refine xiload hk dL_law_749 rfl ?_
                    refine xif_eq hk 800 dL_law_751 (by decide) (fun h751 => ?_) (fun h751 => ?_)
                    · rw [b2i_tr.mp h746, b2i_z.mp h751] at hTK; exact absurd hTK (by decide)
                    · refine xgoto hk 802 dL_law_754 (by decide) ?_
                      refine xsub [(0, _), (1, _), (2, _), (3, _), (4, _), (5, _), (6, _), (7, _), (9, _), (12, _), (13, _)] rfl ?_
                      exact xwiden (by omega) (by omega) (C802 x2 hCx hSS)
            have C684 : ∀ x2, Cls b m dy ca x2 → Same48 x x2 → Wx k (cells + 15 + 24 * s + 9) (slots + 90 + 144 * s + 54) lay a x2 684 [(0, .ref r0), (1, .ref r1), (2, .ref r2), (3, .ref (a 0)), (4, .int (nI (2 * bF b))), (5, .int v5), (6, .int v6), (7, .long v7), (9, .int (nI (nP b m))), (12, .int (nI (fb_ct t.testBit (bF b)))), (13, .int (nI s)), (14, .int (b2i (holdsP t (b1 b s))))] [] := by
              intro x2 hCx hSS
              refine xaload_n hk dL_law_684 rfl ?_
              refine xaload_n hk dL_law_685 rfl ?_
              refine xiload hk dL_law_686 rfl ?_
              refine xaskL hI hk (q_second hCx hs) (fun u e => c_X8_secondClaimOf hfl e) bX8_secondClaimOf rfl kL_230 dL_law_688 rfl rfl hrk ⟨by omega, by omega⟩ (Nat.le_of_ble_eq_true rfl) (fun x2 hCx hS => ?_)
              have hSS := hSS.tr hS
              refine xiconst (v := 2) hk dL_law_691 (by decide) ?_
              refine xidiv hk dL_law_692 (by decide) ?_
              rw [show (2 : Int32) = nI 2 from rfl, div_nI (by omega) (by decide) (by decide)]
              refine xaskL hI hk (q_ridesInPeace hCx hp hBt (f := b2 b s / 2) (by omega)) (fun u e => c_X8_ridesInPeace hfl e) bX8_ridesInPeace rfl kL_222 dL_law_693 rfl rfl hrk ⟨by omega, by omega⟩ (Nat.le_of_ble_eq_true rfl) (fun x2 hCx hS => ?_)
              have hSS := hSS.tr hS
              refine xaload_n hk dL_law_696 rfl ?_
              refine xiload hk dL_law_697 rfl ?_
              refine xaskL hI hk (q_second hCx hs) (fun u e => c_X8_secondClaimOf hfl e) bX8_secondClaimOf rfl kL_230 dL_law_699 rfl rfl hrk ⟨by omega, by omega⟩ (Nat.le_of_ble_eq_true rfl) (fun x2 hCx hS => ?_)
              have hSS := hSS.tr hS
              refine xiconst (v := 2) hk dL_law_702 (by decide) ?_
              refine xirem hk dL_law_703 (by decide) ?_
              rw [show (2 : Int32) = nI 2 from rfl, rem_nI (by omega) (by decide) (by decide)]
              refine xif_ne hk 711 dL_law_704 (by decide) (fun h704 => ?_) (fun h704 => ?_)
              · have ho : decide (b2 b s % 2 = 0) = false := decide_eq_false (fun e => h704 (by rw [e]; rfl))
                refine xiconst (v := 0) hk dL_law_711 (by decide) ?_
                refine xicmp_ne hk 719 dL_law_712 (by decide) (fun hz => ?_) (fun hz => ?_)
                · have hb_ : t.testBit (b2 b s / 2) = true := b2i_tr.mp hz
                  refine xiconst (v := 0) hk dL_law_719 (by decide) ?_
                  rw [show (Value.int 0) = Value.int (b2i (holdsP t (b2 b s))) by rw [holds_of, hb_, ho]; rfl]
                  refine xistore hk dL_law_720 (by decide) ?_
                  refine xsub [(0, _), (1, _), (2, _), (3, _), (4, _), (5, _), (6, _), (7, _), (9, _), (12, _), (13, _), (14, _), (15, _)] rfl ?_
                  exact xwiden (by omega) (by omega) (C722 x2 hCx hSS)
                · have hb_ : t.testBit (b2 b s / 2) = false := b2i_z.mp hz
                  refine xiconst (v := 1) hk dL_law_715 (by decide) ?_
                  refine xgoto hk 720 dL_law_716 (by decide) ?_
                  rw [show (Value.int 1) = Value.int (b2i (holdsP t (b2 b s))) by rw [holds_of, hb_, ho]; rfl]
                  refine xistore hk dL_law_720 (by decide) ?_
                  refine xsub [(0, _), (1, _), (2, _), (3, _), (4, _), (5, _), (6, _), (7, _), (9, _), (12, _), (13, _), (14, _), (15, _)] rfl ?_
                  exact xwiden (by omega) (by omega) (C722 x2 hCx hSS)
              · have ho : decide (b2 b s % 2 = 0) = true := decide_eq_true ((nz_eq (by omega)).mp h704)
                refine xiconst (v := 1) hk dL_law_707 (by decide) ?_
                refine xgoto hk 712 dL_law_708 (by decide) ?_
                refine xicmp_ne hk 719 dL_law_712 (by decide) (fun hz => ?_) (fun hz => ?_)
                · have hb_ : t.testBit (b2 b s / 2) = false := by
                    rcases Bool.eq_false_or_eq_true (t.testBit (b2 b s / 2)) with h | h
                    · exact absurd (by rw [h]; rfl) hz
                    · exact h
                  refine xiconst (v := 0) hk dL_law_719 (by decide) ?_
                  rw [show (Value.int 0) = Value.int (b2i (holdsP t (b2 b s))) by rw [holds_of, hb_, ho]; rfl]
                  refine xistore hk dL_law_720 (by decide) ?_
                  refine xsub [(0, _), (1, _), (2, _), (3, _), (4, _), (5, _), (6, _), (7, _), (9, _), (12, _), (13, _), (14, _), (15, _)] rfl ?_
                  exact xwiden (by omega) (by omega) (C722 x2 hCx hSS)
                · have hb_ : t.testBit (b2 b s / 2) = true := by
                    rcases Bool.eq_false_or_eq_true (t.testBit (b2 b s / 2)) with h | h
                    · exact h
                    · rw [h] at hz; exact absurd hz (by decide)
                  refine xiconst (v := 1) hk dL_law_715 (by decide) ?_
                  refine xgoto hk 720 dL_law_716 (by decide) ?_
                  rw [show (Value.int 1) = Value.int (b2i (holdsP t (b2 b s))) by rw [holds_of, hb_, ho]; rfl]
                  refine xistore hk dL_law_720 (by decide) ?_
                  refine xsub [(0, _), (1, _), (2, _), (3, _), (4, _), (5, _), (6, _), (7, _), (9, _), (12, _), (13, _), (14, _), (15, _)] rfl ?_
                  exact xwiden (by omega) (by omega) (C722 x2 hCx hSS)
            refine xaload_n hk dL_law_646 rfl ?_
            refine xaload_n hk dL_law_647 rfl ?_
            refine xiload hk dL_law_648 rfl ?_
            refine xaskL hI hk (q_first hCx hs) (fun u e => c_X8_firstClaimOf hfl e) bX8_firstClaimOf rfl kL_227 dL_law_650 rfl rfl hrk ⟨by omega, by omega⟩ (Nat.le_of_ble_eq_true rfl) (fun x2 hCx hS => ?_)
            have hSS := hSS.tr hS
            refine xiconst (v := 2) hk dL_law_653 (by decide) ?_
            refine xidiv hk dL_law_654 (by decide) ?_
            rw [show (2 : Int32) = nI 2 from rfl, div_nI (by omega) (by decide) (by decide)]
            refine xaskL hI hk (q_ridesInPeace hCx hp hBt (f := b1 b s / 2) (by omega)) (fun u e => c_X8_ridesInPeace hfl e) bX8_ridesInPeace rfl kL_222 dL_law_655 rfl rfl hrk ⟨by omega, by omega⟩ (Nat.le_of_ble_eq_true rfl) (fun x2 hCx hS => ?_)
            have hSS := hSS.tr hS
            refine xaload_n hk dL_law_658 rfl ?_
            refine xiload hk dL_law_659 rfl ?_
            refine xaskL hI hk (q_first hCx hs) (fun u e => c_X8_firstClaimOf hfl e) bX8_firstClaimOf rfl kL_227 dL_law_661 rfl rfl hrk ⟨by omega, by omega⟩ (Nat.le_of_ble_eq_true rfl) (fun x2 hCx hS => ?_)
            have hSS := hSS.tr hS
            refine xiconst (v := 2) hk dL_law_664 (by decide) ?_
            refine xirem hk dL_law_665 (by decide) ?_
            rw [show (2 : Int32) = nI 2 from rfl, rem_nI (by omega) (by decide) (by decide)]
            refine xif_ne hk 673 dL_law_666 (by decide) (fun h666 => ?_) (fun h666 => ?_)
            · have ho : decide (b1 b s % 2 = 0) = false := decide_eq_false (fun e => h666 (by rw [e]; rfl))
              refine xiconst (v := 0) hk dL_law_673 (by decide) ?_
              refine xicmp_ne hk 681 dL_law_674 (by decide) (fun hz => ?_) (fun hz => ?_)
              · have hb_ : t.testBit (b1 b s / 2) = true := b2i_tr.mp hz
                refine xiconst (v := 0) hk dL_law_681 (by decide) ?_
                rw [show (Value.int 0) = Value.int (b2i (holdsP t (b1 b s))) by rw [holds_of, hb_, ho]; rfl]
                refine xistore hk dL_law_682 (by decide) ?_
                refine xsub [(0, _), (1, _), (2, _), (3, _), (4, _), (5, _), (6, _), (7, _), (9, _), (12, _), (13, _), (14, _)] rfl ?_
                exact xwiden (by omega) (by omega) (C684 x2 hCx hSS)
              · have hb_ : t.testBit (b1 b s / 2) = false := b2i_z.mp hz
                refine xiconst (v := 1) hk dL_law_677 (by decide) ?_
                refine xgoto hk 682 dL_law_678 (by decide) ?_
                rw [show (Value.int 1) = Value.int (b2i (holdsP t (b1 b s))) by rw [holds_of, hb_, ho]; rfl]
                refine xistore hk dL_law_682 (by decide) ?_
                refine xsub [(0, _), (1, _), (2, _), (3, _), (4, _), (5, _), (6, _), (7, _), (9, _), (12, _), (13, _), (14, _)] rfl ?_
                exact xwiden (by omega) (by omega) (C684 x2 hCx hSS)
            · have ho : decide (b1 b s % 2 = 0) = true := decide_eq_true ((nz_eq (by omega)).mp h666)
              refine xiconst (v := 1) hk dL_law_669 (by decide) ?_
              refine xgoto hk 674 dL_law_670 (by decide) ?_
              refine xicmp_ne hk 681 dL_law_674 (by decide) (fun hz => ?_) (fun hz => ?_)
              · have hb_ : t.testBit (b1 b s / 2) = false := by
                  rcases Bool.eq_false_or_eq_true (t.testBit (b1 b s / 2)) with h | h
                  · exact absurd (by rw [h]; rfl) hz
                  · exact h
                refine xiconst (v := 0) hk dL_law_681 (by decide) ?_
                rw [show (Value.int 0) = Value.int (b2i (holdsP t (b1 b s))) by rw [holds_of, hb_, ho]; rfl]
                refine xistore hk dL_law_682 (by decide) ?_
                refine xsub [(0, _), (1, _), (2, _), (3, _), (4, _), (5, _), (6, _), (7, _), (9, _), (12, _), (13, _), (14, _)] rfl ?_
                exact xwiden (by omega) (by omega) (C684 x2 hCx hSS)
              · have hb_ : t.testBit (b1 b s / 2) = true := by
                  rcases Bool.eq_false_or_eq_true (t.testBit (b1 b s / 2)) with h | h
                  · exact h
                  · rw [h] at hz; exact absurd hz (by decide)
                refine xiconst (v := 1) hk dL_law_677 (by decide) ?_
                refine xgoto hk 682 dL_law_678 (by decide) ?_
                rw [show (Value.int 1) = Value.int (b2i (holdsP t (b1 b s))) by rw [holds_of, hb_, ho]; rfl]
                refine xistore hk dL_law_682 (by decide) ?_
                refine xsub [(0, _), (1, _), (2, _), (3, _), (4, _), (5, _), (6, _), (7, _), (9, _), (12, _), (13, _), (14, _)] rfl ?_
                exact xwiden (by omega) (by omega) (C684 x2 hCx hSS)
      have loopR : ∀ (z f : Nat) (x2 : XS), bF b - f < z → f ≤ bF b → Cls b m dy ca x2 → Same48 x x2 → Wx k (cells + 3 * f) (slots + 18 * f) lay a x2 600 [(0, .ref r0), (1, .ref r1), (2, .ref r2), (3, .ref (a 0)), (4, .int (nI (2 * bF b))), (5, .int v5), (6, .int v6), (7, .long v7), (9, .int (nI (nP b m))), (12, .int (nI (fb_ct t.testBit f))), (13, .int (nI f))] [] := by
        intro z
        induction z with
        | zero => intro f x2 h; omega
        | succ z ih =>
          intro f x2 hz hfl2 hCx hSS
          refine xiload hk dL_law_600 rfl ?_
          refine xaload_n hk dL_law_602 rfl ?_
          obtain ⟨y603, e603, hCy603⟩ := q_families hCx
          refine xaskPL (v := .int (nI (bF b))) hI hk hCy603 (c_X8_families e603) bX8_families rfl kL_172 dL_law_603 rfl rfl hrk ⟨by omega, by omega⟩ (Nat.le_of_ble_eq_true rfl) (fun x2 hCx hS => ?_)
          have hSS := hSS.tr hS
          refine xicmp_ge hk 634 dL_law_606 (by decide) (fun h606 => ?_) (fun h606 => ?_)
          · have hfe : f = bF b := Nat.le_antisymm hfl2 ((nI_leq (by omega) (by omega)).mp h606)
            subst hfe
            refine xiconst (v := 0) hk dL_law_634 (by decide) ?_
            refine xistore hk dL_law_635 (by decide) ?_
            refine xsub [(0, _), (1, _), (2, _), (3, _), (4, _), (5, _), (6, _), (7, _), (9, _), (12, _), (13, _)] rfl ?_
            exact xwiden (by omega) (by omega) (loopS (bS b + 1) 0 x2 (by omega) (Nat.zero_le _) hCx hSS)
          · have hfl3 : f < bF b := Nat.not_le.mp (fun u => h606 ((nI_leq (by omega) (by omega)).mpr u))
            refine xiload hk dL_law_609 rfl ?_
            refine xaload_n hk dL_law_611 rfl ?_
            refine xiload hk dL_law_612 rfl ?_
            refine xaskL hI hk (q_ridesInPeace hCx hp hBt hfl3) (fun u e => c_X8_ridesInPeace hfl e) bX8_ridesInPeace rfl kL_222 dL_law_614 rfl rfl hrk ⟨by omega, by omega⟩ (Nat.le_of_ble_eq_true rfl) (fun x2 hCx hS => ?_)
            have hSS := hSS.tr hS
            refine xif_eq hk 624 dL_law_617 (by decide) (fun h617 => ?_) (fun h617 => ?_)
            · have hbb := b2i_z.mp h617
              refine xiconst (v := 0) hk dL_law_624 (by decide) ?_
              refine xiadd hk dL_law_625 ?_
              rw [show nI (fb_ct t.testBit f) + 0 = nI (fb_ct t.testBit (f + 1)) by rw [← ct_b2i, hbb]; rfl]
              refine xistore hk dL_law_626 (by decide) ?_
              refine xiinc (v := nI (f + 1)) hk dL_law_628 rfl (by decide) (nI_inc f) ?_
              refine xgoto hk 600 dL_law_631 (by decide) ?_
              refine xsub [(0, _), (1, _), (2, _), (3, _), (4, _), (5, _), (6, _), (7, _), (9, _), (12, _), (13, _)] rfl ?_
              exact xwiden (by omega) (by omega) (ih (f + 1) x2 (by omega) (by omega) hCx hSS)
            · have hbb := b2i_tr.mp h617
              refine xiconst (v := 1) hk dL_law_620 (by decide) ?_
              refine xgoto hk 625 dL_law_621 (by decide) ?_
              refine xiadd hk dL_law_625 ?_
              rw [show nI (fb_ct t.testBit f) + 1 = nI (fb_ct t.testBit (f + 1)) by rw [← ct_b2i, hbb]; rfl]
              refine xistore hk dL_law_626 (by decide) ?_
              refine xiinc (v := nI (f + 1)) hk dL_law_628 rfl (by decide) (nI_inc f) ?_
              refine xgoto hk 600 dL_law_631 (by decide) ?_
              refine xsub [(0, _), (1, _), (2, _), (3, _), (4, _), (5, _), (6, _), (7, _), (9, _), (12, _), (13, _)] rfl ?_
              exact xwiden (by omega) (by omega) (ih (f + 1) x2 (by omega) (by omega) hCx hSS)
      refine xsub [(0, _), (1, _), (2, _), (3, _), (4, _), (5, _), (6, _), (7, _), (9, _), (12, _), (13, _)] rfl ?_
      exact xwiden (by omega) (by omega) (loopR (bF b + 1) 0 x2 (by omega) (Nat.zero_le _) hCx hSS)
