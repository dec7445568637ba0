theorem kL_208 : Cond.methodLink RL 208 yX8_whatFollowsFrom ∈ GW := gw_mem 595 (by decide +kernel) (by decide +kernel)
theorem kL_191 : Cond.methodLink RL 191 yX8_follows ∈ GW := gw_mem 548 (by decide +kernel) (by decide +kernel)
theorem kL_188 : Cond.methodLink RL 188 yX8_peacesWith ∈ GW := gw_mem 641 (by decide +kernel) (by decide +kernel)
theorem bX8_fewestStatementsBetween : CBv yX8_fewestStatementsBetween cX8_fewestStatementsBetween 4 (some .int) 2 := ⟨⟨gw_mem 602 (by decide +kernel) (by decide +kernel), gw_mem 13 (by decide +kernel) (by decide +kernel), by decide +kernel, by decide⟩, gw_mem 600 (by decide +kernel) (by decide +kernel), gw_mem 601 (by decide +kernel) (by decide +kernel)⟩
theorem kL_195 : Cond.methodLink RL 195 yX8_fewestStatementsBetween ∈ GW := gw_mem 599 (by decide +kernel) (by decide +kernel)
theorem kL_185 : Cond.methodLink RL 185 yX8_partOf ∈ GW := gw_mem 620 (by decide +kernel) (by decide +kernel)
theorem kL_198 : Cond.methodLink RL 198 yX8_partSize ∈ GW := gw_mem 629 (by decide +kernel) (by decide +kernel)
theorem kL_201 : Cond.methodLink RL 201 yX8_isPossible ∈ GW := gw_mem 654 (by decide +kernel) (by decide +kernel)
theorem kL_205 : Cond.methodLink RL 205 yX8_isSettled ∈ GW := gw_mem 658 (by decide +kernel) (by decide +kernel)
/-! The law's looks at all claims -/
def RS (b : Bok) (m : Nat) : Nat → Nat := fb_sm (fun i => if i % 2 = 0 then nW b m i else 0)
theorem RS_all (b : Bok) (m : Nat) : ∀ F, RS b m (2 * F) = fb_sm (fun f => nW b m (2 * f)) F
  | 0 => rfl
  | F + 1 => by
    have h := RS_all b m F
    unfold RS at h ⊢
    rw [show 2 * (F + 1) = 2 * F + 1 + 1 by omega, fb_sm_succ, fb_sm_succ, fb_sm_succ, h, if_pos (by omega), if_neg (by omega), Nat.add_zero]
theorem RS_le {b : Bok} (hW : BW b) (m : Nat) : ∀ n, RS b m n ≤ 32 * n
  | 0 => Nat.le_refl _
  | n + 1 => by
    have h := RS_le hW m n
    have h2 := nW_le hW m n
    unfold RS at h ⊢
    rw [fb_sm_succ]
    split <;> omega
set_option maxHeartbeats 4000000 in
set_option maxRecDepth 100000 in
theorem lw_claims {k : Kx} {nm : String} {rk mc ms cells slots : Nat} {ret : Option FieldType} {lay : List Kd} {a : Nat → Nat} {x : XS} {b : Bok} {m dy ca r0 r1 r2 : Nat} {v5 v6 : Int32} {v7 : Int64} (hk : Fok k cL_law 21 RL ret nm rk mc ms) (hrk : 9 < rk) (hI : IsL lay) (hfl : (kg k).1.stackTraces = false) (hCx : Cls b m dy ca x) (hmc : cells + 9600 ≤ mc ∧ slots + 57600 ≤ ms)
    (kk : ∀ x2, Cls b m dy ca x2 → Same48 x x2 → Wx k (cells + 9600) (slots + 57600) lay a x2 526 [(0, .ref r0), (1, .ref r1), (2, .ref r2), (3, .ref (a 0)), (4, .int (nI (2 * bF b))), (5, .int v5), (6, .int v6), (7, .long v7), (9, .int (nI (nP b m))), (10, .int (nI (pN (bF b) (RB b m)))), (11, .int (nI (fb_sm (fun f => nW b m (2 * f)) (bF b))))] []) : Wx k cells slots lay a x 96 [(0, .ref r0), (1, .ref r1), (2, .ref r2), (3, .ref (a 0)), (4, .int (nI (2 * bF b))), (5, .int v5), (6, .int v6), (7, .long v7), (9, .int (nI (nP b m)))] [] := by
  have hW := hCx.bw
  have hF := hW.1
  have hm : m < 2 ^ 32 := hCx.m32
  have hnP := nP_le hW m
  have loopC : ∀ (z c : Nat) (x2 : XS), 2 * bF b - c < z → c ≤ 2 * bF b → Cls b m dy ca x2 → Same48 x x2 → Wx k (cells + 960 * c) (slots + 5760 * c) lay a x2 105 [(0, .ref r0), (1, .ref r1), (2, .ref r2), (3, .ref (a 0)), (4, .int (nI (2 * bF b))), (5, .int v5), (6, .int v6), (7, .long v7), (9, .int (nI (nP b m))), (10, .int (nI (fb_ct (fun i => decide (lst (RB b m) i = i)) (c)))), (11, .int (nI (RS b m (c)))), (12, .int (nI c))] [] := by
    intro z
    induction z with
    | zero => intro c x2 h; omega
    | succ z ihC =>
      intro c x2 hz hcl hCx hSS
      refine xiload hk dL_law_105 rfl ?_
      refine xiload hk dL_law_107 rfl ?_
      refine xicmp_ge hk 526 dL_law_109 (by decide) (fun h109 => ?_) (fun h109 => ?_)
      · have hce : c = 2 * bF b := Nat.le_antisymm hcl ((nI_leq (by omega) (by omega)).mp h109)
        subst hce
        refine xwiden (c2 := cells + 9600) (s2 := slots + 57600) (by omega) (by omega) ?_
        rw [RS_all]
        refine xsub [(0, _), (1, _), (2, _), (3, _), (4, _), (5, _), (6, _), (7, _), (9, _), (10, _), (11, _)] rfl ?_
        exact kk x2 hCx hSS
      · have hc : c < 2 * bF b := Nat.not_le.mp (fun u => h109 ((nI_leq (by omega) (by omega)).mpr u))
        have hc1 := x1_lt (bF b) (by omega) c hc
        have hlc := (lst_p hW (m := m) hc).1
        have hrs := RS_le hW m c
        have hwc := nW_le hW m c
        have hwc1 := nW_le hW m (c ^^^ 1)
        obtain ⟨C0, hC0⟩ : ∃ C0, C0 = cells + 960 * c := ⟨_, rfl⟩
        obtain ⟨S0, hS0⟩ : ∃ S0, S0 = slots + 5760 * c := ⟨_, rfl⟩
        rw [← hC0, ← hS0]
        have C507 : ∀ x2, Cls b m dy ca x2 → Same48 x x2 → Wx k (C0 + 957) (S0 + 5742) lay a x2 507 [(0, .ref r0), (1, .ref r1), (2, .ref r2), (3, .ref (a 0)), (4, .int (nI (2 * bF b))), (5, .int v5), (6, .int v6), (7, .long v7), (9, .int (nI (nP b m))), (10, .int (nI (fb_ct (fun i => decide (lst (RB b m) i = i)) (c + 1)))), (11, .int (nI (RS b m (c + 1)))), (12, .int (nI c)), (13, .int (nI (fb_ct (RB b m c) (2 * bF b))))] [] := by
          intro x2 hCx hSS
          refine xiload hk dL_law_507 rfl ?_
          refine xaload_n hk dL_law_509 rfl ?_
          refine xiload hk dL_law_510 rfl ?_
          refine xaskL hI hk (q_what hCx hc) (fun u e => c_X8_whatFollowsFrom hfl e) bX8_whatFollowsFrom rfl kL_208 dL_law_512 rfl rfl hrk ⟨by omega, by omega⟩ (Nat.le_of_ble_eq_true rfl) (fun x2 hCx hS => ?_)
          have hSS := hSS.tr hS
          refine xicmp_eq hk 520 dL_law_515 (by decide) (fun h515 => ?_) (fun h515 => ?_)
          · refine xiinc (v := nI (c + 1)) hk dL_law_520 rfl (by decide) (nI_inc c) ?_
            refine xgoto hk 105 dL_law_523 (by decide) ?_
            refine xsub [(0, _), (1, _), (2, _), (3, _), (4, _), (5, _), (6, _), (7, _), (9, _), (10, _), (11, _), (12, _)] rfl ?_
            exact xwiden (by omega) (by omega) (ihC (c + 1) x2 (by omega) (by omega) hCx hSS)
          · exact absurd rfl h515
        have loopO : ∀ (z o : Nat) (x2 : XS), 2 * bF b - o < z → o ≤ 2 * bF b → Cls b m dy ca x2 → Same48 x x2 → Wx k (C0 + 54 + 90 * o) (S0 + 324 + 540 * o) lay a x2 305 [(0, .ref r0), (1, .ref r1), (2, .ref r2), (3, .ref (a 0)), (4, .int (nI (2 * bF b))), (5, .int v5), (6, .int v6), (7, .long v7), (9, .int (nI (nP b m))), (10, .int (nI (fb_ct (fun i => decide (lst (RB b m) i = i)) (c + 1)))), (11, .int (nI (RS b m (c + 1)))), (12, .int (nI c)), (13, .int (nI (fb_ct (RB b m c) (o)))), (14, .int (nI o))] [] := by
          intro z
          induction z with
          | zero => intro o x2 h; omega
          | succ z ih =>
            intro o x2 hz hol hCx hSS
            refine xiload hk dL_law_305 rfl ?_
            refine xiload hk dL_law_307 rfl ?_
            refine xicmp_ge hk 507 dL_law_309 (by decide) (fun h309 => ?_) (fun h309 => ?_)
            · have hoe : o = 2 * bF b := Nat.le_antisymm hol ((nI_leq (by omega) (by omega)).mp h309)
              subst hoe
              refine xsub [(0, _), (1, _), (2, _), (3, _), (4, _), (5, _), (6, _), (7, _), (9, _), (10, _), (11, _), (12, _), (13, _)] rfl ?_
              exact xwiden (by omega) (by omega) (C507 x2 hCx hSS)
            · have ho : o < 2 * bF b := Nat.not_le.mp (fun u => h309 ((nI_leq (by omega) (by omega)).mpr u))
              have ho1 := x1_lt (bF b) (by omega) o ho
              have hlo := (lst_p hW (m := m) ho).1
              have C501 : ∀ x2, Cls b m dy ca x2 → Same48 x x2 → Wx k (C0 + 54 + 90 * o + 90) (S0 + 324 + 540 * o + 540) lay a x2 501 [(0, .ref r0), (1, .ref r1), (2, .ref r2), (3, .ref (a 0)), (4, .int (nI (2 * bF b))), (5, .int v5), (6, .int v6), (7, .long v7), (9, .int (nI (nP b m))), (10, .int (nI (fb_ct (fun i => decide (lst (RB b m) i = i)) (c + 1)))), (11, .int (nI (RS b m (c + 1)))), (12, .int (nI c)), (13, .int (nI (fb_ct (RB b m c) (o + 1)))), (14, .int (nI o))] [] := by
                intro x2 hCx hSS
                refine xiinc (v := nI (o + 1)) hk dL_law_501 rfl (by decide) (nI_inc o) ?_
                refine xgoto hk 305 dL_law_504 (by decide) ?_
                refine xsub [(0, _), (1, _), (2, _), (3, _), (4, _), (5, _), (6, _), (7, _), (9, _), (10, _), (11, _), (12, _), (13, _), (14, _)] rfl ?_
                exact xwiden (by omega) (by omega) (ih (o + 1) x2 (by omega) (by omega) hCx hSS)
              have C400 : ∀ x2, Cls b m dy ca x2 → Same48 x x2 → Wx k (C0 + 54 + 90 * o + 15) (S0 + 324 + 540 * o + 90) lay a x2 400 [(0, .ref r0), (1, .ref r1), (2, .ref r2), (3, .ref (a 0)), (4, .int (nI (2 * bF b))), (5, .int v5), (6, .int v6), (7, .long v7), (9, .int (nI (nP b m))), (10, .int (nI (fb_ct (fun i => decide (lst (RB b m) i = i)) (c + 1)))), (11, .int (nI (RS b m (c + 1)))), (12, .int (nI c)), (13, .int (nI (fb_ct (RB b m c) (o + 1)))), (14, .int (nI o)), (15, .int (b2i (RB b m c o)))] [] := by
                intro x2 hCx hSS
                rcases Bool.eq_false_or_eq_true (RB b m c o) with hb | hb
                · have hr1 : RB b m (o ^^^ 1) (c ^^^ 1) = true := by rw [RB_opp2 hW hc ho]; exact hb
                  have hwo := nW_le_of hW hm hc ho hb
                  have hwo2 := nW_le hW m o
                  refine xiload hk dL_law_400 rfl ?_
                  refine xif_ne hk 408 dL_law_402 (by decide) (fun h402 => ?_) (fun h402 => ?_)
                  · refine xaload_n hk dL_law_408 rfl ?_
                    refine xiload hk dL_law_409 rfl ?_
                    refine xaskL hI hk (q_peacesWith hCx ho) (fun u e => c_X8_peacesWith hfl e) bX8_peacesWith rfl kL_188 dL_law_411 rfl rfl hrk ⟨by omega, by omega⟩ (Nat.le_of_ble_eq_true rfl) (fun x2 hCx hS => ?_)
                    have hSS := hSS.tr hS
                    refine xaload_n hk dL_law_414 rfl ?_
                    refine xiload hk dL_law_415 rfl ?_
                    refine xaskL hI hk (q_peacesWith hCx hc) (fun u e => c_X8_peacesWith hfl e) bX8_peacesWith rfl kL_188 dL_law_417 rfl rfl hrk ⟨by omega, by omega⟩ (Nat.le_of_ble_eq_true rfl) (fun x2 hCx hS => ?_)
                    have hSS := hSS.tr hS
                    refine xicmp_lt hk 459 dL_law_420 (by decide) (fun h420 => ?_) (fun h420 => ?_)
                    · exact absurd ((nI_ltI (by omega) (by omega)).mp h420) (by omega)
                    · refine xaload_n hk dL_law_423 rfl ?_
                      refine xiload hk dL_law_424 rfl ?_
                      refine xiload hk dL_law_426 rfl ?_
                      obtain ⟨iA, hiA, lA, nA, hAA⟩ := q_between hCx ho hc hb
                      refine xaskL hI hk hAA (fun u e => c_X8_fewestStatementsBetween hfl e) bX8_fewestStatementsBetween rfl kL_195 dL_law_428 rfl rfl hrk ⟨by omega, by omega⟩ (Nat.le_of_ble_eq_true rfl) (fun x2 hCx hS => ?_)
                      have hSS := hSS.tr hS
                      refine xaload_n hk dL_law_431 rfl ?_
                      refine xiload hk dL_law_432 rfl ?_
                      refine xiconst (v := 1) hk dL_law_434 (by decide) ?_
                      refine xixor hk dL_law_435 ?_
                      rw [show (1 : Int32) = nI 1 from rfl, nI_xor (by omega) (by decide)]
                      refine xiload hk dL_law_436 rfl ?_
                      refine xiconst (v := 1) hk dL_law_438 (by decide) ?_
                      refine xixor hk dL_law_439 ?_
                      rw [show (1 : Int32) = nI 1 from rfl, nI_xor (by omega) (by decide)]
                      obtain ⟨iB, hiB, lB, nB, hAB⟩ := q_between hCx hc1 ho1 hr1
                      refine xaskL hI hk hAB (fun u e => c_X8_fewestStatementsBetween hfl e) bX8_fewestStatementsBetween rfl kL_195 dL_law_440 rfl rfl hrk ⟨by omega, by omega⟩ (Nat.le_of_ble_eq_true rfl) (fun x2 hCx hS => ?_)
                      have hSS := hSS.tr hS
                      refine xicmp_ne hk 459 dL_law_443 (by decide) (fun h443 => ?_) (fun h443 => ?_)
                      · exact absurd (by rw [fewest_opp hW ho hc lA nA lB nB]) h443
                      · refine xaload_n hk dL_law_446 rfl ?_
                        refine xiload hk dL_law_447 rfl ?_
                        refine xiload hk dL_law_449 rfl ?_
                        obtain ⟨iC, hiC, lC, nC, hAC⟩ := q_between hCx ho hc hb
                        refine xaskL hI hk hAC (fun u e => c_X8_fewestStatementsBetween hfl e) bX8_fewestStatementsBetween rfl kL_195 dL_law_451 rfl rfl hrk ⟨by omega, by omega⟩ (Nat.le_of_ble_eq_true rfl) (fun x2 hCx hS => ?_)
                        have hSS := hSS.tr hS
                        refine xiload hk dL_law_454 rfl ?_
                        refine xicmp_lt hk 461 dL_law_456 (by decide) (fun h456 => ?_) (fun h456 => ?_)
                        · refine xiconst (v := 0) hk dL_law_461 (by decide) ?_
                          refine xistore hk dL_law_462 (by decide) ?_
                          have loopK : ∀ (z kq : Nat) (x2 : XS), 2 * bF b - kq < z → kq ≤ 2 * bF b → Cls b m dy ca x2 → Same48 x x2 → Wx k (C0 + 54 + 90 * o + 30 + 6 * kq) (S0 + 324 + 540 * o + 180 + 36 * kq) lay a x2 464 [(0, .ref r0), (1, .ref r1), (2, .ref r2), (3, .ref (a 0)), (4, .int (nI (2 * bF b))), (5, .int v5), (6, .int v6), (7, .long v7), (9, .int (nI (nP b m))), (10, .int (nI (fb_ct (fun i => decide (lst (RB b m) i = i)) (c + 1)))), (11, .int (nI (RS b m (c + 1)))), (12, .int (nI c)), (13, .int (nI (fb_ct (RB b m c) (o + 1)))), (14, .int (nI o)), (16, .int (nI kq))] [] := by
                            intro z
                            induction z with
                            | zero => intro kq x2 h; omega
                            | succ z ihK =>
                              intro kq x2 hz hkl hCx hSS
                              refine xiload hk dL_law_464 rfl ?_
                              refine xiload hk dL_law_466 rfl ?_
                              refine xicmp_ge hk 501 dL_law_468 (by decide) (fun h468 => ?_) (fun h468 => ?_)
                              · refine xwiden (c2 := C0 + 54 + 90 * o + 90) (s2 := S0 + 324 + 540 * o + 540) (by omega) (by omega) ?_
                                refine xsub [(0, _), (1, _), (2, _), (3, _), (4, _), (5, _), (6, _), (7, _), (9, _), (10, _), (11, _), (12, _), (13, _), (14, _)] rfl ?_
                                exact C501 x2 hCx hSS
                              · have hq : kq < 2 * bF b := Nat.not_le.mp (fun u => h468 ((nI_leq (by omega) (by omega)).mpr u))
                                refine xaload_n hk dL_law_471 rfl ?_
                                refine xiload hk dL_law_472 rfl ?_
                                refine xiload hk dL_law_474 rfl ?_
                                refine xaskL hI hk (q_follows hCx hq ho) (fun u e => c_X8_follows hfl e) bX8_follows rfl kL_191 dL_law_476 rfl rfl hrk ⟨by omega, by omega⟩ (Nat.le_of_ble_eq_true rfl) (fun x2 hCx hS => ?_)
                                have hSS := hSS.tr hS
                                refine xif_eq hk 495 dL_law_479 (by decide) (fun h479 => ?_) (fun h479 => ?_)
                                · refine xiinc (v := nI (kq + 1)) hk dL_law_495 rfl (by decide) (nI_inc kq) ?_
                                  refine xgoto hk 464 dL_law_498 (by decide) ?_
                                  refine xsub [(0, _), (1, _), (2, _), (3, _), (4, _), (5, _), (6, _), (7, _), (9, _), (10, _), (11, _), (12, _), (13, _), (14, _), (16, _)] rfl ?_
                                  exact xwiden (by omega) (by omega) (ihK (kq + 1) x2 (by omega) (by omega) hCx hSS)
                                · refine xaload_n hk dL_law_482 rfl ?_
                                  refine xiload hk dL_law_483 rfl ?_
                                  refine xiload hk dL_law_485 rfl ?_
                                  refine xaskL hI hk (q_follows hCx hq hc) (fun u e => c_X8_follows hfl e) bX8_follows rfl kL_191 dL_law_487 rfl rfl hrk ⟨by omega, by omega⟩ (Nat.le_of_ble_eq_true rfl) (fun x2 hCx hS => ?_)
                                  have hSS := hSS.tr hS
                                  refine xif_ne hk 495 dL_law_490 (by decide) (fun h490 => ?_) (fun h490 => ?_)
                                  · refine xiinc (v := nI (kq + 1)) hk dL_law_495 rfl (by decide) (nI_inc kq) ?_
                                    refine xgoto hk 464 dL_law_498 (by decide) ?_
                                    refine xsub [(0, _), (1, _), (2, _), (3, _), (4, _), (5, _), (6, _), (7, _), (9, _), (10, _), (11, _), (12, _), (13, _), (14, _), (16, _)] rfl ?_
                                    exact xwiden (by omega) (by omega) (ihK (kq + 1) x2 (by omega) (by omega) hCx hSS)
                                  · have h1 : RB b m o kq = true := by
                                      rcases Bool.eq_false_or_eq_true (RB b m o kq) with h | h
                                      · exact h
                                      · exact absurd (by rw [h]; rfl) h479
                                    exact absurd h490 (by rw [RB_tr hW hb h1]; decide)
                          refine xsub [(0, _), (1, _), (2, _), (3, _), (4, _), (5, _), (6, _), (7, _), (9, _), (10, _), (11, _), (12, _), (13, _), (14, _), (16, _)] rfl ?_
                          exact xwiden (by omega) (by omega) (loopK (2 * bF b + 1) 0 x2 (by omega) (Nat.zero_le _) hCx hSS)
                        · exact absurd ((nI_ltI (by omega) (by omega)).mpr hiC) h456
                  · exact absurd h402 (by rw [hb]; decide)
                · refine xiload hk dL_law_400 rfl ?_
                  refine xif_ne hk 408 dL_law_402 (by decide) (fun h402 => ?_) (fun h402 => ?_)
                  · exact absurd (by rw [hb]; rfl) h402
                  · refine xgoto hk 501 dL_law_405 (by decide) ?_
                    refine xsub [(0, _), (1, _), (2, _), (3, _), (4, _), (5, _), (6, _), (7, _), (9, _), (10, _), (11, _), (12, _), (13, _), (14, _)] rfl ?_
                    exact xwiden (by omega) (by omega) (C501 x2 hCx hSS)
              refine xaload_n hk dL_law_312 rfl ?_
              refine xiload hk dL_law_313 rfl ?_
              refine xiload hk dL_law_315 rfl ?_
              refine xaskL hI hk (q_follows hCx ho hc) (fun u e => c_X8_follows hfl e) bX8_follows rfl kL_191 dL_law_317 rfl rfl hrk ⟨by omega, by omega⟩ (Nat.le_of_ble_eq_true rfl) (fun x2 hCx hS => ?_)
              have hSS := hSS.tr hS
              refine xistore hk dL_law_320 (by decide) ?_
              rcases Bool.eq_false_or_eq_true (RB b m c o) with hb | hb
              · rcases Bool.eq_false_or_eq_true (RB b m o c) with hb2 | hb2
                · have he : lst (RB b m) o = lst (RB b m) c := (part_eq hW hc ho).mpr (by rw [hb, hb2]; rfl)
                  refine xiload hk dL_law_322 rfl ?_
                  refine xiload hk dL_law_324 rfl ?_
                  refine xif_eq hk 333 dL_law_326 (by decide) (fun h326 => ?_) (fun h326 => ?_)
                  · exact absurd h326 (by rw [hb]; decide)
                  · refine xiconst (v := 1) hk dL_law_329 (by decide) ?_
                    refine xgoto hk 334 dL_law_330 (by decide) ?_
                    refine xiadd hk dL_law_334 ?_
                    rw [show nI (fb_ct (RB b m c) o) + 1 = nI (fb_ct (RB b m c) (o + 1)) by rw [← ct_b2i, hb]; rfl]
                    refine xistore hk dL_law_335 (by decide) ?_
                    refine xiload hk dL_law_337 rfl ?_
                    refine xaload_n hk dL_law_339 rfl ?_
                    refine xiload hk dL_law_340 rfl ?_
                    refine xiconst (v := 1) hk dL_law_342 (by decide) ?_
                    refine xixor hk dL_law_343 ?_
                    rw [show (1 : Int32) = nI 1 from rfl, nI_xor (by omega) (by decide)]
                    refine xiload hk dL_law_344 rfl ?_
                    refine xiconst (v := 1) hk dL_law_346 (by decide) ?_
                    refine xixor hk dL_law_347 ?_
                    rw [show (1 : Int32) = nI 1 from rfl, nI_xor (by omega) (by decide)]
                    refine xaskL hI hk (q_follows hCx hc1 ho1) (fun u e => c_X8_follows hfl e) bX8_follows rfl kL_191 dL_law_348 rfl rfl hrk ⟨by omega, by omega⟩ (Nat.le_of_ble_eq_true rfl) (fun x2 hCx hS => ?_)
                    have hSS := hSS.tr hS
                    refine xicmp_ne hk 398 dL_law_351 (by decide) (fun h351 => ?_) (fun h351 => ?_)
                    · exact absurd (by rw [RB_opp2 hW hc ho]) h351
                    · refine xaload_n hk dL_law_354 rfl ?_
                      refine xiload hk dL_law_355 rfl ?_
                      refine xaskL hI hk (q_partOf hCx ho) (fun u e => c_X8_partOf hfl e) bX8_partOf rfl kL_185 dL_law_357 rfl rfl hrk ⟨by omega, by omega⟩ (Nat.le_of_ble_eq_true rfl) (fun x2 hCx hS => ?_)
                      have hSS := hSS.tr hS
                      refine xaload_n hk dL_law_360 rfl ?_
                      refine xiload hk dL_law_361 rfl ?_
                      refine xaskL hI hk (q_partOf hCx hc) (fun u e => c_X8_partOf hfl e) bX8_partOf rfl kL_185 dL_law_363 rfl rfl hrk ⟨by omega, by omega⟩ (Nat.le_of_ble_eq_true rfl) (fun x2 hCx hS => ?_)
                      have hSS := hSS.tr hS
                      refine xicmp_ne hk 373 dL_law_366 (by decide) (fun h366 => ?_) (fun h366 => ?_)
                      · exact absurd (by rw [he]) h366
                      · refine xiconst (v := 1) hk dL_law_369 (by decide) ?_
                        refine xgoto hk 374 dL_law_370 (by decide) ?_
                        refine xiload hk dL_law_374 rfl ?_
                        refine xif_eq hk 394 dL_law_376 (by decide) (fun h376 => ?_) (fun h376 => ?_)
                        · exact absurd h376 (by rw [hb]; decide)
                        · refine xaload_n hk dL_law_379 rfl ?_
                          refine xiload hk dL_law_380 rfl ?_
                          refine xiload hk dL_law_382 rfl ?_
                          refine xaskL hI hk (q_follows hCx hc ho) (fun u e => c_X8_follows hfl e) bX8_follows rfl kL_191 dL_law_384 rfl rfl hrk ⟨by omega, by omega⟩ (Nat.le_of_ble_eq_true rfl) (fun x2 hCx hS => ?_)
                          have hSS := hSS.tr hS
                          refine xif_eq hk 394 dL_law_387 (by decide) (fun h387 => ?_) (fun h387 => ?_)
                          · exact absurd h387 (by rw [hb2]; decide)
                          · refine xiconst (v := 1) hk dL_law_390 (by decide) ?_
                            refine xgoto hk 395 dL_law_391 (by decide) ?_
                            refine xicmp_eq hk 400 dL_law_395 (by decide) (fun h395 => ?_) (fun h395 => ?_)
                            · refine xsub [(0, _), (1, _), (2, _), (3, _), (4, _), (5, _), (6, _), (7, _), (9, _), (10, _), (11, _), (12, _), (13, _), (14, _), (15, _)] rfl ?_
                              exact xwiden (by omega) (by omega) (C400 x2 hCx hSS)
                            · exact absurd rfl h395
                · have he : ¬ lst (RB b m) o = lst (RB b m) c := fun e => by
                    have := (part_eq hW hc ho).mp e
                    rw [hb, hb2] at this; cases this
                  refine xiload hk dL_law_322 rfl ?_
                  refine xiload hk dL_law_324 rfl ?_
                  refine xif_eq hk 333 dL_law_326 (by decide) (fun h326 => ?_) (fun h326 => ?_)
                  · exact absurd h326 (by rw [hb]; decide)
                  · refine xiconst (v := 1) hk dL_law_329 (by decide) ?_
                    refine xgoto hk 334 dL_law_330 (by decide) ?_
                    refine xiadd hk dL_law_334 ?_
                    rw [show nI (fb_ct (RB b m c) o) + 1 = nI (fb_ct (RB b m c) (o + 1)) by rw [← ct_b2i, hb]; rfl]
                    refine xistore hk dL_law_335 (by decide) ?_
                    refine xiload hk dL_law_337 rfl ?_
                    refine xaload_n hk dL_law_339 rfl ?_
                    refine xiload hk dL_law_340 rfl ?_
                    refine xiconst (v := 1) hk dL_law_342 (by decide) ?_
                    refine xixor hk dL_law_343 ?_
                    rw [show (1 : Int32) = nI 1 from rfl, nI_xor (by omega) (by decide)]
                    refine xiload hk dL_law_344 rfl ?_
                    refine xiconst (v := 1) hk dL_law_346 (by decide) ?_
                    refine xixor hk dL_law_347 ?_
                    rw [show (1 : Int32) = nI 1 from rfl, nI_xor (by omega) (by decide)]
                    refine xaskL hI hk (q_follows hCx hc1 ho1) (fun u e => c_X8_follows hfl e) bX8_follows rfl kL_191 dL_law_348 rfl rfl hrk ⟨by omega, by omega⟩ (Nat.le_of_ble_eq_true rfl) (fun x2 hCx hS => ?_)
                    have hSS := hSS.tr hS
                    refine xicmp_ne hk 398 dL_law_351 (by decide) (fun h351 => ?_) (fun h351 => ?_)
                    · exact absurd (by rw [RB_opp2 hW hc ho]) h351
                    · refine xaload_n hk dL_law_354 rfl ?_
                      refine xiload hk dL_law_355 rfl ?_
                      refine xaskL hI hk (q_partOf hCx ho) (fun u e => c_X8_partOf hfl e) bX8_partOf rfl kL_185 dL_law_357 rfl rfl hrk ⟨by omega, by omega⟩ (Nat.le_of_ble_eq_true rfl) (fun x2 hCx hS => ?_)
                      have hSS := hSS.tr hS
                      refine xaload_n hk dL_law_360 rfl ?_
                      refine xiload hk dL_law_361 rfl ?_
                      refine xaskL hI hk (q_partOf hCx hc) (fun u e => c_X8_partOf hfl e) bX8_partOf rfl kL_185 dL_law_363 rfl rfl hrk ⟨by omega, by omega⟩ (Nat.le_of_ble_eq_true rfl) (fun x2 hCx hS => ?_)
                      have hSS := hSS.tr hS
                      refine xicmp_ne hk 373 dL_law_366 (by decide) (fun h366 => ?_) (fun h366 => ?_)
                      · refine xiconst (v := 0) hk dL_law_373 (by decide) ?_
                        refine xiload hk dL_law_374 rfl ?_
                        refine xif_eq hk 394 dL_law_376 (by decide) (fun h376 => ?_) (fun h376 => ?_)
                        · exact absurd h376 (by rw [hb]; decide)
                        · refine xaload_n hk dL_law_379 rfl ?_
                          refine xiload hk dL_law_380 rfl ?_
                          refine xiload hk dL_law_382 rfl ?_
                          refine xaskL hI hk (q_follows hCx hc ho) (fun u e => c_X8_follows hfl e) bX8_follows rfl kL_191 dL_law_384 rfl rfl hrk ⟨by omega, by omega⟩ (Nat.le_of_ble_eq_true rfl) (fun x2 hCx hS => ?_)
                          have hSS := hSS.tr hS
                          refine xif_eq hk 394 dL_law_387 (by decide) (fun h387 => ?_) (fun h387 => ?_)
                          · refine xiconst (v := 0) hk dL_law_394 (by decide) ?_
                            refine xicmp_eq hk 400 dL_law_395 (by decide) (fun h395 => ?_) (fun h395 => ?_)
                            · refine xsub [(0, _), (1, _), (2, _), (3, _), (4, _), (5, _), (6, _), (7, _), (9, _), (10, _), (11, _), (12, _), (13, _), (14, _), (15, _)] rfl ?_
                              exact xwiden (by omega) (by omega) (C400 x2 hCx hSS)
                            · exact absurd rfl h395
                          · exact absurd (by rw [hb2]; rfl) h387
                      · exact absurd ((nI_inj (by omega) (by omega)).mp h366) he
              · have he : ¬ lst (RB b m) o = lst (RB b m) c := fun e => by
                  have := (part_eq hW hc ho).mp e
                  rw [hb, Bool.and_false] at this; cases this
                refine xiload hk dL_law_322 rfl ?_
                refine xiload hk dL_law_324 rfl ?_
                refine xif_eq hk 333 dL_law_326 (by decide) (fun h326 => ?_) (fun h326 => ?_)
                · refine xiconst (v := 0) hk dL_law_333 (by decide) ?_
                  refine xiadd hk dL_law_334 ?_
                  rw [show nI (fb_ct (RB b m c) o) + 0 = nI (fb_ct (RB b m c) (o + 1)) by rw [← ct_b2i, hb]; rfl]
                  refine xistore hk dL_law_335 (by decide) ?_
                  refine xiload hk dL_law_337 rfl ?_
                  refine xaload_n hk dL_law_339 rfl ?_
                  refine xiload hk dL_law_340 rfl ?_
                  refine xiconst (v := 1) hk dL_law_342 (by decide) ?_
                  refine xixor hk dL_law_343 ?_
                  rw [show (1 : Int32) = nI 1 from rfl, nI_xor (by omega) (by decide)]
                  refine xiload hk dL_law_344 rfl ?_
                  refine xiconst (v := 1) hk dL_law_346 (by decide) ?_
                  refine xixor hk dL_law_347 ?_
                  rw [show (1 : Int32) = nI 1 from rfl, nI_xor (by omega) (by decide)]
                  refine xaskL hI hk (q_follows hCx hc1 ho1) (fun u e => c_X8_follows hfl e) bX8_follows rfl kL_191 dL_law_348 rfl rfl hrk ⟨by omega, by omega⟩ (Nat.le_of_ble_eq_true rfl) (fun x2 hCx hS => ?_)
                  have hSS := hSS.tr hS
                  refine xicmp_ne hk 398 dL_law_351 (by decide) (fun h351 => ?_) (fun h351 => ?_)
                  · exact absurd (by rw [RB_opp2 hW hc ho]) h351
                  · refine xaload_n hk dL_law_354 rfl ?_
                    refine xiload hk dL_law_355 rfl ?_
                    refine xaskL hI hk (q_partOf hCx ho) (fun u e => c_X8_partOf hfl e) bX8_partOf rfl kL_185 dL_law_357 rfl rfl hrk ⟨by omega, by omega⟩ (Nat.le_of_ble_eq_true rfl) (fun x2 hCx hS => ?_)
                    have hSS := hSS.tr hS
                    refine xaload_n hk dL_law_360 rfl ?_
                    refine xiload hk dL_law_361 rfl ?_
                    refine xaskL hI hk (q_partOf hCx hc) (fun u e => c_X8_partOf hfl e) bX8_partOf rfl kL_185 dL_law_363 rfl rfl hrk ⟨by omega, by omega⟩ (Nat.le_of_ble_eq_true rfl) (fun x2 hCx hS => ?_)
                    have hSS := hSS.tr hS
                    refine xicmp_ne hk 373 dL_law_366 (by decide) (fun h366 => ?_) (fun h366 => ?_)
                    · refine xiconst (v := 0) hk dL_law_373 (by decide) ?_
                      refine xiload hk dL_law_374 rfl ?_
                      refine xif_eq hk 394 dL_law_376 (by decide) (fun h376 => ?_) (fun h376 => ?_)
                      · refine xiconst (v := 0) hk dL_law_394 (by decide) ?_
                        refine xicmp_eq hk 400 dL_law_395 (by decide) (fun h395 => ?_) (fun h395 => ?_)
                        · refine xsub [(0, _), (1, _), (2, _), (3, _), (4, _), (5, _), (6, _), (7, _), (9, _), (10, _), (11, _), (12, _), (13, _), (14, _), (15, _)] rfl ?_
                          exact xwiden (by omega) (by omega) (C400 x2 hCx hSS)
                        · exact absurd rfl h395
                      · exact absurd (by rw [hb]; rfl) h376
                    · exact absurd ((nI_inj (by omega) (by omega)).mp h366) he
                · exact absurd (by rw [hb]; rfl) h326
        have C302 : ∀ x2, Cls b m dy ca x2 → Same48 x x2 → Wx k (C0 + 54) (S0 + 324) lay a x2 302 [(0, .ref r0), (1, .ref r1), (2, .ref r2), (3, .ref (a 0)), (4, .int (nI (2 * bF b))), (5, .int v5), (6, .int v6), (7, .long v7), (9, .int (nI (nP b m))), (10, .int (nI (fb_ct (fun i => decide (lst (RB b m) i = i)) (c + 1)))), (11, .int (nI (RS b m (c + 1)))), (12, .int (nI c)), (13, .int 0)] [] := by
          intro x2 hCx hSS
          refine xiconst (v := 0) hk dL_law_302 (by decide) ?_
          refine xistore hk dL_law_303 (by decide) ?_
          refine xsub [(0, _), (1, _), (2, _), (3, _), (4, _), (5, _), (6, _), (7, _), (9, _), (10, _), (11, _), (12, _), (13, _), (14, _)] rfl ?_
          exact xwiden (by omega) (by omega) (loopO (2 * bF b + 1) 0 x2 (by omega) (Nat.zero_le _) hCx hSS)
        have C158 : ∀ x2, Cls b m dy ca x2 → Same48 x x2 → Wx k (C0 + 6) (S0 + 36) lay a x2 158 [(0, .ref r0), (1, .ref r1), (2, .ref r2), (3, .ref (a 0)), (4, .int (nI (2 * bF b))), (5, .int v5), (6, .int v6), (7, .long v7), (9, .int (nI (nP b m))), (10, .int (nI (fb_ct (fun i => decide (lst (RB b m) i = i)) (c + 1)))), (11, .int (nI (RS b m (c + 1)))), (12, .int (nI c)), (13, .int 0)] [] := by
          intro x2 hCx hSS
          refine xaload_n hk dL_law_158 rfl ?_
          refine xiload hk dL_law_159 rfl ?_
          refine xiload hk dL_law_161 rfl ?_
          refine xaskL hI hk (q_follows hCx hc hc) (fun u e => c_X8_follows hfl e) bX8_follows rfl kL_191 dL_law_163 rfl rfl hrk ⟨by omega, by omega⟩ (Nat.le_of_ble_eq_true rfl) (fun x2 hCx hS => ?_)
          have hSS := hSS.tr hS
          refine xif_eq hk 300 dL_law_166 (by decide) (fun h166 => ?_) (fun h166 => ?_)
          · exact absurd h166 (by rw [RB_refl]; decide)
          · refine xaload_n hk dL_law_169 rfl ?_
            refine xiload hk dL_law_170 rfl ?_
            refine xiload hk dL_law_172 rfl ?_
            obtain ⟨iA, hiA, lA, nA, hAA⟩ := q_between hCx hc hc (RB_refl c)
            refine xaskL hI hk hAA (fun u e => c_X8_fewestStatementsBetween hfl e) bX8_fewestStatementsBetween rfl kL_195 dL_law_174 rfl rfl hrk ⟨by omega, by omega⟩ (Nat.le_of_ble_eq_true rfl) (fun x2 hCx hS => ?_)
            have hSS := hSS.tr hS
            have hi0 : iA = 0 := by
              apply Classical.byContradiction
              intro h
              have := nA 0 (by omega)
              rw [lv_zero.mpr rfl] at this; cases this
            refine xif_ne hk 300 dL_law_177 (by decide) (fun h177 => ?_) (fun h177 => ?_)
            · exact absurd (by rw [hi0]; rfl) h177
            · refine xaload_n hk dL_law_180 rfl ?_
              refine xiload hk dL_law_181 rfl ?_
              refine xaskL hI hk (q_partSize hCx hc) (fun u e => c_X8_partSize hfl e) bX8_partSize rfl kL_198 dL_law_183 rfl rfl hrk ⟨by omega, by omega⟩ (Nat.le_of_ble_eq_true rfl) (fun x2 hCx hS => ?_)
              have hSS := hSS.tr hS
              refine xaload_n hk dL_law_186 rfl ?_
              refine xiload hk dL_law_187 rfl ?_
              refine xiconst (v := 1) hk dL_law_189 (by decide) ?_
              refine xixor hk dL_law_190 ?_
              rw [show (1 : Int32) = nI 1 from rfl, nI_xor (by omega) (by decide)]
              refine xaskL hI hk (q_partSize hCx hc1) (fun u e => c_X8_partSize hfl e) bX8_partSize rfl kL_198 dL_law_191 rfl rfl hrk ⟨by omega, by omega⟩ (Nat.le_of_ble_eq_true rfl) (fun x2 hCx hS => ?_)
              have hSS := hSS.tr hS
              refine xicmp_ne hk 300 dL_law_194 (by decide) (fun h194 => ?_) (fun h194 => ?_)
              · exact absurd (by rw [size_opp hW hc]) h194
              · refine xaload_n hk dL_law_197 rfl ?_
                refine xaload_n hk dL_law_198 rfl ?_
                refine xiload hk dL_law_199 rfl ?_
                refine xaskL hI hk (q_partOf hCx hc) (fun u e => c_X8_partOf hfl e) bX8_partOf rfl kL_185 dL_law_201 rfl rfl hrk ⟨by omega, by omega⟩ (Nat.le_of_ble_eq_true rfl) (fun x2 hCx hS => ?_)
                have hSS := hSS.tr hS
                refine xaskL hI hk (q_partOf hCx (c := lst (RB b m) c) (by omega)) (fun u e => c_X8_partOf hfl e) bX8_partOf rfl kL_185 dL_law_204 rfl rfl hrk ⟨by omega, by omega⟩ (Nat.le_of_ble_eq_true rfl) (fun x2 hCx hS => ?_)
                have hSS := hSS.tr hS
                refine xaload_n hk dL_law_207 rfl ?_
                refine xiload hk dL_law_208 rfl ?_
                refine xaskL hI hk (q_partOf hCx hc) (fun u e => c_X8_partOf hfl e) bX8_partOf rfl kL_185 dL_law_210 rfl rfl hrk ⟨by omega, by omega⟩ (Nat.le_of_ble_eq_true rfl) (fun x2 hCx hS => ?_)
                have hSS := hSS.tr hS
                refine xicmp_ne hk 300 dL_law_213 (by decide) (fun h213 => ?_) (fun h213 => ?_)
                · exact absurd (by rw [part_self hW hc]) h213
                · refine xaload_n hk dL_law_216 rfl ?_
                  refine xiload hk dL_law_217 rfl ?_
                  refine xaskL hI hk (q_partOf hCx hc) (fun u e => c_X8_partOf hfl e) bX8_partOf rfl kL_185 dL_law_219 rfl rfl hrk ⟨by omega, by omega⟩ (Nat.le_of_ble_eq_true rfl) (fun x2 hCx hS => ?_)
                  have hSS := hSS.tr hS
                  refine xiload hk dL_law_222 rfl ?_
                  refine xicmp_gt hk 300 dL_law_224 (by decide) (fun h224 => ?_) (fun h224 => ?_)
                  · exact absurd ((nI_ltI (by omega) (by omega)).mp h224) (by omega)
                  · refine xaload_n hk dL_law_227 rfl ?_
                    refine xiload hk dL_law_228 rfl ?_
                    refine xaskL hI hk (q_peacesWith hCx hc) (fun u e => c_X8_peacesWith hfl e) bX8_peacesWith rfl kL_188 dL_law_230 rfl rfl hrk ⟨by omega, by omega⟩ (Nat.le_of_ble_eq_true rfl) (fun x2 hCx hS => ?_)
                    have hSS := hSS.tr hS
                    refine xaload_n hk dL_law_233 rfl ?_
                    refine xiload hk dL_law_234 rfl ?_
                    refine xiconst (v := 1) hk dL_law_236 (by decide) ?_
                    refine xixor hk dL_law_237 ?_
                    rw [show (1 : Int32) = nI 1 from rfl, nI_xor (by omega) (by decide)]
                    refine xaskL hI hk (q_peacesWith hCx hc1) (fun u e => c_X8_peacesWith hfl e) bX8_peacesWith rfl kL_188 dL_law_238 rfl rfl hrk ⟨by omega, by omega⟩ (Nat.le_of_ble_eq_true rfl) (fun x2 hCx hS => ?_)
                    have hSS := hSS.tr hS
                    refine xiadd hk dL_law_241 ?_
                    rw [nI_addN, nW_opp hW m hc]
                    refine xiload hk dL_law_242 rfl ?_
                    refine xicmp_ne hk 300 dL_law_244 (by decide) (fun h244 => ?_) (fun h244 => ?_)
                    · exact absurd rfl h244
                    · refine xaload_n hk dL_law_247 rfl ?_
                      refine xiload hk dL_law_248 rfl ?_
                      refine xaskL hI hk (q_isPossible hCx hc) (fun u e => c_X8_isPossible hfl e) bX8_isPossible rfl kL_201 dL_law_250 rfl rfl hrk ⟨by omega, by omega⟩ (Nat.le_of_ble_eq_true rfl) (fun x2 hCx hS => ?_)
                      have hSS := hSS.tr hS
                      refine xaload_n hk dL_law_253 rfl ?_
                      refine xiload hk dL_law_254 rfl ?_
                      refine xaskL hI hk (q_peacesWith hCx hc) (fun u e => c_X8_peacesWith hfl e) bX8_peacesWith rfl kL_188 dL_law_256 rfl rfl hrk ⟨by omega, by omega⟩ (Nat.le_of_ble_eq_true rfl) (fun x2 hCx hS => ?_)
                      have hSS := hSS.tr hS
                      refine xif_le hk 266 dL_law_259 (by decide) (fun h259 => ?_) (fun h259 => ?_)
                      · have hd : decide (0 < nW b m c) = false := decide_eq_false (by have := (nz_le (by omega)).mp h259; omega)
                        refine xiconst (v := 0) hk dL_law_266 (by decide) ?_
                        refine xicmp_ne hk 300 dL_law_267 (by decide) (fun h267 => ?_) (fun h267 => ?_)
                        · exact absurd (by rw [hd]; rfl) h267
                        · refine xiload hk dL_law_270 rfl ?_
                          refine xif_le hk 302 dL_law_272 (by decide) (fun h272 => ?_) (fun h272 => ?_)
                          · refine xsub [(0, _), (1, _), (2, _), (3, _), (4, _), (5, _), (6, _), (7, _), (9, _), (10, _), (11, _), (12, _), (13, _)] rfl ?_
                            exact xwiden (by omega) (by omega) (C302 x2 hCx hSS)
                          · have hpp : 0 < nP b m := by
                              have : ¬ nP b m = 0 := fun e => h272 (by rw [e]; decide)
                              omega
                            refine xaload_n hk dL_law_275 rfl ?_
                            refine xiload hk dL_law_276 rfl ?_
                            refine xaskL hI hk (q_isSettled hCx (by omega) hc) (fun u e => c_X8_isSettled hfl e) bX8_isSettled rfl kL_205 dL_law_278 rfl rfl hrk ⟨by omega, by omega⟩ (Nat.le_of_ble_eq_true rfl) (fun x2 hCx hS => ?_)
                            have hSS := hSS.tr hS
                            refine xaload_n hk dL_law_281 rfl ?_
                            refine xiload hk dL_law_282 rfl ?_
                            refine xaskL hI hk (q_peacesWith hCx hc) (fun u e => c_X8_peacesWith hfl e) bX8_peacesWith rfl kL_188 dL_law_284 rfl rfl hrk ⟨by omega, by omega⟩ (Nat.le_of_ble_eq_true rfl) (fun x2 hCx hS => ?_)
                            have hSS := hSS.tr hS
                            refine xiload hk dL_law_287 rfl ?_
                            refine xicmp_ne hk 296 dL_law_289 (by decide) (fun h289 => ?_) (fun h289 => ?_)
                            · have hd2 : decide (nW b m c = nP b m) = false := decide_eq_false (fun e => h289 (by rw [e]))
                              refine xiconst (v := 0) hk dL_law_296 (by decide) ?_
                              refine xicmp_eq hk 302 dL_law_297 (by decide) (fun h297 => ?_) (fun h297 => ?_)
                              · refine xsub [(0, _), (1, _), (2, _), (3, _), (4, _), (5, _), (6, _), (7, _), (9, _), (10, _), (11, _), (12, _), (13, _)] rfl ?_
                                exact xwiden (by omega) (by omega) (C302 x2 hCx hSS)
                              · exact absurd (by rw [hd2]; rfl) h297
                            · have hd2 : decide (nW b m c = nP b m) = true := decide_eq_true ((nI_inj (by omega) (by omega)).mp h289)
                              refine xiconst (v := 1) hk dL_law_292 (by decide) ?_
                              refine xgoto hk 297 dL_law_293 (by decide) ?_
                              refine xicmp_eq hk 302 dL_law_297 (by decide) (fun h297 => ?_) (fun h297 => ?_)
                              · refine xsub [(0, _), (1, _), (2, _), (3, _), (4, _), (5, _), (6, _), (7, _), (9, _), (10, _), (11, _), (12, _), (13, _)] rfl ?_
                                exact xwiden (by omega) (by omega) (C302 x2 hCx hSS)
                              · exact absurd (by rw [hd2]; rfl) h297
                      · have hd : decide (0 < nW b m c) = true := decide_eq_true (by
                          have : ¬ nW b m c = 0 := fun e => h259 (by rw [e]; decide)
                          omega)
                        refine xiconst (v := 1) hk dL_law_262 (by decide) ?_
                        refine xgoto hk 267 dL_law_263 (by decide) ?_
                        refine xicmp_ne hk 300 dL_law_267 (by decide) (fun h267 => ?_) (fun h267 => ?_)
                        · exact absurd (by rw [hd]; rfl) h267
                        · refine xiload hk dL_law_270 rfl ?_
                          refine xif_le hk 302 dL_law_272 (by decide) (fun h272 => ?_) (fun h272 => ?_)
                          · refine xsub [(0, _), (1, _), (2, _), (3, _), (4, _), (5, _), (6, _), (7, _), (9, _), (10, _), (11, _), (12, _), (13, _)] rfl ?_
                            exact xwiden (by omega) (by omega) (C302 x2 hCx hSS)
                          · have hpp : 0 < nP b m := by
                              have : ¬ nP b m = 0 := fun e => h272 (by rw [e]; decide)
                              omega
                            refine xaload_n hk dL_law_275 rfl ?_
                            refine xiload hk dL_law_276 rfl ?_
                            refine xaskL hI hk (q_isSettled hCx (by omega) hc) (fun u e => c_X8_isSettled hfl e) bX8_isSettled rfl kL_205 dL_law_278 rfl rfl hrk ⟨by omega, by omega⟩ (Nat.le_of_ble_eq_true rfl) (fun x2 hCx hS => ?_)
                            have hSS := hSS.tr hS
                            refine xaload_n hk dL_law_281 rfl ?_
                            refine xiload hk dL_law_282 rfl ?_
                            refine xaskL hI hk (q_peacesWith hCx hc) (fun u e => c_X8_peacesWith hfl e) bX8_peacesWith rfl kL_188 dL_law_284 rfl rfl hrk ⟨by omega, by omega⟩ (Nat.le_of_ble_eq_true rfl) (fun x2 hCx hS => ?_)
                            have hSS := hSS.tr hS
                            refine xiload hk dL_law_287 rfl ?_
                            refine xicmp_ne hk 296 dL_law_289 (by decide) (fun h289 => ?_) (fun h289 => ?_)
                            · have hd2 : decide (nW b m c = nP b m) = false := decide_eq_false (fun e => h289 (by rw [e]))
                              refine xiconst (v := 0) hk dL_law_296 (by decide) ?_
                              refine xicmp_eq hk 302 dL_law_297 (by decide) (fun h297 => ?_) (fun h297 => ?_)
                              · refine xsub [(0, _), (1, _), (2, _), (3, _), (4, _), (5, _), (6, _), (7, _), (9, _), (10, _), (11, _), (12, _), (13, _)] rfl ?_
                                exact xwiden (by omega) (by omega) (C302 x2 hCx hSS)
                              · exact absurd (by rw [hd2]; rfl) h297
                            · have hd2 : decide (nW b m c = nP b m) = true := decide_eq_true ((nI_inj (by omega) (by omega)).mp h289)
                              refine xiconst (v := 1) hk dL_law_292 (by decide) ?_
                              refine xgoto hk 297 dL_law_293 (by decide) ?_
                              refine xicmp_eq hk 302 dL_law_297 (by decide) (fun h297 => ?_) (fun h297 => ?_)
                              · refine xsub [(0, _), (1, _), (2, _), (3, _), (4, _), (5, _), (6, _), (7, _), (9, _), (10, _), (11, _), (12, _), (13, _)] rfl ?_
                                exact xwiden (by omega) (by omega) (C302 x2 hCx hSS)
                              · exact absurd (by rw [hd2]; rfl) h297
        refine xiconst (v := 0) hk dL_law_112 (by decide) ?_
        refine xistore hk dL_law_113 (by decide) ?_
        refine xiload hk dL_law_115 rfl ?_
        refine xaload_n hk dL_law_117 rfl ?_
        refine xiload hk dL_law_118 rfl ?_
        refine xaskL hI hk (q_partOf hCx hc) (fun u e => c_X8_partOf hfl e) bX8_partOf rfl kL_185 dL_law_120 rfl rfl hrk ⟨by omega, by omega⟩ (Nat.le_of_ble_eq_true rfl) (fun x2 hCx hS => ?_)
        have hSS := hSS.tr hS
        refine xiload hk dL_law_123 rfl ?_
        refine xicmp_ne hk 132 dL_law_125 (by decide) (fun h125 => ?_) (fun h125 => ?_)
        · have hb : decide (lst (RB b m) c = c) = false := decide_eq_false (fun e => h125 (by rw [e]))
          refine xiconst (v := 0) hk dL_law_132 (by decide) ?_
          refine xiadd hk dL_law_133 ?_
          rw [show nI (fb_ct (fun i => decide (lst (RB b m) i = i)) c) + 0 = nI (fb_ct (fun i => decide (lst (RB b m) i = i)) (c + 1)) by rw [← ct_b2i]; show _ = _ + b2i (decide (lst (RB b m) c = c)); rw [hb]; rfl]
          refine xistore hk dL_law_134 (by decide) ?_
          refine xiload hk dL_law_136 rfl ?_
          refine xiload hk dL_law_138 rfl ?_
          refine xiconst (v := 2) hk dL_law_140 (by decide) ?_
          refine xirem hk dL_law_141 (by decide) ?_
          rw [show (2 : Int32) = nI 2 from rfl, rem_nI (by omega) (by decide) (by decide)]
          refine xif_ne hk 154 dL_law_142 (by decide) (fun h142 => ?_) (fun h142 => ?_)
          · have ho : ¬ c % 2 = 0 := fun e => h142 (by rw [e]; rfl)
            refine xiconst (v := 0) hk dL_law_154 (by decide) ?_
            refine xiadd hk dL_law_155 ?_
            rw [show nI (RS b m c) + 0 = nI (RS b m (c + 1)) by unfold RS; rw [fb_sm_succ, if_neg ho, ← nI_addN]; try rfl]
            refine xistore hk dL_law_156 (by decide) ?_
            refine xsub [(0, _), (1, _), (2, _), (3, _), (4, _), (5, _), (6, _), (7, _), (9, _), (10, _), (11, _), (12, _), (13, _)] rfl ?_
            exact xwiden (by omega) (by omega) (C158 x2 hCx hSS)
          · have ho : c % 2 = 0 := (nz_eq (by omega)).mp h142
            refine xaload_n hk dL_law_145 rfl ?_
            refine xiload hk dL_law_146 rfl ?_
            refine xaskL hI hk (q_peacesWith hCx hc) (fun u e => c_X8_peacesWith hfl e) bX8_peacesWith rfl kL_188 dL_law_148 rfl rfl hrk ⟨by omega, by omega⟩ (Nat.le_of_ble_eq_true rfl) (fun x2 hCx hS => ?_)
            have hSS := hSS.tr hS
            refine xgoto hk 155 dL_law_151 (by decide) ?_
            refine xiadd hk dL_law_155 ?_
            rw [show nI (RS b m c) + nI (nW b m c) = nI (RS b m (c + 1)) by unfold RS; rw [fb_sm_succ, if_pos ho, ← nI_addN]; try rfl]
            refine xistore hk dL_law_156 (by decide) ?_
            refine xsub [(0, _), (1, _), (2, _), (3, _), (4, _), (5, _), (6, _), (7, _), (9, _), (10, _), (11, _), (12, _), (13, _)] rfl ?_
            exact xwiden (by omega) (by omega) (C158 x2 hCx hSS)
        · have hb : decide (lst (RB b m) c = c) = true := decide_eq_true ((nI_inj (by omega) (by omega)).mp h125)
          refine xiconst (v := 1) hk dL_law_128 (by decide) ?_
          refine xgoto hk 133 dL_law_129 (by decide) ?_
          refine xiadd hk dL_law_133 ?_
          rw [show nI (fb_ct (fun i => decide (lst (RB b m) i = i)) c) + 1 = nI (fb_ct (fun i => decide (lst (RB b m) i = i)) (c + 1)) by rw [← ct_b2i]; show _ = _ + b2i (decide (lst (RB b m) c = c)); rw [hb]; rfl]
          refine xistore hk dL_law_134 (by decide) ?_
          refine xiload hk dL_law_136 rfl ?_
          refine xiload hk dL_law_138 rfl ?_
          refine xiconst (v := 2) hk dL_law_140 (by decide) ?_
          refine xirem hk dL_law_141 (by decide) ?_
          rw [show (2 : Int32) = nI 2 from rfl, rem_nI (by omega) (by decide) (by decide)]
          refine xif_ne hk 154 dL_law_142 (by decide) (fun h142 => ?_) (fun h142 => ?_)
          · have ho : ¬ c % 2 = 0 := fun e => h142 (by rw [e]; rfl)
            refine xiconst (v := 0) hk dL_law_154 (by decide) ?_
            refine xiadd hk dL_law_155 ?_
            rw [show nI (RS b m c) + 0 = nI (RS b m (c + 1)) by unfold RS; rw [fb_sm_succ, if_neg ho, ← nI_addN]; try rfl]
            refine xistore hk dL_law_156 (by decide) ?_
            refine xsub [(0, _), (1, _), (2, _), (3, _), (4, _), (5, _), (6, _), (7, _), (9, _), (10, _), (11, _), (12, _), (13, _)] rfl ?_
            exact xwiden (by omega) (by omega) (C158 x2 hCx hSS)
          · have ho : c % 2 = 0 := (nz_eq (by omega)).mp h142
            refine xaload_n hk dL_law_145 rfl ?_
            refine xiload hk dL_law_146 rfl ?_
            refine xaskL hI hk (q_peacesWith hCx hc) (fun u e => c_X8_peacesWith hfl e) bX8_peacesWith rfl kL_188 dL_law_148 rfl rfl hrk ⟨by omega, by omega⟩ (Nat.le_of_ble_eq_true rfl) (fun x2 hCx hS => ?_)
            have hSS := hSS.tr hS
            refine xgoto hk 155 dL_law_151 (by decide) ?_
            refine xiadd hk dL_law_155 ?_
            rw [show nI (RS b m c) + nI (nW b m c) = nI (RS b m (c + 1)) by unfold RS; rw [fb_sm_succ, if_pos ho, ← nI_addN]; try rfl]
            refine xistore hk dL_law_156 (by decide) ?_
            refine xsub [(0, _), (1, _), (2, _), (3, _), (4, _), (5, _), (6, _), (7, _), (9, _), (10, _), (11, _), (12, _), (13, _)] rfl ?_
            exact xwiden (by omega) (by omega) (C158 x2 hCx hSS)
  refine xiconst (v := 0) hk dL_law_96 (by decide) ?_
  refine xistore hk dL_law_97 (by decide) ?_
  refine xiconst (v := 0) hk dL_law_99 (by decide) ?_
  refine xistore hk dL_law_100 (by decide) ?_
  refine xiconst (v := 0) hk dL_law_102 (by decide) ?_
  refine xistore hk dL_law_103 (by decide) ?_
  refine xsub [(0, _), (1, _), (2, _), (3, _), (4, _), (5, _), (6, _), (7, _), (9, _), (10, _), (11, _), (12, _)] rfl ?_
  exact xwiden (by omega) (by omega) (loopC (2 * bF b + 1) 0 x (by omega) (Nat.zero_le _) hCx (fun _ _ _ => ⟨rfl, rfl⟩))
