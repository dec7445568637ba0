theorem kX7_22 : Cond.fieldLink RX7 22 "FeudBook$Web" "book" "LFeudBook$Book;" ∈ GW := gw_mem 242 (by decide +kernel) (by decide +kernel)
theorem kX7_56 : Cond.fieldLinkNest RX7 56 "FeudBook$Book" "statements" "I" "FeudBook" ∈ NW := nw_mem 155 (by decide +kernel) rfl
theorem kX7_59 : Cond.methodLink RX7 59 yX0_left ∈ GW := gw_mem 566 (by decide +kernel) (by decide +kernel)
theorem bX0_left : CBv yX0_left cX0_left 2 (some .int) 1 := ⟨⟨gw_mem 569 (by decide +kernel) (by decide +kernel), gw_mem 16 (by decide +kernel) (by decide +kernel), by decide +kernel, by decide⟩, gw_mem 567 (by decide +kernel) (by decide +kernel), gw_mem 568 (by decide +kernel) (by decide +kernel)⟩
theorem kX7_62 : Cond.methodLink RX7 62 yX0_right ∈ GW := gw_mem 570 (by decide +kernel) (by decide +kernel)
theorem bX0_right : CBv yX0_right cX0_right 2 (some .int) 1 := ⟨⟨gw_mem 573 (by decide +kernel) (by decide +kernel), gw_mem 16 (by decide +kernel) (by decide +kernel), by decide +kernel, by decide⟩, gw_mem 571 (by decide +kernel) (by decide +kernel), gw_mem 572 (by decide +kernel) (by decide +kernel)⟩
theorem kX7_65 : Cond.methodLink RX7 65 yX7_addStep ∈ GW := gw_mem 574 (by decide +kernel) (by decide +kernel)
theorem bX7_addStep : CBv yX7_addStep cX7_addStep 3 none 2 := ⟨⟨gw_mem 577 (by decide +kernel) (by decide +kernel), gw_mem 18 (by decide +kernel) (by decide +kernel), by decide +kernel, by decide⟩, gw_mem 576 (by decide +kernel) (by decide +kernel), gw_sel 8 (by decide +kernel) (by decide +kernel)⟩
theorem kX7_30 : Cond.methodLink RX7 30 yX7_together ∈ GW := gw_mem 588 (by decide +kernel) (by decide +kernel)
theorem bX7_together : CBv yX7_together cX7_together 4 (some .int) 1 := ⟨⟨gw_mem 591 (by decide +kernel) (by decide +kernel), gw_mem 18 (by decide +kernel) (by decide +kernel), by decide +kernel, by decide⟩, gw_mem 590 (by decide +kernel) (by decide +kernel), gw_sel 10 (by decide +kernel) (by decide +kernel)⟩
theorem kX7_72 : Cond.methodLinkNest RX7 72 yX8_lowest "FeudBook" ∈ NW := nw_mem 592 (by decide +kernel) rfl
theorem bX8_lowest : CBs yX8_lowest cX8_lowest 2 (some .int) 1 := ⟨⟨gw_mem 594 (by decide +kernel) (by decide +kernel), gw_mem 13 (by decide +kernel) (by decide +kernel), by decide +kernel, by decide⟩, gw_mem 593 (by decide +kernel) (by decide +kernel)⟩
theorem kX7_34 : Cond.fieldLink RX7 34 "FeudBook$Web" "partCount" "I" ∈ GW := gw_mem 246 (by decide +kernel) (by decide +kernel)
theorem kX7_69 : Cond.methodLink RX7 69 yX7_close ∈ GW := gw_mem 581 (by decide +kernel) (by decide +kernel)
theorem bX7_close : CBv yX7_close cX7_close 4 none 0 := ⟨⟨gw_mem 584 (by decide +kernel) (by decide +kernel), gw_mem 18 (by decide +kernel) (by decide +kernel), by decide +kernel, by decide⟩, gw_mem 583 (by decide +kernel) (by decide +kernel), gw_sel 9 (by decide +kernel) (by decide +kernel)⟩
theorem kX7_51 : Cond.fieldLinkNest RX7 51 "FeudBook$Book" "families" "I" "FeudBook" ∈ NW := nw_mem 150 (by decide +kernel) rfl
theorem kX7_26 : Cond.methodLink RX7 26 yX7_look ∈ GW := gw_mem 561 (by decide +kernel) (by decide +kernel)
theorem bX7_look : CBv yX7_look cX7_look 3 none 1 := ⟨⟨gw_mem 564 (by decide +kernel) (by decide +kernel), gw_mem 18 (by decide +kernel) (by decide +kernel), by decide +kernel, by decide⟩, gw_mem 563 (by decide +kernel) (by decide +kernel), gw_sel 7 (by decide +kernel) (by decide +kernel)⟩
theorem kX7_45 : Cond.methodLink RX7 45 yX7_afterOneStep ∈ GW := gw_mem 607 (by decide +kernel) (by decide +kernel)
theorem bX7_afterOneStep : CBv yX7_afterOneStep cX7_afterOneStep 4 (some .int) 1 := ⟨⟨gw_mem 610 (by decide +kernel) (by decide +kernel), gw_mem 18 (by decide +kernel) (by decide +kernel), by decide +kernel, by decide⟩, gw_mem 609 (by decide +kernel) (by decide +kernel), gw_sel 11 (by decide +kernel) (by decide +kernel)⟩
set_option maxHeartbeats 4000000 in
set_option maxRecDepth 100000 in
theorem c_X7_look {g : Gx} {a : Nat → Nat} {x : XS} {s : Int32} : Mx g yX7_look cX7_look 3 none 3 0 0 LF a x [.ref (a 37), .int s] (pr none (webLook s x)) := by
  refine Mx_of (by decide +kernel) (Nat.le_of_ble_eq_true rfl) ?_
  intro k hk he hg
  subst hg

  have l3 : ∀ (C : Int32) (z : XS), z.1 37 3 = C → (∀ y : XS, y = itP zerF (min C.toNatClampNeg 20) z → Wx k 0 0 LF a y 59 [(0, .ref (a 37)), (1, .int s)] []) → ∀ (n j : Nat) (v : Int32) (y : XS), min C.toNatClampNeg 20 - j < n → v = nI j → j ≤ min C.toNatClampNeg 20 → y = itP zerF j z → y.1 37 3 = C → Wx k 0 0 LF a y 29 [(0, .ref (a 37)), (1, .int s), (2, .int v)] [] := by
    intro C z hz kk n
    induction n with
    | zero => intros; omega
    | succ n ih =>
      intro j v y hn hv hj hy hc
      subst hv
      refine xiload_n hk dX7_look_29 rfl ?_
      refine xaload_n hk dX7_look_30 rfl ?_
      refine xgetI (ci := 7) (f := 3) hk dX7_look_31 ⟨rfl, by decide, _, rfl, rfl⟩ kX7_48 ?_
      refine xicmp_ge hk 59 dX7_look_34 (by decide) (fun h34 => ?_) (fun h34 => ?_)
      · rw [hc, le_nI (by omega)] at h34
        refine xsub [(0, _), (1, _)] rfl ?_
        exact kk _ (by rw [hy, show j = min C.toNatClampNeg 20 by omega])
      · rw [hc, le_nI (by omega)] at h34
        refine xiload_n hk dX7_look_37 rfl ?_
        refine xaload_n hk dX7_look_38 rfl ?_
        refine xgetR (ci := 7) (f := 1) hk dX7_look_39 ⟨rfl, by decide, _, rfl, rfl⟩ kX7_9 ?_
        refine xalen (v := nI _) hk dX7_look_42 rfl (by decide) rfl ?_
        refine xicmp_ge hk 59 dX7_look_43 (by decide) (fun h43 => ?_) (fun h43 => ?_)
        · rw [nI_leI (by omega) (by omega)] at h43
          refine xsub [(0, _), (1, _)] rfl ?_
          exact kk _ (by rw [hy, show j = min C.toNatClampNeg 20 by omega])
        · rw [nI_leI (by omega) (by omega)] at h43
          refine xaload_n hk dX7_look_46 rfl ?_
          refine xgetR (ci := 7) (f := 1) hk dX7_look_47 ⟨rfl, by decide, _, rfl, rfl⟩ kX7_9 ?_
          refine xiload_n hk dX7_look_50 rfl ?_
          refine xiconst (v := 0) hk dX7_look_51 (by decide) ?_
          refine xiast hk dX7_look_52 rfl (vp_in_nI (by omega) (by decide)) ?_
          rw [nI_clamp (by omega)]
          refine xiinc hk dX7_look_53 rfl (by decide) rfl ?_
          refine xgoto hk 29 dX7_look_56 (by decide) ?_
          exact ih (j + 1) _ _ (by omega) (nI_inc j) (by omega) (by subst hy; rfl) hc
  have l4 : ∀ (S : Int32) (z : XS), (∀ y : XS, y = itP (stmF s) S.toNatClampNeg z → Wx k 0 0 LF a y 130 [(0, .ref (a 37)), (1, .int s)] []) → ∀ (n j : Nat) (v : Int32) (y : XS), S.toNatClampNeg - j < n → v = nI j → j ≤ S.toNatClampNeg → y = itP (stmF s) j z → y.1 21 1 = S → Wx k 0 0 LF a y 61 [(0, .ref (a 37)), (1, .int s), (2, .int v)] [] := by
    intro S z kk n
    have hS := cl_lt S
    induction n with
    | zero => intros; omega
    | succ n ih =>
      intro j v y hn hv hj hy hc
      subst hv
      refine xiload_n hk dX7_look_61 rfl ?_
      refine xaload_n hk dX7_look_62 rfl ?_
      refine xgetR (ci := 7) (f := 0) hk dX7_look_63 ⟨rfl, by decide, _, rfl, rfl⟩ kX7_22 ?_
      refine xgetNI (ci := 0) (f := 1) hk dX7_look_66 ⟨rfl, by decide, _, rfl, rfl⟩ kX7_56 ?_
      refine xicmp_ge hk 130 dX7_look_69 (by decide) (fun h69 => ?_) (fun h69 => ?_)
      · rw [hc, le_nI (by omega)] at h69
        refine xsub [(0, _), (1, _)] rfl ?_
        exact kk _ (by rw [hy, show j = S.toNatClampNeg by omega])
      · rw [hc, le_nI (by omega)] at h69
        refine xiload_n hk dX7_look_72 rfl ?_
        refine xiload_n hk dX7_look_73 rfl ?_
        refine xcallSN hk c_X8_has bX8_has kX7_41 dX7_look_74 rfl rfl (by decide) ⟨by decide, by decide⟩ (Nat.le_of_ble_eq_true rfl) (det ?_)
        refine xif_eq hk 124 dX7_look_77 (by decide) (fun h77 => ?_) (fun h77 => ?_)
        · rw [b2i_0] at h77
          refine xiinc hk dX7_look_124 rfl (by decide) rfl ?_
          refine xgoto hk 61 dX7_look_127 (by decide) ?_
          exact ih (j + 1) _ _ (by omega) (nI_inc j) (by omega) (by subst hy; simp [itP, stmF, *]) (by first | exact hc | (simp only [addStep_1 (show (21 : Nat) ≠ 38 by decide)]; exact hc))
        · rw [b2i_t] at h77
          refine xaload_n hk dX7_look_80 rfl ?_
          refine xaload_n hk dX7_look_81 rfl ?_
          refine xgetR (ci := 7) (f := 0) hk dX7_look_82 ⟨rfl, by decide, _, rfl, rfl⟩ kX7_22 ?_
          refine xiload_n hk dX7_look_85 rfl ?_
          refine xcallV hk c_X0_left bX0_left kX7_59 dX7_look_86 rfl ⟨_, _, _, _, rfl, rfl⟩ rfl (by decide) ⟨by decide, by decide⟩ (Nat.le_of_ble_eq_true rfl) (det ?_)
          refine xiconst (v := 1) hk dX7_look_89 (by decide) ?_
          refine xixor hk dX7_look_90 ?_
          refine xaload_n hk dX7_look_91 rfl ?_
          refine xgetR (ci := 7) (f := 0) hk dX7_look_92 ⟨rfl, by decide, _, rfl, rfl⟩ kX7_22 ?_
          refine xiload_n hk dX7_look_95 rfl ?_
          refine xcallV hk c_X0_right bX0_right kX7_62 dX7_look_96 rfl ⟨_, _, _, _, rfl, rfl⟩ rfl (by decide) ⟨by decide, by decide⟩ (Nat.le_of_ble_eq_true rfl) (det ?_)
          refine xcallV hk c_X7_addStep bX7_addStep kX7_65 dX7_look_99 rfl ⟨_, _, _, _, rfl, rfl⟩ rfl (by decide) ⟨by decide, by decide⟩ (Nat.le_of_ble_eq_true rfl) (det ?_)
          refine xaload_n hk dX7_look_102 rfl ?_
          refine xaload_n hk dX7_look_103 rfl ?_
          refine xgetR (ci := 7) (f := 0) hk dX7_look_104 ⟨rfl, by decide, _, rfl, rfl⟩ kX7_22 ?_
          refine xiload_n hk dX7_look_107 rfl ?_
          refine xcallV hk c_X0_right bX0_right kX7_62 dX7_look_108 rfl ⟨_, _, _, _, rfl, rfl⟩ rfl (by decide) ⟨by decide, by decide⟩ (Nat.le_of_ble_eq_true rfl) (det ?_)
          refine xiconst (v := 1) hk dX7_look_111 (by decide) ?_
          refine xixor hk dX7_look_112 ?_
          refine xaload_n hk dX7_look_113 rfl ?_
          refine xgetR (ci := 7) (f := 0) hk dX7_look_114 ⟨rfl, by decide, _, rfl, rfl⟩ kX7_22 ?_
          refine xiload_n hk dX7_look_117 rfl ?_
          refine xcallV hk c_X0_left bX0_left kX7_59 dX7_look_118 rfl ⟨_, _, _, _, rfl, rfl⟩ rfl (by decide) ⟨by decide, by decide⟩ (Nat.le_of_ble_eq_true rfl) (det ?_)
          refine xcallV hk c_X7_addStep bX7_addStep kX7_65 dX7_look_121 rfl ⟨_, _, _, _, rfl, rfl⟩ rfl (by decide) ⟨by decide, by decide⟩ (Nat.le_of_ble_eq_true rfl) (det ?_)
          refine xiinc hk dX7_look_124 rfl (by decide) rfl ?_
          refine xgoto hk 61 dX7_look_127 (by decide) ?_
          exact ih (j + 1) _ _ (by omega) (nI_inc j) (by omega) (by subst hy; simp [itP, stmF, *]) (by first | exact hc | (simp only [addStep_1 (show (21 : Nat) ≠ 38 by decide)]; exact hc))
  have l6 : ∀ (C : Int32) (z : XS), (∀ y : XS, y = itP cntF C.toNatClampNeg z → Wx k 0 0 LF a y 177 [(0, .ref (a 37)), (1, .int s)] []) → ∀ (n j : Nat) (v : Int32) (y : XS), C.toNatClampNeg - j < n → v = nI j → j ≤ C.toNatClampNeg → y = itP cntF j z → y.1 37 3 = C → Wx k 0 0 LF a y 141 [(0, .ref (a 37)), (1, .int s), (2, .int v)] [] := by
    intro C z kk n
    have hC := cl_lt C
    induction n with
    | zero => intros; omega
    | succ n ih =>
      intro j v y hn hv hj hy hc
      subst hv
      refine xiload_n hk dX7_look_141 rfl ?_
      refine xaload_n hk dX7_look_142 rfl ?_
      refine xgetI (ci := 7) (f := 3) hk dX7_look_143 ⟨rfl, by decide, _, rfl, rfl⟩ kX7_48 ?_
      refine xicmp_ge hk 177 dX7_look_146 (by decide) (fun h146 => ?_) (fun h146 => ?_)
      · rw [hc, le_nI (by omega)] at h146
        refine xsub [(0, _), (1, _)] rfl ?_
        exact kk _ (by rw [hy, show j = C.toNatClampNeg by omega])
      · rw [hc, le_nI (by omega)] at h146
        refine xaload_n hk dX7_look_149 rfl ?_
        refine xiload_n hk dX7_look_150 rfl ?_
        refine xcallV hk c_X7_together bX7_together kX7_30 dX7_look_151 rfl ⟨_, _, _, _, rfl, rfl⟩ rfl (by decide) ⟨by decide, by decide⟩ (Nat.le_of_ble_eq_true rfl) (det ?_)
        refine xcallSN hk c_X8_lowest bX8_lowest kX7_72 dX7_look_154 rfl rfl (by decide) ⟨by decide, by decide⟩ (Nat.le_of_ble_eq_true rfl) (det ?_)
        refine xiload_n hk dX7_look_157 rfl ?_
        refine xicmp_ne hk 171 dX7_look_158 (by decide) (fun h158 => ?_) (fun h158 => ?_)
        · refine xiinc hk dX7_look_171 rfl (by decide) rfl ?_
          refine xgoto hk 141 dX7_look_174 (by decide) ?_
          exact ih (j + 1) _ _ (by omega) (nI_inc j) (by omega) (by subst hy; simp [itP, cntF, *]) (by first | exact hc | simp [rdI, *])
        · refine xaload_n hk dX7_look_161 rfl ?_
          refine xdup hk dX7_look_162 rfl ?_
          refine xgetI (ci := 7) (f := 4) hk dX7_look_163 ⟨rfl, by decide, _, rfl, rfl⟩ kX7_34 ?_
          refine xiconst (v := 1) hk dX7_look_166 (by decide) ?_
          refine xiadd hk dX7_look_167 ?_
          refine xputI (ci := 7) (f := 4) hk dX7_look_168 ⟨rfl, by decide, _, rfl, rfl⟩ kX7_34 ⟨rfl, by decide +kernel⟩ ?_
          refine xiinc hk dX7_look_171 rfl (by decide) rfl ?_
          refine xgoto hk 141 dX7_look_174 (by decide) ?_
          exact ih (j + 1) _ _ (by omega) (nI_inc j) (by omega) (by subst hy; simp [itP, cntF, *]) (by first | exact hc | simp [rdI, *])
  refine xiload_n hk dX7_look_0 rfl ?_
  refine xaload_n hk dX7_look_1 rfl ?_
  refine xgetI (ci := 7) (f := 5) hk dX7_look_2 ⟨rfl, by decide, _, rfl, rfl⟩ kX7_18 ?_
  refine xicmp_ne hk 9 dX7_look_5 (by decide) (fun h5 => ?_) (fun h5 => ?_)
  · refine xaload_n hk dX7_look_9 rfl ?_
    refine xiload_n hk dX7_look_10 rfl ?_
    refine xputI (ci := 7) (f := 5) hk dX7_look_11 ⟨rfl, by decide, _, rfl, rfl⟩ kX7_18 ⟨rfl, by decide +kernel⟩ ?_
    refine xaload_n hk dX7_look_14 rfl ?_
    refine xiconst (v := 2) hk dX7_look_15 (by decide) ?_
    refine xaload_n hk dX7_look_16 rfl ?_
    refine xgetR (ci := 7) (f := 0) hk dX7_look_17 ⟨rfl, by decide, _, rfl, rfl⟩ kX7_22 ?_
    refine xgetNI (ci := 0) (f := 0) hk dX7_look_20 ⟨rfl, by decide, _, rfl, rfl⟩ kX7_51 ?_
    refine ximul hk dX7_look_23 ?_
    refine xputI (ci := 7) (f := 3) hk dX7_look_24 ⟨rfl, by decide, _, rfl, rfl⟩ kX7_48 ⟨rfl, by decide +kernel⟩ ?_
    refine xiconst (v := 0) hk dX7_look_27 (by decide) ?_
    refine xistore_n hk dX7_look_28 (by decide) ?_
    generalize hz : setI (setI x 37 5 s) 37 3 (2 * (setI x 37 5 s).1 21 0) = z
    refine l3 (z.1 37 3) z rfl ?_ _ 0 _ z (Nat.lt_succ_self _) rfl (by omega) rfl rfl
    intro y3 hy3
    refine xiconst (v := 0) hk dX7_look_59 (by decide) ?_
    refine xistore_n hk dX7_look_60 (by decide) ?_
    refine l4 (y3.1 21 1) y3 ?_ _ 0 _ y3 (Nat.lt_succ_self _) rfl (by omega) rfl rfl
    intro y4 hy4
    refine xaload_n hk dX7_look_130 rfl ?_
    refine xcallV hk c_X7_close bX7_close kX7_69 dX7_look_131 rfl ⟨_, _, _, _, rfl, rfl⟩ rfl (by decide) ⟨by decide, by decide⟩ (Nat.le_of_ble_eq_true rfl) (det ?_)
    refine xaload_n hk dX7_look_134 rfl ?_
    refine xiconst (v := 0) hk dX7_look_135 (by decide) ?_
    refine xputI (ci := 7) (f := 4) hk dX7_look_136 ⟨rfl, by decide, _, rfl, rfl⟩ kX7_34 ⟨rfl, by decide +kernel⟩ ?_
    refine xiconst (v := 0) hk dX7_look_139 (by decide) ?_
    refine xistore_n hk dX7_look_140 (by decide) ?_
    generalize hw : setI (closeF y4) 37 4 0 = w
    refine l6 (w.1 37 3) w ?_ _ 0 _ w (Nat.lt_succ_self _) rfl (by omega) rfl rfl
    intro y6 hy6
    refine xvret hk he dX7_look_177 ⟨by decide, by decide⟩ ?_
    exact ⟨rfl, by rw [hy6, ← hw, hy4, hy3, ← hz, webLook, if_neg h5]⟩
  · refine xvret hk he dX7_look_8 ⟨by decide, by decide⟩ ?_
    exact ⟨rfl, by rw [webLook, if_pos h5]⟩
set_option maxHeartbeats 4000000 in
set_option maxRecDepth 100000 in
theorem c_X7_reach {g : Gx} {a : Nat → Nat} {x : XS} {s cl : Int32} : Mx g yX7_reach cX7_reach 3 (some .int) 4 0 0 LF a x [.ref (a 37), .int s, .int cl] (pr (some (.int (reachF x s cl))) (webLook s x)) := by
  refine Mx_of (by decide +kernel) (Nat.le_of_ble_eq_true rfl) ?_
  intro k hk he hg
  subst hg

  refine xaload_n hk dX7_reach_0 rfl ?_
  refine xiload_n hk dX7_reach_1 rfl ?_
  refine xcallV hk c_X7_look bX7_look kX7_26 dX7_reach_2 rfl ⟨_, _, _, _, rfl, rfl⟩ rfl (by decide) ⟨by decide, by decide⟩ (Nat.le_of_ble_eq_true rfl) (det ?_)
  refine xiload_n hk dX7_reach_5 rfl ?_
  refine xif_lt hk 27 dX7_reach_6 (by decide) (fun h6 => ?_) (fun h6 => ?_)
  · refine xiconst (v := 0) hk dX7_reach_27 (by decide) ?_
    refine xiret hk he dX7_reach_28 ⟨by decide, by decide⟩ ?_
    exact ⟨by simp [reachF, *], rfl⟩
  · refine xiload_n hk dX7_reach_9 rfl ?_
    refine xaload_n hk dX7_reach_10 rfl ?_
    refine xgetR (ci := 7) (f := 2) hk dX7_reach_11 ⟨rfl, by decide, _, rfl, rfl⟩ kX7_15 ?_
    refine xalen (v := nI _) hk dX7_reach_14 rfl (by decide) rfl ?_
    refine xicmp_ge hk 27 dX7_reach_15 (by decide) (fun h15 => ?_) (fun h15 => ?_)
    · refine xiconst (v := 0) hk dX7_reach_27 (by decide) ?_
      refine xiret hk he dX7_reach_28 ⟨by decide, by decide⟩ ?_
      exact ⟨by simp [reachF, *], rfl⟩
    · refine xaload_n hk dX7_reach_18 rfl ?_
      refine xgetR (ci := 7) (f := 2) hk dX7_reach_19 ⟨rfl, by decide, _, rfl, rfl⟩ kX7_15 ?_
      refine xiload_n hk dX7_reach_22 rfl ?_
      refine xiald hk dX7_reach_23 rfl (vin h6 h15 (by decide)) ?_
      refine xgoto hk 28 dX7_reach_24 (by decide) ?_
      refine xiret hk he dX7_reach_28 ⟨by decide, by decide⟩ ?_
      exact ⟨by simp [reachF, *], rfl⟩
set_option maxHeartbeats 4000000 in
set_option maxRecDepth 100000 in
theorem c_X7_part {g : Gx} {a : Nat → Nat} {x : XS} {s cl : Int32} : Mx g yX7_part cX7_part 3 (some .int) 4 0 0 LF a x [.ref (a 37), .int s, .int cl] (pr (some (.int (togetherF (webLook s x) cl))) (webLook s x)) := by
  refine Mx_of (by decide +kernel) (Nat.le_of_ble_eq_true rfl) ?_
  intro k hk he hg
  subst hg

  refine xaload_n hk dX7_part_0 rfl ?_
  refine xiload_n hk dX7_part_1 rfl ?_
  refine xcallV hk c_X7_look bX7_look kX7_26 dX7_part_2 rfl ⟨_, _, _, _, rfl, rfl⟩ rfl (by decide) ⟨by decide, by decide⟩ (Nat.le_of_ble_eq_true rfl) (det ?_)
  refine xaload_n hk dX7_part_5 rfl ?_
  refine xiload_n hk dX7_part_6 rfl ?_
  refine xcallV hk c_X7_together bX7_together kX7_30 dX7_part_7 rfl ⟨_, _, _, _, rfl, rfl⟩ rfl (by decide) ⟨by decide, by decide⟩ (Nat.le_of_ble_eq_true rfl) (det ?_)
  refine xiret hk he dX7_part_10 ⟨by decide, by decide⟩ ?_
  exact ⟨rfl, rfl⟩
set_option maxHeartbeats 4000000 in
set_option maxRecDepth 100000 in
theorem c_X7_countParts {g : Gx} {a : Nat → Nat} {x : XS} {s : Int32} : Mx g yX7_countParts cX7_countParts 2 (some .int) 4 0 0 LF a x [.ref (a 37), .int s] (pr (some (.int ((webLook s x).1 37 4))) (webLook s x)) := by
  refine Mx_of (by decide +kernel) (Nat.le_of_ble_eq_true rfl) ?_
  intro k hk he hg
  subst hg

  refine xaload_n hk dX7_countParts_0 rfl ?_
  refine xiload_n hk dX7_countParts_1 rfl ?_
  refine xcallV hk c_X7_look bX7_look kX7_26 dX7_countParts_2 rfl ⟨_, _, _, _, rfl, rfl⟩ rfl (by decide) ⟨by decide, by decide⟩ (Nat.le_of_ble_eq_true rfl) (det ?_)
  refine xaload_n hk dX7_countParts_5 rfl ?_
  refine xgetI (ci := 7) (f := 4) hk dX7_countParts_6 ⟨rfl, by decide, _, rfl, rfl⟩ kX7_34 ?_
  refine xiret hk he dX7_countParts_9 ⟨by decide, by decide⟩ ?_
  exact ⟨rfl, rfl⟩
set_option maxHeartbeats 4000000 in
set_option maxRecDepth 100000 in
theorem c_X7_distance {g : Gx} {a : Nat → Nat} {x : XS} {s cl fr : Int32} : Mx g yX7_distance cX7_distance 6 (some .int) 4 0 0 LF a x [.ref (a 37), .int s, .int cl, .int fr] (pr (some (.int (distF x s cl fr))) (webLook s x)) := by
  refine Mx_of (by decide +kernel) (Nat.le_of_ble_eq_true rfl) ?_
  intro k hk he hg
  subst hg

  have loop : ∀ (n r j : Nat) (v rd : Int32), r < n → v = nI j → r + j = 21 → distL (webLook s x) cl r j rd = distF x s cl fr → Wx k 0 0 LF a (webLook s x) 15 [(0, .ref (a 37)), (1, .int s), (2, .int cl), (3, .int fr), (4, .int rd), (5, .int v)] [] := by
    intro n
    induction n with
    | zero => intros; omega
    | succ n ih =>
      intro r j v rd hn hv hj hI
      subst hv
      refine xiload hk dX7_distance_15 rfl ?_
      refine xbipush (v := 20) hk dX7_distance_17 (by decide) ?_
      refine xicmp_gt hk 51 dX7_distance_19 (by decide) (fun h19 => ?_) (fun h19 => ?_)
      · rw [show (20 : Int32) = nI 20 from rfl, nI_ltI (by decide) (by omega)] at h19
        obtain rfl : r = 0 := by omega
        refine xiconst (v := (-1)) hk dX7_distance_51 (by decide) ?_
        refine xiret hk he dX7_distance_52 ⟨by decide, by decide⟩ ?_
        exact ⟨by rw [← hI]; rfl, rfl⟩
      · rw [show (20 : Int32) = nI 20 from rfl, nI_ltI (by decide) (by omega)] at h19
        obtain ⟨r, rfl⟩ : ∃ r2, r = r2 + 1 := ⟨r - 1, by omega⟩
        refine xiload hk dX7_distance_22 rfl ?_
        refine xiload_n hk dX7_distance_24 rfl ?_
        refine xcallSN hk c_X8_has bX8_has kX7_41 dX7_distance_25 rfl rfl (by decide) ⟨by decide, by decide⟩ (Nat.le_of_ble_eq_true rfl) (det ?_)
        refine xif_eq hk 34 dX7_distance_28 (by decide) (fun h28 => ?_) (fun h28 => ?_)
        · rw [b2i_0] at h28
          rw [distL, h28, if_neg Bool.false_ne_true] at hI
          refine xiload hk dX7_distance_34 rfl ?_
          refine xaload_n hk dX7_distance_36 rfl ?_
          refine xiload hk dX7_distance_37 rfl ?_
          refine xcallV hk c_X7_afterOneStep bX7_afterOneStep kX7_45 dX7_distance_39 rfl ⟨_, _, _, _, rfl, rfl⟩ rfl (by decide) ⟨by decide, by decide⟩ (Nat.le_of_ble_eq_true rfl) (det ?_)
          refine xior hk dX7_distance_42 ?_
          refine xistore hk dX7_distance_43 (by decide) ?_
          refine xiinc hk dX7_distance_45 rfl (by decide) rfl ?_
          refine xgoto hk 15 dX7_distance_48 (by decide) ?_
          exact ih r (j + 1) _ _ (by omega) (nI_inc j) (by omega) hI
        · rw [b2i_t] at h28
          rw [distL, h28, if_pos rfl] at hI
          refine xiload hk dX7_distance_31 rfl ?_
          refine xiret hk he dX7_distance_33 ⟨by decide, by decide⟩ ?_
          exact ⟨by rw [← hI], rfl⟩
  refine xaload_n hk dX7_distance_0 rfl ?_
  refine xiload_n hk dX7_distance_1 rfl ?_
  refine xcallV hk c_X7_look bX7_look kX7_26 dX7_distance_2 rfl ⟨_, _, _, _, rfl, rfl⟩ rfl (by decide) ⟨by decide, by decide⟩ (Nat.le_of_ble_eq_true rfl) (det ?_)
  refine xiconst (v := 0) hk dX7_distance_5 (by decide) ?_
  refine xiload_n hk dX7_distance_6 rfl ?_
  refine xcallSN hk c_X8_with bX8_with kX7_37 dX7_distance_7 rfl rfl (by decide) ⟨by decide, by decide⟩ (Nat.le_of_ble_eq_true rfl) (det ?_)
  refine xistore hk dX7_distance_10 (by decide) ?_
  refine xiconst (v := 0) hk dX7_distance_12 (by decide) ?_
  refine xistore hk dX7_distance_13 (by decide) ?_
  exact loop 22 21 0 _ _ (by omega) rfl (by omega) rfl
