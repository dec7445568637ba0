theorem kX2_27 : Cond.fieldLinkNest RX2 27 "FeudBook$Book" "orders" "I" "FeudBook" ∈ NW := nw_mem 163 (by decide +kernel) rfl
theorem kX2_33 : Cond.methodLink RX2 33 yX2_isDue ∈ GW := gw_mem 728 (by decide +kernel) (by decide +kernel)
theorem bX2_isDue : CBv yX2_isDue cX2_isDue 6 (some .boolean) 2 := ⟨⟨gw_mem 731 (by decide +kernel) (by decide +kernel), gw_mem 20 (by decide +kernel) (by decide +kernel), by decide +kernel, by decide⟩, gw_mem 730 (by decide +kernel) (by decide +kernel), gw_sel 15 (by decide +kernel) (by decide +kernel)⟩
theorem kX2_37 : Cond.methodLink RX2 37 yX0_target ∈ GW := gw_mem 780 (by decide +kernel) (by decide +kernel)
theorem bX0_target : CBv yX0_target cX0_target 2 (some .int) 1 := ⟨⟨gw_mem 783 (by decide +kernel) (by decide +kernel), gw_mem 16 (by decide +kernel) (by decide +kernel), by decide +kernel, by decide⟩, gw_mem 781 (by decide +kernel) (by decide +kernel), gw_mem 782 (by decide +kernel) (by decide +kernel)⟩
theorem kX2_41 : Cond.methodLink RX2 41 yX0_renews ∈ GW := gw_mem 784 (by decide +kernel) (by decide +kernel)
theorem bX0_renews : CBv yX0_renews cX0_renews 2 (some .boolean) 1 := ⟨⟨gw_mem 787 (by decide +kernel) (by decide +kernel), gw_mem 16 (by decide +kernel) (by decide +kernel), by decide +kernel, by decide⟩, gw_mem 785 (by decide +kernel) (by decide +kernel), gw_mem 786 (by decide +kernel) (by decide +kernel)⟩
theorem kX2_45 : Cond.methodLink RX2 45 yX1_change ∈ GW := gw_mem 788 (by decide +kernel) (by decide +kernel)
theorem bX1_change : CBv yX1_change cX1_change 3 none 2 := ⟨⟨gw_mem 791 (by decide +kernel) (by decide +kernel), gw_mem 21 (by decide +kernel) (by decide +kernel), by decide +kernel, by decide⟩, gw_mem 789 (by decide +kernel) (by decide +kernel), gw_mem 790 (by decide +kernel) (by decide +kernel)⟩
theorem kX5_15 : Cond.fieldLink RX5 15 "FeudBook$Tape" "length" "I" ∈ GW := gw_mem 45 (by decide +kernel) (by decide +kernel)
theorem kX5_9 : Cond.fieldLink RX5 9 "FeudBook$Tape" "bytes" "[B" ∈ GW := gw_mem 43 (by decide +kernel) (by decide +kernel)
set_option maxHeartbeats 4000000 in
set_option maxRecDepth 100000 in
theorem c_X2_letPass46 {g : Gx} {a : Nat → Nat} {x : XS} {d : Int32} : Mx g yX2_letPass cX2_letPass 5 none 7 0 0 LF a x [.ref (a 44), .ref (a 46), .int d] (pr none (passF 46 d x)) := by
  refine Mx_of (by decide +kernel) (Nat.le_of_ble_eq_true rfl) ?_
  intro k hk he hg
  subst hg

  have hd := cl_lt d
  have jq21 : jq 21 := ⟨by decide, by decide, by decide, by decide, by decide, by decide⟩
  have inner : ∀ (i : Nat) (z : XS), (∀ y : XS, y = itP (ordF 46) (z.1 21 7).toNatClampNeg z → Wx k 0 0 LF a y 60 [(0, .ref (a 44)), (1, .ref (a 46)), (2, .int d), (3, .int (nI i))] []) → ∀ (n j : Nat) (v : Int32) (y : XS), (z.1 21 7).toNatClampNeg - j < n → v = nI j → j ≤ (z.1 21 7).toNatClampNeg → y = itP (ordF 46) j z → Wx k 0 0 LF a y 10 [(0, .ref (a 44)), (1, .ref (a 46)), (2, .int d), (3, .int (nI i)), (4, .int v)] [] := by
    intro i z kk n
    have hO := cl_lt (z.1 21 7)
    induction n with
    | zero => intros; omega
    | succ n ih =>
      intro j v y hn hv hj hy
      subst hv
      have hc : y.1 21 7 = z.1 21 7 := by rw [hy, itP_1 (fun j y => ord_1 jq21 (by decide))]
      refine xiload hk dX2_letPass_10 rfl ?_
      refine xaload_n hk dX2_letPass_12 rfl ?_
      refine xgetR (ci := 2) (f := 0) hk dX2_letPass_13 ⟨rfl, by decide, _, rfl, rfl⟩ kX2_15 ?_
      refine xgetNI (ci := 0) (f := 7) hk dX2_letPass_16 ⟨rfl, by decide, _, rfl, rfl⟩ kX2_27 ?_
      refine xicmp_ge hk 60 dX2_letPass_19 (by decide) (fun h19 => ?_) (fun h19 => ?_)
      · rw [hc, le_nI (by omega)] at h19
        refine xsub [(0, _), (1, _), (2, _), (3, _)] rfl ?_
        exact kk _ (by rw [hy, show j = (z.1 21 7).toNatClampNeg by omega])
      · rw [hc, le_nI (by omega)] at h19
        refine xaload_n hk dX2_letPass_22 rfl ?_
        refine xiload hk dX2_letPass_23 rfl ?_
        refine xaload_n hk dX2_letPass_25 rfl ?_
        refine xcallV hk c_X2_isDue46 bX2_isDue kX2_33 dX2_letPass_26 rfl ⟨_, _, _, _, rfl, rfl⟩ rfl (by decide) ⟨by decide, by decide⟩ (Nat.le_of_ble_eq_true rfl) (det ?_)
        refine xif_eq hk 54 dX2_letPass_29 (by decide) (fun h29 => ?_) (fun h29 => ?_)
        · rw [b2i_0] at h29
          refine xiinc hk dX2_letPass_54 rfl (by decide) rfl ?_
          refine xgoto hk 10 dX2_letPass_57 (by decide) ?_
          exact ih (j + 1) _ _ (by omega) (nI_inc j) (by omega) (by rw [itP, ← hy, ordF]; simp only [h29, if_true, if_false, Bool.false_eq_true])
        · rw [b2i_t] at h29
          refine xaload_n hk dX2_letPass_32 rfl ?_
          refine xaload_n hk dX2_letPass_33 rfl ?_
          refine xgetR (ci := 2) (f := 0) hk dX2_letPass_34 ⟨rfl, by decide, _, rfl, rfl⟩ kX2_15 ?_
          refine xiload hk dX2_letPass_37 rfl ?_
          refine xcallV hk c_X0_target bX0_target kX2_37 dX2_letPass_39 rfl ⟨_, _, _, _, rfl, rfl⟩ rfl (by decide) ⟨by decide, by decide⟩ (Nat.le_of_ble_eq_true rfl) (det ?_)
          refine xaload_n hk dX2_letPass_42 rfl ?_
          refine xgetR (ci := 2) (f := 0) hk dX2_letPass_43 ⟨rfl, by decide, _, rfl, rfl⟩ kX2_15 ?_
          refine xiload hk dX2_letPass_46 rfl ?_
          refine xcallV hk c_X0_renews bX0_renews kX2_41 dX2_letPass_48 rfl ⟨_, _, _, _, rfl, rfl⟩ rfl (by decide) ⟨by decide, by decide⟩ (Nat.le_of_ble_eq_true rfl) (det ?_)
          refine xcallV hk c_X1_change46 bX1_change kX2_45 dX2_letPass_51 rfl ⟨_, _, _, _, rfl, rfl⟩ rfl (by decide) ⟨by decide, by decide⟩ (Nat.le_of_ble_eq_true rfl) (det ?_)
          refine xiinc hk dX2_letPass_54 rfl (by decide) rfl ?_
          refine xgoto hk 10 dX2_letPass_57 (by decide) ?_
          exact ih (j + 1) _ _ (by omega) (nI_inc j) (by omega) (by rw [itP, ← hy, ordF]; simp only [h29, if_true, if_false, Bool.false_eq_true])
  have outer : ∀ (n i : Nat) (v : Int32) (y : XS), d.toNatClampNeg - i < n → v = nI i → i ≤ d.toNatClampNeg → y = itP (fun _ => dayF 46) i x → Wx k 0 0 LF a y 2 [(0, .ref (a 44)), (1, .ref (a 46)), (2, .int d), (3, .int v)] [] := by
    intro n
    induction n with
    | zero => intros; omega
    | succ n ih =>
      intro i v y hn hv hj hy
      subst hv
      refine xiload_n hk dX2_letPass_2 rfl ?_
      refine xiload_n hk dX2_letPass_3 rfl ?_
      refine xicmp_ge hk 76 dX2_letPass_4 (by decide) (fun h4 => ?_) (fun h4 => ?_)
      · rw [le_nI (by omega)] at h4
        refine xvret hk he dX2_letPass_76 ⟨by decide, by decide⟩ ?_
        exact ⟨rfl, by rw [hy, show i = d.toNatClampNeg by omega]; rfl⟩
      · rw [le_nI (by omega)] at h4
        refine xiconst (v := 0) hk dX2_letPass_7 (by decide) ?_
        refine xistore hk dX2_letPass_8 (by decide) ?_
        refine inner i y ?_ _ 0 _ y (Nat.lt_succ_self _) rfl (by omega) rfl
        intro y5 hy5
        refine xaload_n hk dX2_letPass_60 rfl ?_
        refine xdup hk dX2_letPass_61 rfl ?_
        refine xgetNI (ci := 1) (f := 0) hk dX2_letPass_62 ⟨rfl, by decide, _, rfl, rfl⟩ kX2_51 ?_
        refine xiconst (v := 1) hk dX2_letPass_65 (by decide) ?_
        refine xiadd hk dX2_letPass_66 ?_
        refine xputIN (ci := 1) (f := 0) hk dX2_letPass_67 ⟨rfl, by decide, _, rfl, rfl⟩ kX2_51 ⟨rfl, by decide +kernel⟩ ?_
        refine xiinc hk dX2_letPass_70 rfl (by decide) rfl ?_
        refine xgoto hk 2 dX2_letPass_73 (by decide) ?_
        exact ih (i + 1) _ _ (by omega) (nI_inc i) (by omega) (by rw [itP, ← hy, dayF, ← hy5])
  refine xiconst (v := 0) hk dX2_letPass_0 (by decide) ?_
  refine xistore_n hk dX2_letPass_1 (by decide) ?_
  exact outer _ 0 _ _ (Nat.lt_succ_self _) rfl (by omega) rfl
set_option maxHeartbeats 4000000 in
set_option maxRecDepth 100000 in
theorem c_X2_letPass47 {g : Gx} {a : Nat → Nat} {x : XS} {d : Int32} : Mx g yX2_letPass cX2_letPass 5 none 7 0 0 LF a x [.ref (a 44), .ref (a 47), .int d] (pr none (passF 47 d x)) := by
  refine Mx_of (by decide +kernel) (Nat.le_of_ble_eq_true rfl) ?_
  intro k hk he hg
  subst hg

  have hd := cl_lt d
  have jq21 : jq 21 := ⟨by decide, by decide, by decide, by decide, by decide, by decide⟩
  have inner : ∀ (i : Nat) (z : XS), (∀ y : XS, y = itP (ordF 47) (z.1 21 7).toNatClampNeg z → Wx k 0 0 LF a y 60 [(0, .ref (a 44)), (1, .ref (a 47)), (2, .int d), (3, .int (nI i))] []) → ∀ (n j : Nat) (v : Int32) (y : XS), (z.1 21 7).toNatClampNeg - j < n → v = nI j → j ≤ (z.1 21 7).toNatClampNeg → y = itP (ordF 47) j z → Wx k 0 0 LF a y 10 [(0, .ref (a 44)), (1, .ref (a 47)), (2, .int d), (3, .int (nI i)), (4, .int v)] [] := by
    intro i z kk n
    have hO := cl_lt (z.1 21 7)
    induction n with
    | zero => intros; omega
    | succ n ih =>
      intro j v y hn hv hj hy
      subst hv
      have hc : y.1 21 7 = z.1 21 7 := by rw [hy, itP_1 (fun j y => ord_1 jq21 (by decide))]
      refine xiload hk dX2_letPass_10 rfl ?_
      refine xaload_n hk dX2_letPass_12 rfl ?_
      refine xgetR (ci := 2) (f := 0) hk dX2_letPass_13 ⟨rfl, by decide, _, rfl, rfl⟩ kX2_15 ?_
      refine xgetNI (ci := 0) (f := 7) hk dX2_letPass_16 ⟨rfl, by decide, _, rfl, rfl⟩ kX2_27 ?_
      refine xicmp_ge hk 60 dX2_letPass_19 (by decide) (fun h19 => ?_) (fun h19 => ?_)
      · rw [hc, le_nI (by omega)] at h19
        refine xsub [(0, _), (1, _), (2, _), (3, _)] rfl ?_
        exact kk _ (by rw [hy, show j = (z.1 21 7).toNatClampNeg by omega])
      · rw [hc, le_nI (by omega)] at h19
        refine xaload_n hk dX2_letPass_22 rfl ?_
        refine xiload hk dX2_letPass_23 rfl ?_
        refine xaload_n hk dX2_letPass_25 rfl ?_
        refine xcallV hk c_X2_isDue47 bX2_isDue kX2_33 dX2_letPass_26 rfl ⟨_, _, _, _, rfl, rfl⟩ rfl (by decide) ⟨by decide, by decide⟩ (Nat.le_of_ble_eq_true rfl) (det ?_)
        refine xif_eq hk 54 dX2_letPass_29 (by decide) (fun h29 => ?_) (fun h29 => ?_)
        · rw [b2i_0] at h29
          refine xiinc hk dX2_letPass_54 rfl (by decide) rfl ?_
          refine xgoto hk 10 dX2_letPass_57 (by decide) ?_
          exact ih (j + 1) _ _ (by omega) (nI_inc j) (by omega) (by rw [itP, ← hy, ordF]; simp only [h29, if_true, if_false, Bool.false_eq_true])
        · rw [b2i_t] at h29
          refine xaload_n hk dX2_letPass_32 rfl ?_
          refine xaload_n hk dX2_letPass_33 rfl ?_
          refine xgetR (ci := 2) (f := 0) hk dX2_letPass_34 ⟨rfl, by decide, _, rfl, rfl⟩ kX2_15 ?_
          refine xiload hk dX2_letPass_37 rfl ?_
          refine xcallV hk c_X0_target bX0_target kX2_37 dX2_letPass_39 rfl ⟨_, _, _, _, rfl, rfl⟩ rfl (by decide) ⟨by decide, by decide⟩ (Nat.le_of_ble_eq_true rfl) (det ?_)
          refine xaload_n hk dX2_letPass_42 rfl ?_
          refine xgetR (ci := 2) (f := 0) hk dX2_letPass_43 ⟨rfl, by decide, _, rfl, rfl⟩ kX2_15 ?_
          refine xiload hk dX2_letPass_46 rfl ?_
          refine xcallV hk c_X0_renews bX0_renews kX2_41 dX2_letPass_48 rfl ⟨_, _, _, _, rfl, rfl⟩ rfl (by decide) ⟨by decide, by decide⟩ (Nat.le_of_ble_eq_true rfl) (det ?_)
          refine xcallV hk c_X1_change47 bX1_change kX2_45 dX2_letPass_51 rfl ⟨_, _, _, _, rfl, rfl⟩ rfl (by decide) ⟨by decide, by decide⟩ (Nat.le_of_ble_eq_true rfl) (det ?_)
          refine xiinc hk dX2_letPass_54 rfl (by decide) rfl ?_
          refine xgoto hk 10 dX2_letPass_57 (by decide) ?_
          exact ih (j + 1) _ _ (by omega) (nI_inc j) (by omega) (by rw [itP, ← hy, ordF]; simp only [h29, if_true, if_false, Bool.false_eq_true])
  have outer : ∀ (n i : Nat) (v : Int32) (y : XS), d.toNatClampNeg - i < n → v = nI i → i ≤ d.toNatClampNeg → y = itP (fun _ => dayF 47) i x → Wx k 0 0 LF a y 2 [(0, .ref (a 44)), (1, .ref (a 47)), (2, .int d), (3, .int v)] [] := by
    intro n
    induction n with
    | zero => intros; omega
    | succ n ih =>
      intro i v y hn hv hj hy
      subst hv
      refine xiload_n hk dX2_letPass_2 rfl ?_
      refine xiload_n hk dX2_letPass_3 rfl ?_
      refine xicmp_ge hk 76 dX2_letPass_4 (by decide) (fun h4 => ?_) (fun h4 => ?_)
      · rw [le_nI (by omega)] at h4
        refine xvret hk he dX2_letPass_76 ⟨by decide, by decide⟩ ?_
        exact ⟨rfl, by rw [hy, show i = d.toNatClampNeg by omega]; rfl⟩
      · rw [le_nI (by omega)] at h4
        refine xiconst (v := 0) hk dX2_letPass_7 (by decide) ?_
        refine xistore hk dX2_letPass_8 (by decide) ?_
        refine inner i y ?_ _ 0 _ y (Nat.lt_succ_self _) rfl (by omega) rfl
        intro y5 hy5
        refine xaload_n hk dX2_letPass_60 rfl ?_
        refine xdup hk dX2_letPass_61 rfl ?_
        refine xgetNI (ci := 1) (f := 0) hk dX2_letPass_62 ⟨rfl, by decide, _, rfl, rfl⟩ kX2_51 ?_
        refine xiconst (v := 1) hk dX2_letPass_65 (by decide) ?_
        refine xiadd hk dX2_letPass_66 ?_
        refine xputIN (ci := 1) (f := 0) hk dX2_letPass_67 ⟨rfl, by decide, _, rfl, rfl⟩ kX2_51 ⟨rfl, by decide +kernel⟩ ?_
        refine xiinc hk dX2_letPass_70 rfl (by decide) rfl ?_
        refine xgoto hk 2 dX2_letPass_73 (by decide) ?_
        exact ih (i + 1) _ _ (by omega) (nI_inc i) (by omega) (by rw [itP, ← hy, dayF, ← hy5])
  refine xiconst (v := 0) hk dX2_letPass_0 (by decide) ?_
  refine xistore_n hk dX2_letPass_1 (by decide) ?_
  exact outer _ 0 _ _ (Nat.lt_succ_self _) rfl (by omega) rfl
def apF1 (x : XS) (v sh : Int32) : XS := if x.1 1 1 < 0 then x else if nI 2000 ≤ x.1 1 1 then x else setI (setI x 2 (x.1 1 1).toNatClampNeg (v >>> (sh &&& 31)).toInt8.toInt32) 1 1 (x.1 1 1 + 1)
def appendF (x : XS) (v : Int32) : XS := apF1 (apF1 (apF1 (apF1 x v 24) v (24 + Int32.ofInt (-8))) v (24 + Int32.ofInt (-8) + Int32.ofInt (-8))) v (24 + Int32.ofInt (-8) + Int32.ofInt (-8) + Int32.ofInt (-8))
def atF (x : XS) (p : Int32) : Int32 := if p < 0 then -1 else if x.1 1 1 ≤ p then -1 else if nI 2000 ≤ p then -1 else x.1 2 p.toNatClampNeg &&& 255
set_option maxHeartbeats 4000000 in
set_option maxRecDepth 100000 in
theorem c_X5_append {g : Gx} {a : Nat → Nat} {x : XS} {v : Int32} : Mx g yX5_append cX5_append 3 none 1 0 0 LF a x [.ref (a 1), .int v] (pr none (appendF x v)) := by
  refine Mx_of (by decide +kernel) (Nat.le_of_ble_eq_true rfl) ?_
  intro k hk he hg
  subst hg

  have step : ∀ (sh : Int32) (y : XS), ¬ sh < 0 → Wx k 0 0 LF a (apF1 y v sh) 3 [(0, .ref (a 1)), (1, .int v), (2, .int (sh + Int32.ofInt (-8)))] [] → Wx k 0 0 LF a y 3 [(0, .ref (a 1)), (1, .int v), (2, .int sh)] [] := by
    intro sh y hs kk
    refine xiload_n hk dX5_append_3 rfl ?_
    refine xif_lt hk 55 dX5_append_4 (by decide) (fun h4 => ?_) (fun h4 => ?_)
    · exact absurd h4 hs
    · refine xaload_n hk dX5_append_7 rfl ?_
      refine xgetI (ci := 5) (f := 1) hk dX5_append_8 ⟨rfl, by decide, _, rfl, rfl⟩ kX5_15 ?_
      refine xif_lt hk 49 dX5_append_11 (by decide) (fun h11 => ?_) (fun h11 => ?_)
      · refine xiinc hk dX5_append_49 rfl (by decide) rfl ?_
        refine xgoto hk 3 dX5_append_52 (by decide) ?_
        first | (rw [apF1, if_pos h11] at kk; exact kk) | (rw [apF1, if_neg h11, if_pos h23] at kk; exact kk) | (rw [apF1, if_neg h11, if_neg h23] at kk; exact kk)
      · refine xaload_n hk dX5_append_14 rfl ?_
        refine xgetI (ci := 5) (f := 1) hk dX5_append_15 ⟨rfl, by decide, _, rfl, rfl⟩ kX5_15 ?_
        refine xaload_n hk dX5_append_18 rfl ?_
        refine xgetR (ci := 5) (f := 0) hk dX5_append_19 ⟨rfl, by decide, _, rfl, rfl⟩ kX5_9 ?_
        refine xalen (v := nI _) hk dX5_append_22 rfl (by decide) rfl ?_
        refine xicmp_ge hk 49 dX5_append_23 (by decide) (fun h23 => ?_) (fun h23 => ?_)
        · refine xiinc hk dX5_append_49 rfl (by decide) rfl ?_
          refine xgoto hk 3 dX5_append_52 (by decide) ?_
          first | (rw [apF1, if_pos h11] at kk; exact kk) | (rw [apF1, if_neg h11, if_pos h23] at kk; exact kk) | (rw [apF1, if_neg h11, if_neg h23] at kk; exact kk)
        · refine xaload_n hk dX5_append_26 rfl ?_
          refine xgetR (ci := 5) (f := 0) hk dX5_append_27 ⟨rfl, by decide, _, rfl, rfl⟩ kX5_9 ?_
          refine xaload_n hk dX5_append_30 rfl ?_
          refine xgetI (ci := 5) (f := 1) hk dX5_append_31 ⟨rfl, by decide, _, rfl, rfl⟩ kX5_15 ?_
          refine xiload_n hk dX5_append_34 rfl ?_
          refine xiload_n hk dX5_append_35 rfl ?_
          refine xishr hk dX5_append_36 ?_
          refine xi2b hk dX5_append_37 ?_
          refine xbast hk dX5_append_38 rfl (vin h11 h23 (by decide)) ?_
          rw [show ((v >>> (sh &&& 31)).toInt8.toInt32).toInt8.toInt32 = (v >>> (sh &&& 31)).toInt8.toInt32 by simp]
          refine xaload_n hk dX5_append_39 rfl ?_
          refine xdup hk dX5_append_40 rfl ?_
          refine xgetI (ci := 5) (f := 1) hk dX5_append_41 ⟨rfl, by decide, _, rfl, rfl⟩ kX5_15 ?_
          refine xiconst (v := 1) hk dX5_append_44 (by decide) ?_
          refine xiadd hk dX5_append_45 ?_
          refine xputI (ci := 5) (f := 1) hk dX5_append_46 ⟨rfl, by decide, _, rfl, rfl⟩ kX5_15 ⟨rfl, by decide +kernel⟩ ?_
          refine xiinc hk dX5_append_49 rfl (by decide) rfl ?_
          refine xgoto hk 3 dX5_append_52 (by decide) ?_
          first | (rw [apF1, if_pos h11] at kk; exact kk) | (rw [apF1, if_neg h11, if_pos h23] at kk; exact kk) | (rw [apF1, if_neg h11, if_neg h23] at kk; exact kk)
  refine xbipush (v := 24) hk dX5_append_0 (by decide) ?_
  refine xistore_n hk dX5_append_2 (by decide) ?_
  refine step _ _ (by decide) (step _ _ (by decide) (step _ _ (by decide) (step _ _ (by decide) ?_)))
  refine xiload_n hk dX5_append_3 rfl ?_
  refine xif_lt hk 55 dX5_append_4 (by decide) (fun h4 => ?_) (fun h4 => ?_)
  · refine xvret hk he dX5_append_55 ⟨by decide, by decide⟩ ?_
    exact ⟨rfl, rfl⟩
  · exact absurd (by decide) h4
set_option maxHeartbeats 4000000 in
set_option maxRecDepth 100000 in
theorem c_X5_at {g : Gx} {a : Nat → Nat} {x : XS} {p : Int32} : Mx g yX5_at cX5_at 2 (some .int) 1 0 0 LF a x [.ref (a 1), .int p] (pr (some (.int (atF x p))) x) := by
  refine Mx_of (by decide +kernel) (Nat.le_of_ble_eq_true rfl) ?_
  intro k hk he hg
  subst hg

  refine xiload_n hk dX5_at_0 rfl ?_
  refine xif_lt hk 21 dX5_at_1 (by decide) (fun h1 => ?_) (fun h1 => ?_)
  · refine xiconst (v := (-1)) hk dX5_at_21 (by decide) ?_
    refine xiret hk he dX5_at_22 ⟨by decide, by decide⟩ ?_
    exact ⟨by first | simp [atF, h1]; done | simp [atF, h1, h9]; done | (have h18 := Int32.not_lt.mp h18; simp [atF, h1, h9, h18]), rfl⟩
  · refine xiload_n hk dX5_at_4 rfl ?_
    refine xaload_n hk dX5_at_5 rfl ?_
    refine xgetI (ci := 5) (f := 1) hk dX5_at_6 ⟨rfl, by decide, _, rfl, rfl⟩ kX5_15 ?_
    refine xicmp_ge hk 21 dX5_at_9 (by decide) (fun h9 => ?_) (fun h9 => ?_)
    · refine xiconst (v := (-1)) hk dX5_at_21 (by decide) ?_
      refine xiret hk he dX5_at_22 ⟨by decide, by decide⟩ ?_
      exact ⟨by first | simp [atF, h1]; done | simp [atF, h1, h9]; done | (have h18 := Int32.not_lt.mp h18; simp [atF, h1, h9, h18]), rfl⟩
    · refine xiload_n hk dX5_at_12 rfl ?_
      refine xaload_n hk dX5_at_13 rfl ?_
      refine xgetR (ci := 5) (f := 0) hk dX5_at_14 ⟨rfl, by decide, _, rfl, rfl⟩ kX5_9 ?_
      refine xalen (v := nI _) hk dX5_at_17 rfl (by decide) rfl ?_
      refine xicmp_lt hk 23 dX5_at_18 (by decide) (fun h18 => ?_) (fun h18 => ?_)
      · refine xaload_n hk dX5_at_23 rfl ?_
        refine xgetR (ci := 5) (f := 0) hk dX5_at_24 ⟨rfl, by decide, _, rfl, rfl⟩ kX5_9 ?_
        refine xiload_n hk dX5_at_27 rfl ?_
        refine xbald hk dX5_at_28 rfl (vin h1 (fun z => Int32.not_le.mpr h18 z) (by decide)) ?_
        refine xsipush (v := 255) hk dX5_at_29 (by decide) ?_
        refine xiand hk dX5_at_32 ?_
        refine xiret hk he dX5_at_33 ⟨by decide, by decide⟩ ?_
        exact ⟨by have h18 := Int32.not_le.mpr h18; simp [atF, h1, h9, h18], rfl⟩
      · refine xiconst (v := (-1)) hk dX5_at_21 (by decide) ?_
        refine xiret hk he dX5_at_22 ⟨by decide, by decide⟩ ?_
        exact ⟨by first | simp [atF, h1]; done | simp [atF, h1, h9]; done | (have h18 := Int32.not_lt.mp h18; simp [atF, h1, h9, h18]), rfl⟩
