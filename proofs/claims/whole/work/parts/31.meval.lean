theorem kX10_74 : Cond.methodLink RX10 74 yX10_has ∈ GW := gw_mem 1581 (by decide +kernel) (by decide +kernel)
theorem bX10_has : CBs yX10_has cX10_has 2 (some .boolean) 2 := ⟨⟨gw_mem 1583 (by decide +kernel) (by decide +kernel), gw_mem 14 (by decide +kernel) (by decide +kernel), by decide +kernel, by decide⟩, gw_mem 1582 (by decide +kernel) (by decide +kernel)⟩
theorem kX9_9 : Cond.fieldLink RX9 9 "FeudBookModel$Plan" "its" "[I" ∈ GW := gw_mem 1138 (by decide +kernel) (by decide +kernel)
theorem kX9_15 : Cond.fieldLink RX9 15 "FeudBookModel$Plan" "first" "[I" ∈ GW := gw_mem 1140 (by decide +kernel) (by decide +kernel)
theorem kX9_18 : Cond.fieldLink RX9 18 "FeudBookModel$Plan" "second" "[I" ∈ GW := gw_mem 1142 (by decide +kernel) (by decide +kernel)
theorem kX9_39 : Cond.fieldLink RX9 39 "FeudBookModel$Plan" "families" "I" ∈ GW := gw_mem 1134 (by decide +kernel) (by decide +kernel)
theorem kX9_43 : Cond.fieldLink RX9 43 "FeudBookModel$Plan" "statements" "I" ∈ GW := gw_mem 1136 (by decide +kernel) (by decide +kernel)
theorem kX10_35 : Cond.fieldLink RX10 35 "FeudBookModel" "plan" "LFeudBookModel$Plan;" ∈ GW := gw_mem 1202 (by decide +kernel) (by decide +kernel)
theorem kX10_63 : Cond.fieldLinkNest RX10 63 "FeudBookModel$Plan" "statements" "I" "FeudBookModel" ∈ NW := nw_mem 1137 (by decide +kernel) rfl
theorem kX10_78 : Cond.methodLink RX10 78 yX9_one ∈ GW := gw_mem 1604 (by decide +kernel) (by decide +kernel)
theorem bX9_one : CBv yX9_one cX9_one 2 (some .int) 1 := ⟨⟨gw_mem 1607 (by decide +kernel) (by decide +kernel), gw_mem 15 (by decide +kernel) (by decide +kernel), by decide +kernel, by decide⟩, gw_mem 1605 (by decide +kernel) (by decide +kernel), gw_mem 1606 (by decide +kernel) (by decide +kernel)⟩
theorem kX10_82 : Cond.methodLink RX10 82 yX10_holds ∈ GW := gw_mem 1608 (by decide +kernel) (by decide +kernel)
theorem bX10_holds : CBs yX10_holds cX10_holds 2 (some .boolean) 2 := ⟨⟨gw_mem 1610 (by decide +kernel) (by decide +kernel), gw_mem 14 (by decide +kernel) (by decide +kernel), by decide +kernel, by decide⟩, gw_mem 1609 (by decide +kernel) (by decide +kernel)⟩
theorem kX10_85 : Cond.methodLink RX10 85 yX9_other ∈ GW := gw_mem 1611 (by decide +kernel) (by decide +kernel)
theorem bX9_other : CBv yX9_other cX9_other 2 (some .int) 1 := ⟨⟨gw_mem 1614 (by decide +kernel) (by decide +kernel), gw_mem 15 (by decide +kernel) (by decide +kernel), by decide +kernel, by decide⟩, gw_mem 1612 (by decide +kernel) (by decide +kernel), gw_mem 1613 (by decide +kernel) (by decide +kernel)⟩
theorem kX10_88 : Cond.fieldLinkNest RX10 88 "FeudBookModel$Plan" "families" "I" "FeudBookModel" ∈ NW := nw_mem 1135 (by decide +kernel) rfl
theorem kX10_91 : Cond.methodLink RX10 91 yX10_isPeace ∈ GW := gw_mem 1600 (by decide +kernel) (by decide +kernel)
theorem bX10_isPeace : CBv yX10_isPeace cX10_isPeace 4 (some .boolean) 2 := ⟨⟨gw_mem 1603 (by decide +kernel) (by decide +kernel), gw_mem 14 (by decide +kernel) (by decide +kernel), by decide +kernel, by decide⟩, gw_mem 1602 (by decide +kernel) (by decide +kernel), gw_sel 92 (by decide +kernel) (by decide +kernel)⟩
theorem kX10_70 : Cond.methodLink RX10 70 yX9_claims ∈ GW := gw_mem 1618 (by decide +kernel) (by decide +kernel)
theorem bX9_claims : CBv yX9_claims cX9_claims 1 (some .int) 0 := ⟨⟨gw_mem 1621 (by decide +kernel) (by decide +kernel), gw_mem 15 (by decide +kernel) (by decide +kernel), by decide +kernel, by decide⟩, gw_mem 1619 (by decide +kernel) (by decide +kernel), gw_mem 1620 (by decide +kernel) (by decide +kernel)⟩
theorem kX10_48 : Cond.fieldLink RX10 48 "FeudBookModel" "with" "[I" ∈ GW := gw_mem 1212 (by decide +kernel) (by decide +kernel)
theorem kX10_94 : Cond.fieldLink RX10 94 "FeudBookModel" "peaces" "I" ∈ GW := gw_mem 1209 (by decide +kernel) (by decide +kernel)
theorem kX10_97 : Cond.fieldLink RX10 97 "FeudBookModel" "riders" "I" ∈ GW := gw_mem 1210 (by decide +kernel) (by decide +kernel)
theorem kX10_106 : Cond.methodLink RX10 106 yJ6_bitCount_0f7a4 ∈ GW := gw_mem 1556 (by decide +kernel) (by decide +kernel)
theorem kX10_100 : Cond.fieldLink RX10 100 "FeudBookModel" "told" "I" ∈ GW := gw_mem 1211 (by decide +kernel) (by decide +kernel)
theorem kX10_103 : Cond.methodLink RX10 103 yX10_isAhead ∈ GW := gw_mem 1615 (by decide +kernel) (by decide +kernel)
theorem bX10_isAhead : CBs yX10_isAhead cX10_isAhead 3 (some .boolean) 2 := ⟨⟨gw_mem 1617 (by decide +kernel) (by decide +kernel), gw_mem 14 (by decide +kernel) (by decide +kernel), by decide +kernel, by decide⟩, gw_mem 1616 (by decide +kernel) (by decide +kernel)⟩
theorem kX10_45 : Cond.fieldLink RX10 45 "FeudBookModel" "looked" "I" ∈ GW := gw_mem 1208 (by decide +kernel) (by decide +kernel)
def peaceL (x : XS) (r b : Int32) : Nat → Nat → Bool
  | 0, _ => true
  | n + 1, j => if mhasB b (nI j) then (if mholdsB r (oneF x 11 (nI j)) then peaceL x r b n (j + 1) else if mholdsB r (otherF x 11 (nI j)) then peaceL x r b n (j + 1) else false) else peaceL x r b n (j + 1)
def peaceF (x : XS) (r b : Int32) : Bool := peaceL x r b (x.1 11 1).toNatClampNeg 0
def anyL (x : XS) (b : Int32) : Nat → Nat → Bool
  | 0, _ => false
  | n + 1, j => if peaceF x (nI j) b then true else anyL x b n (j + 1)
def anyF (x : XS) (b : Int32) : Bool := anyL x b ((1 : Int32) <<< (x.1 11 0 &&& 31)).toNatClampNeg 0
def aheadB (r t : Int32) : Bool := decide (¬ (((r ^^^ t) &&& (-(r ^^^ t))) &&& r) = 0)

set_option maxHeartbeats 4000000 in
set_option maxRecDepth 100000 in
theorem c_X10_holds {g : Gx} {a : Nat → Nat} {x : XS} {lay : List Kd} {r c : Int32} : Mx g yX10_holds cX10_holds 2 (some .boolean) 2 0 0 lay a x [.int r, .int c] (pr (some (.int (b2i (mholdsB r c)))) x) := by
  refine Mx_of (by decide +kernel) (Nat.le_of_ble_eq_true rfl) ?_
  intro k hk he hg
  subst hg

  refine xiload_n hk dX10_holds_0 rfl ?_
  refine xiload_n hk dX10_holds_1 rfl ?_
  refine xiconst (v := 2) hk dX10_holds_2 (by decide) ?_
  refine xidiv hk dX10_holds_3 (by decide) ?_
  refine xcallS hk c_X10_has bX10_has kX10_74 dX10_holds_4 rfl rfl (by decide) ⟨by decide, by decide⟩ (Nat.le_of_ble_eq_true rfl) (det ?_)
  refine xiload_n hk dX10_holds_7 rfl ?_
  refine xiconst (v := 2) hk dX10_holds_8 (by decide) ?_
  refine xirem hk dX10_holds_9 (by decide) ?_
  refine xif_ne hk 17 dX10_holds_10 (by decide) (fun h10 => ?_) (fun h10 => ?_)
  · refine xiconst (v := 0) hk dX10_holds_17 (by decide) ?_
    refine xicmp_ne hk 25 dX10_holds_18 (by decide) (fun h18 => ?_) (fun h18 => ?_)
    · refine xiconst (v := 0) hk dX10_holds_25 (by decide) ?_
      refine xzret hk he dX10_holds_26 ⟨by decide, by decide⟩ (by first | with_reducible exact nar_b _ | rfl) ?_
      exact ⟨by simp only [mholdsB]; first | (rw [h10] at *; simp_all [b2i]; done) | (simp_all [b2i]; done) | (cases hb : mhasB r (c / 2) <;> simp_all [b2i]), rfl⟩
    · refine xiconst (v := 1) hk dX10_holds_21 (by decide) ?_
      refine xgoto hk 26 dX10_holds_22 (by decide) ?_
      refine xzret hk he dX10_holds_26 ⟨by decide, by decide⟩ (by first | with_reducible exact nar_b _ | rfl) ?_
      exact ⟨by simp only [mholdsB]; first | (rw [h10] at *; simp_all [b2i]; done) | (simp_all [b2i]; done) | (cases hb : mhasB r (c / 2) <;> simp_all [b2i]), rfl⟩
  · refine xiconst (v := 1) hk dX10_holds_13 (by decide) ?_
    refine xgoto hk 18 dX10_holds_14 (by decide) ?_
    refine xicmp_ne hk 25 dX10_holds_18 (by decide) (fun h18 => ?_) (fun h18 => ?_)
    · refine xiconst (v := 0) hk dX10_holds_25 (by decide) ?_
      refine xzret hk he dX10_holds_26 ⟨by decide, by decide⟩ (by first | with_reducible exact nar_b _ | rfl) ?_
      exact ⟨by simp only [mholdsB]; first | (rw [h10] at *; simp_all [b2i]; done) | (simp_all [b2i]; done) | (cases hb : mhasB r (c / 2) <;> simp_all [b2i]), rfl⟩
    · refine xiconst (v := 1) hk dX10_holds_21 (by decide) ?_
      refine xgoto hk 26 dX10_holds_22 (by decide) ?_
      refine xzret hk he dX10_holds_26 ⟨by decide, by decide⟩ (by first | with_reducible exact nar_b _ | rfl) ?_
      exact ⟨by simp only [mholdsB]; first | (rw [h10] at *; simp_all [b2i]; done) | (simp_all [b2i]; done) | (cases hb : mhasB r (c / 2) <;> simp_all [b2i]), rfl⟩
set_option maxHeartbeats 4000000 in
set_option maxRecDepth 100000 in
theorem c_X9_one {g : Gx} {a : Nat → Nat} {x : XS} {kk : Int32} (hkk : vp_in kk 20) : Mx g yX9_one cX9_one 2 (some .int) 1 0 0 LM a x [.ref (a 11), .int kk] (pr (some (.int (oneF x 11 kk))) x) := by
  refine Mx_of (by decide +kernel) (Nat.le_of_ble_eq_true rfl) ?_
  intro k hk he hg
  subst hg

  refine xaload_n hk dX9_one_0 rfl ?_
  refine xgetR (ci := 9) (f := 2) hk dX9_one_1 ⟨rfl, by decide, _, rfl, rfl⟩ kX9_9 ?_
  refine xiload_n hk dX9_one_4 rfl ?_
  refine xiald hk dX9_one_5 rfl hkk ?_
  refine xiconst (v := 1) hk dX9_one_6 (by decide) ?_
  refine xicmp_eq hk 21 dX9_one_7 (by decide) (fun h7 => ?_) (fun h7 => ?_)
  · refine xaload_n hk dX9_one_21 rfl ?_
    refine xgetR (ci := 9) (f := 3) hk dX9_one_22 ⟨rfl, by decide, _, rfl, rfl⟩ kX9_15 ?_
    refine xiload_n hk dX9_one_25 rfl ?_
    refine xiald hk dX9_one_26 rfl hkk ?_
    refine xiconst (v := 1) hk dX9_one_27 (by decide) ?_
    refine xixor hk dX9_one_28 ?_
    refine xgoto hk 38 dX9_one_29 (by decide) ?_
    refine xiret hk he dX9_one_38 ⟨by decide, by decide⟩ ?_
    exact ⟨by simp [oneF, *], rfl⟩
  · refine xaload_n hk dX9_one_10 rfl ?_
    refine xgetR (ci := 9) (f := 2) hk dX9_one_11 ⟨rfl, by decide, _, rfl, rfl⟩ kX9_9 ?_
    refine xiload_n hk dX9_one_14 rfl ?_
    refine xiald hk dX9_one_15 rfl hkk ?_
    refine xbipush (v := 7) hk dX9_one_16 (by decide) ?_
    refine xicmp_ne hk 32 dX9_one_18 (by decide) (fun h18 => ?_) (fun h18 => ?_)
    · refine xaload_n hk dX9_one_32 rfl ?_
      refine xgetR (ci := 9) (f := 3) hk dX9_one_33 ⟨rfl, by decide, _, rfl, rfl⟩ kX9_15 ?_
      refine xiload_n hk dX9_one_36 rfl ?_
      refine xiald hk dX9_one_37 rfl hkk ?_
      refine xiret hk he dX9_one_38 ⟨by decide, by decide⟩ ?_
      exact ⟨by simp [oneF, *], rfl⟩
    · refine xaload_n hk dX9_one_21 rfl ?_
      refine xgetR (ci := 9) (f := 3) hk dX9_one_22 ⟨rfl, by decide, _, rfl, rfl⟩ kX9_15 ?_
      refine xiload_n hk dX9_one_25 rfl ?_
      refine xiald hk dX9_one_26 rfl hkk ?_
      refine xiconst (v := 1) hk dX9_one_27 (by decide) ?_
      refine xixor hk dX9_one_28 ?_
      refine xgoto hk 38 dX9_one_29 (by decide) ?_
      refine xiret hk he dX9_one_38 ⟨by decide, by decide⟩ ?_
      exact ⟨by simp [oneF, *], rfl⟩
set_option maxHeartbeats 4000000 in
set_option maxRecDepth 100000 in
theorem c_X9_other {g : Gx} {a : Nat → Nat} {x : XS} {kk : Int32} (hkk : vp_in kk 20) : Mx g yX9_other cX9_other 2 (some .int) 1 0 0 LM a x [.ref (a 11), .int kk] (pr (some (.int (otherF x 11 kk))) x) := by
  refine Mx_of (by decide +kernel) (Nat.le_of_ble_eq_true rfl) ?_
  intro k hk he hg
  subst hg

  refine xaload_n hk dX9_other_0 rfl ?_
  refine xgetR (ci := 9) (f := 2) hk dX9_other_1 ⟨rfl, by decide, _, rfl, rfl⟩ kX9_9 ?_
  refine xiload_n hk dX9_other_4 rfl ?_
  refine xiald hk dX9_other_5 rfl hkk ?_
  refine xbipush (v := 7) hk dX9_other_6 (by decide) ?_
  refine xicmp_ne hk 22 dX9_other_8 (by decide) (fun h8 => ?_) (fun h8 => ?_)
  · refine xaload_n hk dX9_other_22 rfl ?_
    refine xgetR (ci := 9) (f := 4) hk dX9_other_23 ⟨rfl, by decide, _, rfl, rfl⟩ kX9_18 ?_
    refine xiload_n hk dX9_other_26 rfl ?_
    refine xiald hk dX9_other_27 rfl hkk ?_
    refine xiret hk he dX9_other_28 ⟨by decide, by decide⟩ ?_
    exact ⟨by simp [otherF, *], rfl⟩
  · refine xaload_n hk dX9_other_11 rfl ?_
    refine xgetR (ci := 9) (f := 4) hk dX9_other_12 ⟨rfl, by decide, _, rfl, rfl⟩ kX9_18 ?_
    refine xiload_n hk dX9_other_15 rfl ?_
    refine xiald hk dX9_other_16 rfl hkk ?_
    refine xiconst (v := 1) hk dX9_other_17 (by decide) ?_
    refine xixor hk dX9_other_18 ?_
    refine xgoto hk 28 dX9_other_19 (by decide) ?_
    refine xiret hk he dX9_other_28 ⟨by decide, by decide⟩ ?_
    exact ⟨by simp [otherF, *], rfl⟩
set_option maxHeartbeats 4000000 in
set_option maxRecDepth 100000 in
theorem c_X9_claims {g : Gx} {a : Nat → Nat} {x : XS}  : Mx g yX9_claims cX9_claims 1 (some .int) 1 0 0 LM a x [.ref (a 11)] (pr (some (.int (2 * x.1 11 0))) x) := by
  refine Mx_of (by decide +kernel) (Nat.le_of_ble_eq_true rfl) ?_
  intro k hk he hg
  subst hg

  refine xiconst (v := 2) hk dX9_claims_0 (by decide) ?_
  refine xaload_n hk dX9_claims_1 rfl ?_
  refine xgetI (ci := 9) (f := 0) hk dX9_claims_2 ⟨rfl, by decide, _, rfl, rfl⟩ kX9_39 ?_
  refine ximul hk dX9_claims_5 ?_
  refine xiret hk he dX9_claims_6 ⟨by decide, by decide⟩ ?_
  exact ⟨rfl, rfl⟩
set_option maxHeartbeats 4000000 in
set_option maxRecDepth 100000 in
theorem c_X9_all {g : Gx} {a : Nat → Nat} {x : XS}  : Mx g yX9_all cX9_all 1 (some .int) 1 0 0 LM a x [.ref (a 11)] (pr (some (.int (((1 : Int32) <<< (x.1 11 1 &&& 31)) - 1))) x) := by
  refine Mx_of (by decide +kernel) (Nat.le_of_ble_eq_true rfl) ?_
  intro k hk he hg
  subst hg

  refine xiconst (v := 1) hk dX9_all_0 (by decide) ?_
  refine xaload_n hk dX9_all_1 rfl ?_
  refine xgetI (ci := 9) (f := 1) hk dX9_all_2 ⟨rfl, by decide, _, rfl, rfl⟩ kX9_43 ?_
  refine xishl hk dX9_all_5 ?_
  refine xiconst (v := 1) hk dX9_all_6 (by decide) ?_
  refine xisub hk dX9_all_7 ?_
  refine xiret hk he dX9_all_8 ⟨by decide, by decide⟩ ?_
  exact ⟨rfl, rfl⟩
set_option maxHeartbeats 4000000 in
set_option maxRecDepth 100000 in
theorem c_X10_isPeace {g : Gx} {a : Nat → Nat} {x : XS} {r b : Int32} (hS : (x.1 11 1).toNatClampNeg ≤ 20) : Mx g yX10_isPeace cX10_isPeace 4 (some .boolean) 4 0 0 LM a x [.ref (a 0), .int r, .int b] (pr (some (.int (b2i (peaceF x r b)))) x) := by
  refine Mx_of (by decide +kernel) (Nat.le_of_ble_eq_true rfl) ?_
  intro k hk he hg
  subst hg

  have loop : ∀ (m n j : Nat) (v : Int32), n < m → v = nI j → n + j = (x.1 11 1).toNatClampNeg → peaceL x r b n j = peaceF x r b → Wx k 0 0 LM a x 2 [(0, .ref (a 0)), (1, .int r), (2, .int b), (3, .int v)] [] := by
    intro m
    induction m with
    | zero => intros; omega
    | succ m ih =>
      intro n j v hm hv hj hI
      subst hv
      refine xiload_n hk dX10_isPeace_2 rfl ?_
      refine xaload_n hk dX10_isPeace_3 rfl ?_
      refine xgetR (ci := 10) (f := 11) hk dX10_isPeace_4 ⟨rfl, by decide, _, rfl, rfl⟩ kX10_35 ?_
      refine xgetNI (ci := 9) (f := 1) hk dX10_isPeace_7 ⟨rfl, by decide, _, rfl, rfl⟩ kX10_63 ?_
      refine xicmp_ge hk 59 dX10_isPeace_10 (by decide) (fun h10 => ?_) (fun h10 => ?_)
      · rw [le_nI (by omega)] at h10
        obtain rfl : n = 0 := by omega
        refine xiconst (v := 1) hk dX10_isPeace_59 (by decide) ?_
        refine xzret hk he dX10_isPeace_60 ⟨by decide, by decide⟩ (by first | with_reducible exact nar_b _ | rfl) ?_
        exact ⟨by rw [← hI]; rfl, rfl⟩
      · rw [le_nI (by omega)] at h10
        obtain ⟨n, rfl⟩ : ∃ n2, n = n2 + 1 := ⟨n - 1, by omega⟩
        rw [peaceL] at hI
        refine xiload_n hk dX10_isPeace_13 rfl ?_
        refine xiload_n hk dX10_isPeace_14 rfl ?_
        refine xcallS hk c_X10_has bX10_has kX10_74 dX10_isPeace_15 rfl rfl (by decide) ⟨by decide, by decide⟩ (Nat.le_of_ble_eq_true rfl) (det ?_)
        refine xif_eq hk 53 dX10_isPeace_18 (by decide) (fun h18 => ?_) (fun h18 => ?_)
        · rw [b2i_0] at h18
          rw [h18, if_neg Bool.false_ne_true] at hI
          refine xiinc hk dX10_isPeace_53 rfl (by decide) rfl ?_
          refine xgoto hk 2 dX10_isPeace_56 (by decide) ?_
          exact ih n (j + 1) _ (by omega) (nI_inc j) (by omega) hI
        · rw [b2i_t] at h18
          rw [if_pos h18] at hI
          refine xiload_n hk dX10_isPeace_21 rfl ?_
          refine xaload_n hk dX10_isPeace_22 rfl ?_
          refine xgetR (ci := 10) (f := 11) hk dX10_isPeace_23 ⟨rfl, by decide, _, rfl, rfl⟩ kX10_35 ?_
          refine xiload_n hk dX10_isPeace_26 rfl ?_
          refine xcallV hk (c_X9_one (vp_in_nI (by omega) (by decide))) bX9_one kX10_78 dX10_isPeace_27 rfl ⟨_, _, _, _, rfl, rfl⟩ rfl (by decide) ⟨by decide, by decide⟩ (Nat.le_of_ble_eq_true rfl) (det ?_)
          refine xcallS hk c_X10_holds bX10_holds kX10_82 dX10_isPeace_30 rfl rfl (by decide) ⟨by decide, by decide⟩ (Nat.le_of_ble_eq_true rfl) (det ?_)
          refine xif_ne hk 53 dX10_isPeace_33 (by decide) (fun h33 => ?_) (fun h33 => ?_)
          · rw [b2i_t] at h33
            rw [if_pos h33] at hI
            refine xiinc hk dX10_isPeace_53 rfl (by decide) rfl ?_
            refine xgoto hk 2 dX10_isPeace_56 (by decide) ?_
            exact ih n (j + 1) _ (by omega) (nI_inc j) (by omega) hI
          · rw [b2i_0] at h33
            rw [h33, if_neg Bool.false_ne_true] at hI
            refine xiload_n hk dX10_isPeace_36 rfl ?_
            refine xaload_n hk dX10_isPeace_37 rfl ?_
            refine xgetR (ci := 10) (f := 11) hk dX10_isPeace_38 ⟨rfl, by decide, _, rfl, rfl⟩ kX10_35 ?_
            refine xiload_n hk dX10_isPeace_41 rfl ?_
            refine xcallV hk (c_X9_other (vp_in_nI (by omega) (by decide))) bX9_other kX10_85 dX10_isPeace_42 rfl ⟨_, _, _, _, rfl, rfl⟩ rfl (by decide) ⟨by decide, by decide⟩ (Nat.le_of_ble_eq_true rfl) (det ?_)
            refine xcallS hk c_X10_holds bX10_holds kX10_82 dX10_isPeace_45 rfl rfl (by decide) ⟨by decide, by decide⟩ (Nat.le_of_ble_eq_true rfl) (det ?_)
            refine xif_ne hk 53 dX10_isPeace_48 (by decide) (fun h48 => ?_) (fun h48 => ?_)
            · rw [b2i_t] at h48
              rw [if_pos h48] at hI
              refine xiinc hk dX10_isPeace_53 rfl (by decide) rfl ?_
              refine xgoto hk 2 dX10_isPeace_56 (by decide) ?_
              exact ih n (j + 1) _ (by omega) (nI_inc j) (by omega) hI
            · rw [b2i_0] at h48
              rw [h48, if_neg Bool.false_ne_true] at hI
              refine xiconst (v := 0) hk dX10_isPeace_51 (by decide) ?_
              refine xzret hk he dX10_isPeace_52 ⟨by decide, by decide⟩ (by first | with_reducible exact nar_b _ | rfl) ?_
              exact ⟨by rw [← hI]; rfl, rfl⟩
  refine xiconst (v := 0) hk dX10_isPeace_0 (by decide) ?_
  refine xistore_n hk dX10_isPeace_1 (by decide) ?_
  exact loop _ _ 0 _ (Nat.lt_succ_self _) rfl (by omega) rfl
set_option maxHeartbeats 4000000 in
set_option maxRecDepth 100000 in
theorem c_X10_isAny {g : Gx} {a : Nat → Nat} {x : XS} {b : Int32} (hS : (x.1 11 1).toNatClampNeg ≤ 20) : Mx g yX10_isAny cX10_isAny 3 (some .boolean) 5 0 0 LM a x [.ref (a 0), .int b] (pr (some (.int (b2i (anyF x b)))) x) := by
  refine Mx_of (by decide +kernel) (Nat.le_of_ble_eq_true rfl) ?_
  intro k hk he hg
  subst hg

  have hC := cl_lt ((1 : Int32) <<< (x.1 11 0 &&& 31))
  have loop : ∀ (m n j : Nat) (v : Int32), n < m → v = nI j → n + j = ((1 : Int32) <<< (x.1 11 0 &&& 31)).toNatClampNeg → anyL x b n j = anyF x b → Wx k 0 0 LM a x 2 [(0, .ref (a 0)), (1, .int b), (2, .int v)] [] := by
    intro m
    induction m with
    | zero => intros; omega
    | succ m ih =>
      intro n j v hm hv hj hI
      subst hv
      refine xiload_n hk dX10_isAny_2 rfl ?_
      refine xiconst (v := 1) hk dX10_isAny_3 (by decide) ?_
      refine xaload_n hk dX10_isAny_4 rfl ?_
      refine xgetR (ci := 10) (f := 11) hk dX10_isAny_5 ⟨rfl, by decide, _, rfl, rfl⟩ kX10_35 ?_
      refine xgetNI (ci := 9) (f := 0) hk dX10_isAny_8 ⟨rfl, by decide, _, rfl, rfl⟩ kX10_88 ?_
      refine xishl hk dX10_isAny_11 ?_
      refine xicmp_ge hk 32 dX10_isAny_12 (by decide) (fun h12 => ?_) (fun h12 => ?_)
      · rw [le_nI (by omega)] at h12
        obtain rfl : n = 0 := by omega
        refine xiconst (v := 0) hk dX10_isAny_32 (by decide) ?_
        refine xzret hk he dX10_isAny_33 ⟨by decide, by decide⟩ (by first | with_reducible exact nar_b _ | rfl) ?_
        exact ⟨by rw [← hI]; rfl, rfl⟩
      · rw [le_nI (by omega)] at h12
        obtain ⟨n, rfl⟩ : ∃ n2, n = n2 + 1 := ⟨n - 1, by omega⟩
        rw [anyL] at hI
        refine xaload_n hk dX10_isAny_15 rfl ?_
        refine xiload_n hk dX10_isAny_16 rfl ?_
        refine xiload_n hk dX10_isAny_17 rfl ?_
        refine xcallV hk (c_X10_isPeace hS) bX10_isPeace kX10_91 dX10_isAny_18 rfl ⟨_, _, _, _, rfl, rfl⟩ rfl (by decide) ⟨by decide, by decide⟩ (Nat.le_of_ble_eq_true rfl) (det ?_)
        refine xif_eq hk 26 dX10_isAny_21 (by decide) (fun h21 => ?_) (fun h21 => ?_)
        · rw [b2i_0] at h21
          rw [h21, if_neg Bool.false_ne_true] at hI
          refine xiinc hk dX10_isAny_26 rfl (by decide) rfl ?_
          refine xgoto hk 2 dX10_isAny_29 (by decide) ?_
          exact ih n (j + 1) _ (by omega) (nI_inc j) (by omega) hI
        · rw [b2i_t] at h21
          rw [if_pos h21] at hI
          refine xiconst (v := 1) hk dX10_isAny_24 (by decide) ?_
          refine xzret hk he dX10_isAny_25 ⟨by decide, by decide⟩ (by first | with_reducible exact nar_b _ | rfl) ?_
          exact ⟨by rw [← hI]; rfl, rfl⟩
  refine xiconst (v := 0) hk dX10_isAny_0 (by decide) ?_
  refine xistore_n hk dX10_isAny_1 (by decide) ?_
  exact loop _ _ 0 _ (Nat.lt_succ_self _) rfl (by omega) rfl
set_option maxHeartbeats 4000000 in
set_option maxRecDepth 100000 in
theorem c_X10_isAhead {g : Gx} {a : Nat → Nat} {x : XS} {lay : List Kd} {r t : Int32} : Mx g yX10_isAhead cX10_isAhead 3 (some .boolean) 1 0 0 lay a x [.int r, .int t] (pr (some (.int (b2i (aheadB r t)))) x) := by
  refine Mx_of (by decide +kernel) (Nat.le_of_ble_eq_true rfl) ?_
  intro k hk he hg
  subst hg

  refine xiload_n hk dX10_isAhead_0 rfl ?_
  refine xiload_n hk dX10_isAhead_1 rfl ?_
  refine xixor hk dX10_isAhead_2 ?_
  refine xistore_n hk dX10_isAhead_3 (by decide) ?_
  refine xiload_n hk dX10_isAhead_4 rfl ?_
  refine xiload_n hk dX10_isAhead_5 rfl ?_
  refine xineg hk dX10_isAhead_6 ?_
  refine xiand hk dX10_isAhead_7 ?_
  refine xiload_n hk dX10_isAhead_8 rfl ?_
  refine xiand hk dX10_isAhead_9 ?_
  refine xif_eq hk 17 dX10_isAhead_10 (by decide) (fun h10 => ?_) (fun h10 => ?_)
  · refine xiconst (v := 0) hk dX10_isAhead_17 (by decide) ?_
    refine xzret hk he dX10_isAhead_18 ⟨by decide, by decide⟩ (by first | with_reducible exact nar_b _ | rfl) ?_
    exact ⟨by simp [aheadB, b2i, *], rfl⟩
  · refine xiconst (v := 1) hk dX10_isAhead_13 (by decide) ?_
    refine xgoto hk 18 dX10_isAhead_14 (by decide) ?_
    refine xzret hk he dX10_isAhead_18 ⟨by decide, by decide⟩ (by first | with_reducible exact nar_b _ | rfl) ?_
    exact ⟨by simp [aheadB, b2i, *], rfl⟩
def mlcF (r : Int32) (c : Nat) (z : XS) : XS := setI z 8 c (z.1 8 c + (if mholdsB r (nI c) then 1 else 0))
def mltF (r : Int32) (y : XS) : XS := if y.1 0 18 = 0 then setI y 0 20 r else if aheadB r (y.1 0 20) then setI y 0 20 r else y
def mlkF (b : Int32) (j : Nat) (y : XS) : XS := if peaceF y (nI j) b then
    let y1 := mltF (nI j) y
    let y2 := setI y1 0 18 (y1.1 0 18 + 1)
    let y3 := setI y2 0 19 (y2.1 0 19 + bcI (nI j))
    itP (mlcF (nI j)) (2 * y3.1 11 0).toNatClampNeg y3
  else y
def mlook (b : Int32) (x : XS) : XS := if x.1 0 17 = b then x else
  let x1 := setI (setI (setI (setI x 0 17 b) 0 18 0) 0 19 0) 0 20 0
  let x2 := itP (fun j y => setI y 8 j 0) 20 x1
  itP (mlkF b) ((1 : Int32) <<< (x2.1 11 0 &&& 31)).toNatClampNeg x2
theorem mlt_1 {r : Int32} {y : XS} {q k : Nat} (h : q ≠ 0) : (mltF r y).1 q k = y.1 q k := by
  unfold mltF; repeat' split
  all_goals first | rfl | rw [rdq h]
theorem mlk_1 {b : Int32} {j : Nat} {y : XS} {q k : Nat} (h : q ≠ 0) (h2 : q ≠ 8) : (mlkF b j y).1 q k = y.1 q k := by
  unfold mlkF
  split
  · simp only []
    rw [itP_1 (fun c z => by unfold mlcF; rw [rdq h2]), rdq h, rdq h, mlt_1 h]
  · rfl

set_option maxHeartbeats 4000000 in
set_option maxRecDepth 100000 in
theorem c_X10_look {g : Gx} {a : Nat → Nat} {x : XS} {b : Int32} (hS : (x.1 11 1).toNatClampNeg ≤ 20) (hF : (2 * x.1 11 0).toNatClampNeg ≤ 20) : Mx g yX10_look cX10_look 4 none 5 0 0 LM a x [.ref (a 0), .int b] (pr none (mlook b x)) := by
  refine Mx_of (by decide +kernel) (Nat.le_of_ble_eq_true rfl) ?_
  intro k hk he hg
  subst hg

  have l3 : ∀ (i : Nat) (z : XS), (2 * z.1 11 0).toNatClampNeg ≤ 20 → (∀ y : XS, y = itP (mlcF (nI i)) (2 * z.1 11 0).toNatClampNeg z → Wx k 0 0 LM a y 164 [(0, .ref (a 0)), (1, .int b), (2, .int (nI i))] []) → ∀ (n c : Nat) (v : Int32) (y : XS), (2 * z.1 11 0).toNatClampNeg - c < n → v = nI c → c ≤ (2 * z.1 11 0).toNatClampNeg → y = itP (mlcF (nI i)) c z → Wx k 0 0 LM a y 125 [(0, .ref (a 0)), (1, .int b), (2, .int (nI i)), (3, .int v)] [] := by
    intro i z hz kk n
    induction n with
    | zero => intros; omega
    | succ n ih =>
      intro c v y hn hv hc hy
      subst hv
      have e : y.1 11 0 = z.1 11 0 := by rw [hy, itP_1 (fun c z => by unfold mlcF; rw [rdq (by decide)])]
      refine xiload_n hk dX10_look_125 rfl ?_
      refine xaload_n hk dX10_look_126 rfl ?_
      refine xgetR (ci := 10) (f := 11) hk dX10_look_127 ⟨rfl, by decide, _, rfl, rfl⟩ kX10_35 ?_
      refine xcallV hk c_X9_claims bX9_claims kX10_70 dX10_look_130 rfl ⟨_, _, _, _, rfl, rfl⟩ rfl (by decide) ⟨by decide, by decide⟩ (Nat.le_of_ble_eq_true rfl) (det ?_)
      refine xicmp_ge hk 164 dX10_look_133 (by decide) (fun h133 => ?_) (fun h133 => ?_)
      · rw [e, le_nI (by omega)] at h133
        refine xsub [(0, _), (1, _), (2, _)] rfl ?_
        exact kk _ (by rw [hy, show c = (2 * z.1 11 0).toNatClampNeg by omega])
      · rw [e, le_nI (by omega)] at h133
        refine xaload_n hk dX10_look_136 rfl ?_
        refine xgetR (ci := 10) (f := 21) hk dX10_look_137 ⟨rfl, by decide, _, rfl, rfl⟩ kX10_48 ?_
        refine xiload_n hk dX10_look_140 rfl ?_
        refine xdup2 hk dX10_look_141 rfl rfl ?_
        refine xiald hk dX10_look_142 rfl (vp_in_nI (by omega) (by decide)) ?_
        rw [nI_clamp (by omega)]
        refine xiload_n hk dX10_look_143 rfl ?_
        refine xiload_n hk dX10_look_144 rfl ?_
        refine xcallS hk c_X10_holds bX10_holds kX10_82 dX10_look_145 rfl rfl (by decide) ⟨by decide, by decide⟩ (Nat.le_of_ble_eq_true rfl) (det ?_)
        refine xif_eq hk 155 dX10_look_148 (by decide) (fun h148 => ?_) (fun h148 => ?_)
        · rw [b2i_0] at h148
          refine xiconst (v := 0) hk dX10_look_155 (by decide) ?_
          refine xiadd hk dX10_look_156 ?_
          refine xiast hk dX10_look_157 rfl (vp_in_nI (by omega) (by decide)) ?_
          rw [nI_clamp (by omega)]
          refine xiinc hk dX10_look_158 rfl (by decide) rfl ?_
          refine xgoto hk 125 dX10_look_161 (by decide) ?_
          refine xsub [(0, _), (1, _), (2, _), (3, _)] rfl ?_
          exact ih (c + 1) _ _ (by omega) (nI_inc c) (by omega) (by rw [itP, ← hy, mlcF]; simp only [h148, if_true, if_false, Bool.false_eq_true])
        · rw [b2i_t] at h148
          refine xiconst (v := 1) hk dX10_look_151 (by decide) ?_
          refine xgoto hk 156 dX10_look_152 (by decide) ?_
          refine xiadd hk dX10_look_156 ?_
          refine xiast hk dX10_look_157 rfl (vp_in_nI (by omega) (by decide)) ?_
          rw [nI_clamp (by omega)]
          refine xiinc hk dX10_look_158 rfl (by decide) rfl ?_
          refine xgoto hk 125 dX10_look_161 (by decide) ?_
          refine xsub [(0, _), (1, _), (2, _), (3, _)] rfl ?_
          exact ih (c + 1) _ _ (by omega) (nI_inc c) (by omega) (by rw [itP, ← hy, mlcF]; simp only [h148, if_true, if_false, Bool.false_eq_true])
  have l2 : ∀ (z : XS), z.1 11 0 = x.1 11 0 → z.1 11 1 = x.1 11 1 → (∀ y : XS, y = itP (mlkF b) ((1 : Int32) <<< (z.1 11 0 &&& 31)).toNatClampNeg z → Wx k 0 0 LM a y 170 [(0, .ref (a 0))] []) → ∀ (n i : Nat) (v : Int32) (y : XS), ((1 : Int32) <<< (z.1 11 0 &&& 31)).toNatClampNeg - i < n → v = nI i → i ≤ ((1 : Int32) <<< (z.1 11 0 &&& 31)).toNatClampNeg → y = itP (mlkF b) i z → Wx k 0 0 LM a y 52 [(0, .ref (a 0)), (1, .int b), (2, .int v)] [] := by
    intro z hz0 hz1 kk n
    have hC := cl_lt ((1 : Int32) <<< (z.1 11 0 &&& 31))
    induction n with
    | zero => intros; omega
    | succ n ih =>
      intro i v y hn hv hi hy
      subst hv
      have e0 : y.1 11 0 = z.1 11 0 := by rw [hy, itP_1 (fun j y => mlk_1 (by decide) (by decide))]
      have e1 : y.1 11 1 = z.1 11 1 := by rw [hy, itP_1 (fun j y => mlk_1 (by decide) (by decide))]
      refine xiload_n hk dX10_look_52 rfl ?_
      refine xiconst (v := 1) hk dX10_look_53 (by decide) ?_
      refine xaload_n hk dX10_look_54 rfl ?_
      refine xgetR (ci := 10) (f := 11) hk dX10_look_55 ⟨rfl, by decide, _, rfl, rfl⟩ kX10_35 ?_
      refine xgetNI (ci := 9) (f := 0) hk dX10_look_58 ⟨rfl, by decide, _, rfl, rfl⟩ kX10_88 ?_
      refine xishl hk dX10_look_61 ?_
      refine xicmp_ge hk 170 dX10_look_62 (by decide) (fun h62 => ?_) (fun h62 => ?_)
      · rw [e0, le_nI (by omega)] at h62
        refine xsub [(0, _)] rfl ?_
        exact kk _ (by rw [hy, show i = ((1 : Int32) <<< (z.1 11 0 &&& 31)).toNatClampNeg by omega])
      · rw [e0, le_nI (by omega)] at h62
        refine xaload_n hk dX10_look_65 rfl ?_
        refine xiload_n hk dX10_look_66 rfl ?_
        refine xiload_n hk dX10_look_67 rfl ?_
        refine xcallV hk (c_X10_isPeace (by rw [e1, hz1]; exact hS)) bX10_isPeace kX10_91 dX10_look_68 rfl ⟨_, _, _, _, rfl, rfl⟩ rfl (by decide) ⟨by decide, by decide⟩ (Nat.le_of_ble_eq_true rfl) (det ?_)
        refine xif_ne hk 77 dX10_look_71 (by decide) (fun h71 => ?_) (fun h71 => ?_)
        · rw [b2i_t] at h71
          refine xaload_n hk dX10_look_77 rfl ?_
          refine xgetI (ci := 10) (f := 18) hk dX10_look_78 ⟨rfl, by decide, _, rfl, rfl⟩ kX10_94 ?_
          refine xif_eq hk 95 dX10_look_81 (by decide) (fun h81 => ?_) (fun h81 => ?_)
          · refine xaload_n hk dX10_look_95 rfl ?_
            refine xiload_n hk dX10_look_96 rfl ?_
            refine xputI (ci := 10) (f := 20) hk dX10_look_97 ⟨rfl, by decide, _, rfl, rfl⟩ kX10_100 ⟨rfl, by decide +kernel⟩ ?_
            refine xworld (x' := mltF (nI i) y) (by rw [mltF]; first | rw [if_pos h81] | rw [if_neg h81, if_pos h92] | rw [if_neg h81, h92, if_neg Bool.false_ne_true]) ?_
            generalize hm : mltF (nI i) y = y1
            refine xaload_n hk dX10_look_100 rfl ?_
            refine xdup hk dX10_look_101 rfl ?_
            refine xgetI (ci := 10) (f := 18) hk dX10_look_102 ⟨rfl, by decide, _, rfl, rfl⟩ kX10_94 ?_
            refine xiconst (v := 1) hk dX10_look_105 (by decide) ?_
            refine xiadd hk dX10_look_106 ?_
            refine xputI (ci := 10) (f := 18) hk dX10_look_107 ⟨rfl, by decide, _, rfl, rfl⟩ kX10_94 ⟨rfl, by decide +kernel⟩ ?_
            refine xaload_n hk dX10_look_110 rfl ?_
            refine xdup hk dX10_look_111 rfl ?_
            refine xgetI (ci := 10) (f := 19) hk dX10_look_112 ⟨rfl, by decide, _, rfl, rfl⟩ kX10_97 ?_
            refine xiload_n hk dX10_look_115 rfl ?_
            refine xcallS hk c_J6_bitCount_0f7a4 bJ6_bitCount_0f7a4 kX10_106 dX10_look_116 rfl rfl (by decide) ⟨by decide, by decide⟩ (Nat.le_of_ble_eq_true rfl) (det ?_)
            refine xiadd hk dX10_look_119 ?_
            refine xputI (ci := 10) (f := 19) hk dX10_look_120 ⟨rfl, by decide, _, rfl, rfl⟩ kX10_97 ⟨rfl, by decide +kernel⟩ ?_
            refine xiconst (v := 0) hk dX10_look_123 (by decide) ?_
            refine xistore_n hk dX10_look_124 (by decide) ?_
            generalize hw : setI (setI y1 0 18 (y1.1 0 18 + 1)) 0 19 ((setI y1 0 18 (y1.1 0 18 + 1)).1 0 19 + bcI (nI i)) = w
            refine l3 i w (by rw [← hw, rdq (by decide), rdq (by decide), ← hm, mlt_1 (by decide), e0, hz0]; exact hF) ?_ _ 0 _ w (Nat.lt_succ_self _) rfl (by omega) rfl
            intro y5 hy5
            refine xiinc hk dX10_look_164 rfl (by decide) rfl ?_
            refine xgoto hk 52 dX10_look_167 (by decide) ?_
            exact ih (i + 1) _ _ (by omega) (nI_inc i) (by omega) (by rw [itP, ← hy, mlkF, if_pos h71, hm, hy5, ← hw])
          · refine xiload_n hk dX10_look_84 rfl ?_
            refine xaload_n hk dX10_look_85 rfl ?_
            refine xgetI (ci := 10) (f := 20) hk dX10_look_86 ⟨rfl, by decide, _, rfl, rfl⟩ kX10_100 ?_
            refine xcallS hk c_X10_isAhead bX10_isAhead kX10_103 dX10_look_89 rfl rfl (by decide) ⟨by decide, by decide⟩ (Nat.le_of_ble_eq_true rfl) (det ?_)
            refine xif_eq hk 100 dX10_look_92 (by decide) (fun h92 => ?_) (fun h92 => ?_)
            · rw [b2i_0] at h92
              refine xworld (x' := mltF (nI i) y) (by rw [mltF]; first | rw [if_pos h81] | rw [if_neg h81, if_pos h92] | rw [if_neg h81, h92, if_neg Bool.false_ne_true]) ?_
              generalize hm : mltF (nI i) y = y1
              refine xaload_n hk dX10_look_100 rfl ?_
              refine xdup hk dX10_look_101 rfl ?_
              refine xgetI (ci := 10) (f := 18) hk dX10_look_102 ⟨rfl, by decide, _, rfl, rfl⟩ kX10_94 ?_
              refine xiconst (v := 1) hk dX10_look_105 (by decide) ?_
              refine xiadd hk dX10_look_106 ?_
              refine xputI (ci := 10) (f := 18) hk dX10_look_107 ⟨rfl, by decide, _, rfl, rfl⟩ kX10_94 ⟨rfl, by decide +kernel⟩ ?_
              refine xaload_n hk dX10_look_110 rfl ?_
              refine xdup hk dX10_look_111 rfl ?_
              refine xgetI (ci := 10) (f := 19) hk dX10_look_112 ⟨rfl, by decide, _, rfl, rfl⟩ kX10_97 ?_
              refine xiload_n hk dX10_look_115 rfl ?_
              refine xcallS hk c_J6_bitCount_0f7a4 bJ6_bitCount_0f7a4 kX10_106 dX10_look_116 rfl rfl (by decide) ⟨by decide, by decide⟩ (Nat.le_of_ble_eq_true rfl) (det ?_)
              refine xiadd hk dX10_look_119 ?_
              refine xputI (ci := 10) (f := 19) hk dX10_look_120 ⟨rfl, by decide, _, rfl, rfl⟩ kX10_97 ⟨rfl, by decide +kernel⟩ ?_
              refine xiconst (v := 0) hk dX10_look_123 (by decide) ?_
              refine xistore_n hk dX10_look_124 (by decide) ?_
              generalize hw : setI (setI y1 0 18 (y1.1 0 18 + 1)) 0 19 ((setI y1 0 18 (y1.1 0 18 + 1)).1 0 19 + bcI (nI i)) = w
              refine l3 i w (by rw [← hw, rdq (by decide), rdq (by decide), ← hm, mlt_1 (by decide), e0, hz0]; exact hF) ?_ _ 0 _ w (Nat.lt_succ_self _) rfl (by omega) rfl
              intro y5 hy5
              refine xiinc hk dX10_look_164 rfl (by decide) rfl ?_
              refine xgoto hk 52 dX10_look_167 (by decide) ?_
              exact ih (i + 1) _ _ (by omega) (nI_inc i) (by omega) (by rw [itP, ← hy, mlkF, if_pos h71, hm, hy5, ← hw])
            · rw [b2i_t] at h92
              refine xaload_n hk dX10_look_95 rfl ?_
              refine xiload_n hk dX10_look_96 rfl ?_
              refine xputI (ci := 10) (f := 20) hk dX10_look_97 ⟨rfl, by decide, _, rfl, rfl⟩ kX10_100 ⟨rfl, by decide +kernel⟩ ?_
              refine xworld (x' := mltF (nI i) y) (by rw [mltF]; first | rw [if_pos h81] | rw [if_neg h81, if_pos h92] | rw [if_neg h81, h92, if_neg Bool.false_ne_true]) ?_
              generalize hm : mltF (nI i) y = y1
              refine xaload_n hk dX10_look_100 rfl ?_
              refine xdup hk dX10_look_101 rfl ?_
              refine xgetI (ci := 10) (f := 18) hk dX10_look_102 ⟨rfl, by decide, _, rfl, rfl⟩ kX10_94 ?_
              refine xiconst (v := 1) hk dX10_look_105 (by decide) ?_
              refine xiadd hk dX10_look_106 ?_
              refine xputI (ci := 10) (f := 18) hk dX10_look_107 ⟨rfl, by decide, _, rfl, rfl⟩ kX10_94 ⟨rfl, by decide +kernel⟩ ?_
              refine xaload_n hk dX10_look_110 rfl ?_
              refine xdup hk dX10_look_111 rfl ?_
              refine xgetI (ci := 10) (f := 19) hk dX10_look_112 ⟨rfl, by decide, _, rfl, rfl⟩ kX10_97 ?_
              refine xiload_n hk dX10_look_115 rfl ?_
              refine xcallS hk c_J6_bitCount_0f7a4 bJ6_bitCount_0f7a4 kX10_106 dX10_look_116 rfl rfl (by decide) ⟨by decide, by decide⟩ (Nat.le_of_ble_eq_true rfl) (det ?_)
              refine xiadd hk dX10_look_119 ?_
              refine xputI (ci := 10) (f := 19) hk dX10_look_120 ⟨rfl, by decide, _, rfl, rfl⟩ kX10_97 ⟨rfl, by decide +kernel⟩ ?_
              refine xiconst (v := 0) hk dX10_look_123 (by decide) ?_
              refine xistore_n hk dX10_look_124 (by decide) ?_
              generalize hw : setI (setI y1 0 18 (y1.1 0 18 + 1)) 0 19 ((setI y1 0 18 (y1.1 0 18 + 1)).1 0 19 + bcI (nI i)) = w
              refine l3 i w (by rw [← hw, rdq (by decide), rdq (by decide), ← hm, mlt_1 (by decide), e0, hz0]; exact hF) ?_ _ 0 _ w (Nat.lt_succ_self _) rfl (by omega) rfl
              intro y5 hy5
              refine xiinc hk dX10_look_164 rfl (by decide) rfl ?_
              refine xgoto hk 52 dX10_look_167 (by decide) ?_
              exact ih (i + 1) _ _ (by omega) (nI_inc i) (by omega) (by rw [itP, ← hy, mlkF, if_pos h71, hm, hy5, ← hw])
        · rw [b2i_0] at h71
          refine xgoto hk 164 dX10_look_74 (by decide) ?_
          refine xiinc hk dX10_look_164 rfl (by decide) rfl ?_
          refine xgoto hk 52 dX10_look_167 (by decide) ?_
          exact ih (i + 1) _ _ (by omega) (nI_inc i) (by omega) (by rw [itP, ← hy, mlkF, h71, if_neg Bool.false_ne_true])
  have l1 : ∀ (z : XS), (∀ y : XS, y = itP (fun j y => setI y 8 j 0) 20 z → Wx k 0 0 LM a y 50 [(0, .ref (a 0)), (1, .int b)] []) → ∀ (n j : Nat) (v : Int32) (y : XS), 20 - j < n → v = nI j → j ≤ 20 → y = itP (fun j y => setI y 8 j 0) j z → Wx k 0 0 LM a y 31 [(0, .ref (a 0)), (1, .int b), (2, .int v)] [] := by
    intro z kk n
    induction n with
    | zero => intros; omega
    | succ n ih =>
      intro j v y hn hv hj hy
      subst hv
      refine xiload_n hk dX10_look_31 rfl ?_
      refine xbipush (v := 20) hk dX10_look_32 (by decide) ?_
      refine xicmp_ge hk 50 dX10_look_34 (by decide) (fun h34 => ?_) (fun h34 => ?_)
      · rw [show (20 : Int32) = nI 20 from rfl, nI_leI (by decide) (by omega)] at h34
        obtain rfl : j = 20 := by omega
        refine xsub [(0, _), (1, _)] rfl ?_
        exact kk _ hy
      · rw [show (20 : Int32) = nI 20 from rfl, nI_leI (by decide) (by omega)] at h34
        refine xaload_n hk dX10_look_37 rfl ?_
        refine xgetR (ci := 10) (f := 21) hk dX10_look_38 ⟨rfl, by decide, _, rfl, rfl⟩ kX10_48 ?_
        refine xiload_n hk dX10_look_41 rfl ?_
        refine xiconst (v := 0) hk dX10_look_42 (by decide) ?_
        refine xiast hk dX10_look_43 rfl (vp_in_nI (by omega) (by decide)) ?_
        rw [nI_clamp (by omega)]
        refine xiinc hk dX10_look_44 rfl (by decide) rfl ?_
        refine xgoto hk 31 dX10_look_47 (by decide) ?_
        exact ih (j + 1) _ _ (by omega) (nI_inc j) (by omega) (by subst hy; rfl)
  refine xaload_n hk dX10_look_0 rfl ?_
  refine xgetI (ci := 10) (f := 17) hk dX10_look_1 ⟨rfl, by decide, _, rfl, rfl⟩ kX10_45 ?_
  refine xiload_n hk dX10_look_4 rfl ?_
  refine xicmp_ne hk 9 dX10_look_5 (by decide) (fun h5 => ?_) (fun h5 => ?_)
  · refine xaload_n hk dX10_look_9 rfl ?_
    refine xiload_n hk dX10_look_10 rfl ?_
    refine xputI (ci := 10) (f := 17) hk dX10_look_11 ⟨rfl, by decide, _, rfl, rfl⟩ kX10_45 ⟨rfl, by decide +kernel⟩ ?_
    refine xaload_n hk dX10_look_14 rfl ?_
    refine xiconst (v := 0) hk dX10_look_15 (by decide) ?_
    refine xputI (ci := 10) (f := 18) hk dX10_look_16 ⟨rfl, by decide, _, rfl, rfl⟩ kX10_94 ⟨rfl, by decide +kernel⟩ ?_
    refine xaload_n hk dX10_look_19 rfl ?_
    refine xiconst (v := 0) hk dX10_look_20 (by decide) ?_
    refine xputI (ci := 10) (f := 19) hk dX10_look_21 ⟨rfl, by decide, _, rfl, rfl⟩ kX10_97 ⟨rfl, by decide +kernel⟩ ?_
    refine xaload_n hk dX10_look_24 rfl ?_
    refine xiconst (v := 0) hk dX10_look_25 (by decide) ?_
    refine xputI (ci := 10) (f := 20) hk dX10_look_26 ⟨rfl, by decide, _, rfl, rfl⟩ kX10_100 ⟨rfl, by decide +kernel⟩ ?_
    refine xiconst (v := 0) hk dX10_look_29 (by decide) ?_
    refine xistore_n hk dX10_look_30 (by decide) ?_
    generalize hz : setI (setI (setI (setI x 0 17 b) 0 18 0) 0 19 0) 0 20 0 = z
    refine l1 z ?_ _ 0 _ z (Nat.lt_succ_self _) rfl (by omega) rfl
    intro y3 hy3
    refine xiconst (v := 0) hk dX10_look_50 (by decide) ?_
    refine xistore_n hk dX10_look_51 (by decide) ?_
    have f0 : y3.1 11 0 = x.1 11 0 := by rw [hy3, itP_1 (fun j y => rdq (by decide)), ← hz]; rfl
    have f1 : y3.1 11 1 = x.1 11 1 := by rw [hy3, itP_1 (fun j y => rdq (by decide)), ← hz]; rfl
    refine l2 y3 f0 f1 ?_ _ 0 _ y3 (Nat.lt_succ_self _) rfl (by omega) rfl
    intro y5 hy5
    refine xvret hk he dX10_look_170 ⟨by decide, by decide⟩ ?_
    exact ⟨rfl, by rw [hy5, hy3, ← hz, mlook, if_neg h5]⟩
  · refine xvret hk he dX10_look_8 ⟨by decide, by decide⟩ ?_
    exact ⟨rfl, by rw [mlook, if_pos h5]⟩
