theorem kX1_7 : Cond.fieldLink RX1 7 "FeudBook$Course" "day" "I" ∈ GW := gw_mem 317 (by decide +kernel) (by decide +kernel)
theorem kX1_13 : Cond.fieldLink RX1 13 "FeudBook$Course" "standing" "I" ∈ GW := gw_mem 320 (by decide +kernel) (by decide +kernel)
theorem kX1_16 : Cond.fieldLink RX1 16 "FeudBook$Course" "carriedOut" "I" ∈ GW := gw_mem 323 (by decide +kernel) (by decide +kernel)
theorem kX1_19 : Cond.methodLinkNest RX1 19 yX8_has "FeudBook" ∈ NW := nw_mem 792 (by decide +kernel) rfl
theorem kX1_29 : Cond.methodLinkNest RX1 29 yX8_without "FeudBook" ∈ NW := nw_mem 794 (by decide +kernel) rfl
theorem bX8_without : CBs yX8_without cX8_without 2 (some .int) 2 := ⟨⟨gw_mem 547 (by decide +kernel) (by decide +kernel), gw_mem 13 (by decide +kernel) (by decide +kernel), by decide +kernel, by decide⟩, gw_mem 546 (by decide +kernel) (by decide +kernel)⟩
theorem kX1_25 : Cond.methodLinkNest RX1 25 yX8_with "FeudBook" ∈ NW := nw_mem 793 (by decide +kernel) rfl
theorem bX8_with : CBs yX8_with cX8_with 2 (some .int) 2 := ⟨⟨gw_mem 580 (by decide +kernel) (by decide +kernel), gw_mem 13 (by decide +kernel) (by decide +kernel), by decide +kernel, by decide⟩, gw_mem 579 (by decide +kernel) (by decide +kernel)⟩
theorem kX2_60 : Cond.fieldLink RX2 60 "FeudBook$Judge" "height" "I" ∈ GW := gw_mem 299 (by decide +kernel) (by decide +kernel)
theorem kX2_9 : Cond.fieldLink RX2 9 "FeudBook$Judge" "stack" "[I" ∈ GW := gw_mem 298 (by decide +kernel) (by decide +kernel)
def beginF (x : XS) (n : Int32) : XS := setI (setI (setI x 46 0 0) 46 1 (((1 : Int32) <<< (n &&& 31)) - 1)) 46 2 0
def ccopyF (x : XS) : XS := let x1 := setI x 47 0 (x.1 46 0); let x2 := setI x1 47 1 (x1.1 46 1); setI x2 47 2 (x2.1 46 2)
/-- Course.change at the course c -/
def changeF (x : XS) (c : Nat) (st : Int32) (rn : Bool) : XS := if hasB (x.1 c 1) st = rn then x else
  let x1 := setI x c 1 (if rn then withI (x.1 c 1) st else withoutI (x.1 c 1) st); setI x1 c 2 (x1.1 c 2 + 1)
def pushF (x : XS) (n : Int32) : XS := if x.1 44 4 < 0 then x else if nI 400 ≤ x.1 44 4 then x else let x1 := setI x 45 (x.1 44 4).toNatClampNeg n; setI x1 44 4 (x1.1 44 4 + 1)
def popF (x : XS) : Int32 × XS := if x.1 44 4 ≤ 0 then (0, x) else if x.1 44 4 ≤ nI 400 then (let x1 := setI x 44 4 (x.1 44 4 - 1); (x1.1 45 (x1.1 44 4).toNatClampNeg, x1)) else (0, x)
theorem vin_pop {h : Int32} (h1 : ¬ h ≤ 0) (h2 : h ≤ nI 400) : vp_in (h - 1) 400 := by
  rw [vp_in_iff]
  rw [Int32.le_iff_toInt_le] at h1 h2
  rw [nI_toInt (by decide)] at h2
  have h0 : (0 : Int32).toInt = 0 := rfl
  have h3 : (1 : Int32).toInt = 1 := rfl
  have h4 : (h - 1).toInt = h.toInt - 1 := by
    rw [Int32.toInt_sub, h3]
    have := Int32.toInt_lt h
    exact Int.bmod_eq_of_le (by omega) (by omega)
  omega

set_option maxHeartbeats 4000000 in
set_option maxRecDepth 100000 in
theorem c_X1_begin {g : Gx} {a : Nat → Nat} {x : XS} {n : Int32} : Mx g yX1_begin cX1_begin 2 none 1 0 0 LF a x [.ref (a 46), .int n] (pr none (beginF x n)) := by
  refine Mx_of (by decide +kernel) (Nat.le_of_ble_eq_true rfl) ?_
  intro k hk he hg
  subst hg

  refine xaload_n hk dX1_begin_0 rfl ?_
  refine xiconst (v := 0) hk dX1_begin_1 (by decide) ?_
  refine xputI (ci := 1) (f := 0) hk dX1_begin_2 ⟨rfl, by decide, _, rfl, rfl⟩ kX1_7 ⟨rfl, by decide +kernel⟩ ?_
  refine xaload_n hk dX1_begin_5 rfl ?_
  refine xiconst (v := 1) hk dX1_begin_6 (by decide) ?_
  refine xiload_n hk dX1_begin_7 rfl ?_
  refine xishl hk dX1_begin_8 ?_
  refine xiconst (v := 1) hk dX1_begin_9 (by decide) ?_
  refine xisub hk dX1_begin_10 ?_
  refine xputI (ci := 1) (f := 1) hk dX1_begin_11 ⟨rfl, by decide, _, rfl, rfl⟩ kX1_13 ⟨rfl, by decide +kernel⟩ ?_
  refine xaload_n hk dX1_begin_14 rfl ?_
  refine xiconst (v := 0) hk dX1_begin_15 (by decide) ?_
  refine xputI (ci := 1) (f := 2) hk dX1_begin_16 ⟨rfl, by decide, _, rfl, rfl⟩ kX1_16 ⟨rfl, by decide +kernel⟩ ?_
  refine xvret hk he dX1_begin_19 ⟨by decide, by decide⟩ ?_
  exact ⟨rfl, rfl⟩
set_option maxHeartbeats 4000000 in
set_option maxRecDepth 100000 in
theorem c_X1_copyFrom {g : Gx} {a : Nat → Nat} {x : XS}  : Mx g yX1_copyFrom cX1_copyFrom 2 none 1 0 0 LF a x [.ref (a 47), .ref (a 46)] (pr none (ccopyF x)) := by
  refine Mx_of (by decide +kernel) (Nat.le_of_ble_eq_true rfl) ?_
  intro k hk he hg
  subst hg

  refine xaload_n hk dX1_copyFrom_0 rfl ?_
  refine xaload_n hk dX1_copyFrom_1 rfl ?_
  refine xgetI (ci := 1) (f := 0) hk dX1_copyFrom_2 ⟨rfl, by decide, _, rfl, rfl⟩ kX1_7 ?_
  refine xputI (ci := 1) (f := 0) hk dX1_copyFrom_5 ⟨rfl, by decide, _, rfl, rfl⟩ kX1_7 ⟨rfl, by decide +kernel⟩ ?_
  refine xaload_n hk dX1_copyFrom_8 rfl ?_
  refine xaload_n hk dX1_copyFrom_9 rfl ?_
  refine xgetI (ci := 1) (f := 1) hk dX1_copyFrom_10 ⟨rfl, by decide, _, rfl, rfl⟩ kX1_13 ?_
  refine xputI (ci := 1) (f := 1) hk dX1_copyFrom_13 ⟨rfl, by decide, _, rfl, rfl⟩ kX1_13 ⟨rfl, by decide +kernel⟩ ?_
  refine xaload_n hk dX1_copyFrom_16 rfl ?_
  refine xaload_n hk dX1_copyFrom_17 rfl ?_
  refine xgetI (ci := 1) (f := 2) hk dX1_copyFrom_18 ⟨rfl, by decide, _, rfl, rfl⟩ kX1_16 ?_
  refine xputI (ci := 1) (f := 2) hk dX1_copyFrom_21 ⟨rfl, by decide, _, rfl, rfl⟩ kX1_16 ⟨rfl, by decide +kernel⟩ ?_
  refine xvret hk he dX1_copyFrom_24 ⟨by decide, by decide⟩ ?_
  exact ⟨rfl, rfl⟩
set_option maxHeartbeats 4000000 in
set_option maxRecDepth 100000 in
theorem c_X1_change46 {g : Gx} {a : Nat → Nat} {x : XS} {st : Int32} {rn : Bool} : Mx g yX1_change cX1_change 3 none 2 0 0 LF a x [.ref (a 46), .int st, .int (b2i rn)] (pr none (changeF x 46 st rn)) := by
  refine Mx_of (by decide +kernel) (Nat.le_of_ble_eq_true rfl) ?_
  intro k hk he hg
  subst hg

  refine xaload_n hk dX1_change_0 rfl ?_
  refine xgetI (ci := 1) (f := 1) hk dX1_change_1 ⟨rfl, by decide, _, rfl, rfl⟩ kX1_13 ?_
  refine xiload_n hk dX1_change_4 rfl ?_
  refine xcallSN hk c_X8_has bX8_has kX1_19 dX1_change_5 rfl rfl (by decide) ⟨by decide, by decide⟩ (Nat.le_of_ble_eq_true rfl) (det ?_)
  refine xiload_n hk dX1_change_8 rfl ?_
  refine xicmp_eq hk 49 dX1_change_9 (by decide) (fun h9 => ?_) (fun h9 => ?_)
  · refine xvret hk he dX1_change_49 ⟨by decide, by decide⟩ ?_
    exact ⟨rfl, by cases rn <;> simp_all [changeF, b2i, rdI]⟩
  · refine xaload_n hk dX1_change_12 rfl ?_
    refine xiload_n hk dX1_change_13 rfl ?_
    refine xif_eq hk 28 dX1_change_14 (by decide) (fun h14 => ?_) (fun h14 => ?_)
    · refine xaload_n hk dX1_change_28 rfl ?_
      refine xgetI (ci := 1) (f := 1) hk dX1_change_29 ⟨rfl, by decide, _, rfl, rfl⟩ kX1_13 ?_
      refine xiload_n hk dX1_change_32 rfl ?_
      refine xcallSN hk c_X8_without bX8_without kX1_29 dX1_change_33 rfl rfl (by decide) ⟨by decide, by decide⟩ (Nat.le_of_ble_eq_true rfl) (det ?_)
      refine xputI (ci := 1) (f := 1) hk dX1_change_36 ⟨rfl, by decide, _, rfl, rfl⟩ kX1_13 ⟨rfl, by decide +kernel⟩ ?_
      refine xaload_n hk dX1_change_39 rfl ?_
      refine xdup hk dX1_change_40 rfl ?_
      refine xgetI (ci := 1) (f := 2) hk dX1_change_41 ⟨rfl, by decide, _, rfl, rfl⟩ kX1_16 ?_
      refine xiconst (v := 1) hk dX1_change_44 (by decide) ?_
      refine xiadd hk dX1_change_45 ?_
      refine xputI (ci := 1) (f := 2) hk dX1_change_46 ⟨rfl, by decide, _, rfl, rfl⟩ kX1_16 ⟨rfl, by decide +kernel⟩ ?_
      refine xvret hk he dX1_change_49 ⟨by decide, by decide⟩ ?_
      exact ⟨rfl, by cases rn <;> simp_all [changeF, b2i, rdI]⟩
    · refine xaload_n hk dX1_change_17 rfl ?_
      refine xgetI (ci := 1) (f := 1) hk dX1_change_18 ⟨rfl, by decide, _, rfl, rfl⟩ kX1_13 ?_
      refine xiload_n hk dX1_change_21 rfl ?_
      refine xcallSN hk c_X8_with bX8_with kX1_25 dX1_change_22 rfl rfl (by decide) ⟨by decide, by decide⟩ (Nat.le_of_ble_eq_true rfl) (det ?_)
      refine xgoto hk 36 dX1_change_25 (by decide) ?_
      refine xputI (ci := 1) (f := 1) hk dX1_change_36 ⟨rfl, by decide, _, rfl, rfl⟩ kX1_13 ⟨rfl, by decide +kernel⟩ ?_
      refine xaload_n hk dX1_change_39 rfl ?_
      refine xdup hk dX1_change_40 rfl ?_
      refine xgetI (ci := 1) (f := 2) hk dX1_change_41 ⟨rfl, by decide, _, rfl, rfl⟩ kX1_16 ?_
      refine xiconst (v := 1) hk dX1_change_44 (by decide) ?_
      refine xiadd hk dX1_change_45 ?_
      refine xputI (ci := 1) (f := 2) hk dX1_change_46 ⟨rfl, by decide, _, rfl, rfl⟩ kX1_16 ⟨rfl, by decide +kernel⟩ ?_
      refine xvret hk he dX1_change_49 ⟨by decide, by decide⟩ ?_
      exact ⟨rfl, by cases rn <;> simp_all [changeF, b2i, rdI]⟩
set_option maxHeartbeats 4000000 in
set_option maxRecDepth 100000 in
theorem c_X1_change47 {g : Gx} {a : Nat → Nat} {x : XS} {st : Int32} {rn : Bool} : Mx g yX1_change cX1_change 3 none 2 0 0 LF a x [.ref (a 47), .int st, .int (b2i rn)] (pr none (changeF x 47 st rn)) := by
  refine Mx_of (by decide +kernel) (Nat.le_of_ble_eq_true rfl) ?_
  intro k hk he hg
  subst hg

  refine xaload_n hk dX1_change_0 rfl ?_
  refine xgetI (ci := 1) (f := 1) hk dX1_change_1 ⟨rfl, by decide, _, rfl, rfl⟩ kX1_13 ?_
  refine xiload_n hk dX1_change_4 rfl ?_
  refine xcallSN hk c_X8_has bX8_has kX1_19 dX1_change_5 rfl rfl (by decide) ⟨by decide, by decide⟩ (Nat.le_of_ble_eq_true rfl) (det ?_)
  refine xiload_n hk dX1_change_8 rfl ?_
  refine xicmp_eq hk 49 dX1_change_9 (by decide) (fun h9 => ?_) (fun h9 => ?_)
  · refine xvret hk he dX1_change_49 ⟨by decide, by decide⟩ ?_
    exact ⟨rfl, by cases rn <;> simp_all [changeF, b2i, rdI]⟩
  · refine xaload_n hk dX1_change_12 rfl ?_
    refine xiload_n hk dX1_change_13 rfl ?_
    refine xif_eq hk 28 dX1_change_14 (by decide) (fun h14 => ?_) (fun h14 => ?_)
    · refine xaload_n hk dX1_change_28 rfl ?_
      refine xgetI (ci := 1) (f := 1) hk dX1_change_29 ⟨rfl, by decide, _, rfl, rfl⟩ kX1_13 ?_
      refine xiload_n hk dX1_change_32 rfl ?_
      refine xcallSN hk c_X8_without bX8_without kX1_29 dX1_change_33 rfl rfl (by decide) ⟨by decide, by decide⟩ (Nat.le_of_ble_eq_true rfl) (det ?_)
      refine xputI (ci := 1) (f := 1) hk dX1_change_36 ⟨rfl, by decide, _, rfl, rfl⟩ kX1_13 ⟨rfl, by decide +kernel⟩ ?_
      refine xaload_n hk dX1_change_39 rfl ?_
      refine xdup hk dX1_change_40 rfl ?_
      refine xgetI (ci := 1) (f := 2) hk dX1_change_41 ⟨rfl, by decide, _, rfl, rfl⟩ kX1_16 ?_
      refine xiconst (v := 1) hk dX1_change_44 (by decide) ?_
      refine xiadd hk dX1_change_45 ?_
      refine xputI (ci := 1) (f := 2) hk dX1_change_46 ⟨rfl, by decide, _, rfl, rfl⟩ kX1_16 ⟨rfl, by decide +kernel⟩ ?_
      refine xvret hk he dX1_change_49 ⟨by decide, by decide⟩ ?_
      exact ⟨rfl, by cases rn <;> simp_all [changeF, b2i, rdI]⟩
    · refine xaload_n hk dX1_change_17 rfl ?_
      refine xgetI (ci := 1) (f := 1) hk dX1_change_18 ⟨rfl, by decide, _, rfl, rfl⟩ kX1_13 ?_
      refine xiload_n hk dX1_change_21 rfl ?_
      refine xcallSN hk c_X8_with bX8_with kX1_25 dX1_change_22 rfl rfl (by decide) ⟨by decide, by decide⟩ (Nat.le_of_ble_eq_true rfl) (det ?_)
      refine xgoto hk 36 dX1_change_25 (by decide) ?_
      refine xputI (ci := 1) (f := 1) hk dX1_change_36 ⟨rfl, by decide, _, rfl, rfl⟩ kX1_13 ⟨rfl, by decide +kernel⟩ ?_
      refine xaload_n hk dX1_change_39 rfl ?_
      refine xdup hk dX1_change_40 rfl ?_
      refine xgetI (ci := 1) (f := 2) hk dX1_change_41 ⟨rfl, by decide, _, rfl, rfl⟩ kX1_16 ?_
      refine xiconst (v := 1) hk dX1_change_44 (by decide) ?_
      refine xiadd hk dX1_change_45 ?_
      refine xputI (ci := 1) (f := 2) hk dX1_change_46 ⟨rfl, by decide, _, rfl, rfl⟩ kX1_16 ⟨rfl, by decide +kernel⟩ ?_
      refine xvret hk he dX1_change_49 ⟨by decide, by decide⟩ ?_
      exact ⟨rfl, by cases rn <;> simp_all [changeF, b2i, rdI]⟩
set_option maxHeartbeats 4000000 in
set_option maxRecDepth 100000 in
theorem c_X2_push {g : Gx} {a : Nat → Nat} {x : XS} {n : Int32} : Mx g yX2_push cX2_push 2 none 1 0 0 LF a x [.ref (a 44), .int n] (pr none (pushF x n)) := by
  refine Mx_of (by decide +kernel) (Nat.le_of_ble_eq_true rfl) ?_
  intro k hk he hg
  subst hg

  refine xaload_n hk dX2_push_0 rfl ?_
  refine xgetI (ci := 2) (f := 4) hk dX2_push_1 ⟨rfl, by decide, _, rfl, rfl⟩ kX2_60 ?_
  refine xif_lt hk 39 dX2_push_4 (by decide) (fun h4 => ?_) (fun h4 => ?_)
  · refine xvret hk he dX2_push_39 ⟨by decide, by decide⟩ ?_
    exact ⟨rfl, by simp [pushF, rdI, *]⟩
  · refine xaload_n hk dX2_push_7 rfl ?_
    refine xgetI (ci := 2) (f := 4) hk dX2_push_8 ⟨rfl, by decide, _, rfl, rfl⟩ kX2_60 ?_
    refine xaload_n hk dX2_push_11 rfl ?_
    refine xgetR (ci := 2) (f := 3) hk dX2_push_12 ⟨rfl, by decide, _, rfl, rfl⟩ kX2_9 ?_
    refine xalen (v := nI _) hk dX2_push_15 rfl (by decide) rfl ?_
    refine xicmp_ge hk 39 dX2_push_16 (by decide) (fun h16 => ?_) (fun h16 => ?_)
    · refine xvret hk he dX2_push_39 ⟨by decide, by decide⟩ ?_
      exact ⟨rfl, by simp [pushF, rdI, *]⟩
    · refine xaload_n hk dX2_push_19 rfl ?_
      refine xgetR (ci := 2) (f := 3) hk dX2_push_20 ⟨rfl, by decide, _, rfl, rfl⟩ kX2_9 ?_
      refine xaload_n hk dX2_push_23 rfl ?_
      refine xgetI (ci := 2) (f := 4) hk dX2_push_24 ⟨rfl, by decide, _, rfl, rfl⟩ kX2_60 ?_
      refine xiload_n hk dX2_push_27 rfl ?_
      refine xiast hk dX2_push_28 rfl (vin h4 h16 (by decide)) ?_
      refine xaload_n hk dX2_push_29 rfl ?_
      refine xdup hk dX2_push_30 rfl ?_
      refine xgetI (ci := 2) (f := 4) hk dX2_push_31 ⟨rfl, by decide, _, rfl, rfl⟩ kX2_60 ?_
      refine xiconst (v := 1) hk dX2_push_34 (by decide) ?_
      refine xiadd hk dX2_push_35 ?_
      refine xputI (ci := 2) (f := 4) hk dX2_push_36 ⟨rfl, by decide, _, rfl, rfl⟩ kX2_60 ⟨rfl, by decide +kernel⟩ ?_
      refine xvret hk he dX2_push_39 ⟨by decide, by decide⟩ ?_
      exact ⟨rfl, by simp [pushF, rdI, *]⟩
set_option maxHeartbeats 4000000 in
set_option maxRecDepth 100000 in
theorem c_X2_pop {g : Gx} {a : Nat → Nat} {x : XS}  : Mx g yX2_pop cX2_pop 1 (some .int) 1 0 0 LF a x [.ref (a 44)] (pr (some (.int (popF x).1)) (popF x).2) := by
  refine Mx_of (by decide +kernel) (Nat.le_of_ble_eq_true rfl) ?_
  intro k hk he hg
  subst hg

  refine xaload_n hk dX2_pop_0 rfl ?_
  refine xgetI (ci := 2) (f := 4) hk dX2_pop_1 ⟨rfl, by decide, _, rfl, rfl⟩ kX2_60 ?_
  refine xif_le hk 19 dX2_pop_4 (by decide) (fun h4 => ?_) (fun h4 => ?_)
  · refine xiconst (v := 0) hk dX2_pop_19 (by decide) ?_
    refine xiret hk he dX2_pop_20 ⟨by decide, by decide⟩ ?_
    exact ⟨by simp [popF, rdI, *], by simp [popF, *]⟩
  · refine xaload_n hk dX2_pop_7 rfl ?_
    refine xgetI (ci := 2) (f := 4) hk dX2_pop_8 ⟨rfl, by decide, _, rfl, rfl⟩ kX2_60 ?_
    refine xaload_n hk dX2_pop_11 rfl ?_
    refine xgetR (ci := 2) (f := 3) hk dX2_pop_12 ⟨rfl, by decide, _, rfl, rfl⟩ kX2_9 ?_
    refine xalen (v := nI _) hk dX2_pop_15 rfl (by decide) rfl ?_
    refine xicmp_le hk 21 dX2_pop_16 (by decide) (fun h16 => ?_) (fun h16 => ?_)
    · refine xaload_n hk dX2_pop_21 rfl ?_
      refine xdup hk dX2_pop_22 rfl ?_
      refine xgetI (ci := 2) (f := 4) hk dX2_pop_23 ⟨rfl, by decide, _, rfl, rfl⟩ kX2_60 ?_
      refine xiconst (v := 1) hk dX2_pop_26 (by decide) ?_
      refine xisub hk dX2_pop_27 ?_
      refine xputI (ci := 2) (f := 4) hk dX2_pop_28 ⟨rfl, by decide, _, rfl, rfl⟩ kX2_60 ⟨rfl, by decide +kernel⟩ ?_
      refine xaload_n hk dX2_pop_31 rfl ?_
      refine xgetR (ci := 2) (f := 3) hk dX2_pop_32 ⟨rfl, by decide, _, rfl, rfl⟩ kX2_9 ?_
      refine xaload_n hk dX2_pop_35 rfl ?_
      refine xgetI (ci := 2) (f := 4) hk dX2_pop_36 ⟨rfl, by decide, _, rfl, rfl⟩ kX2_60 ?_
      refine xiald hk dX2_pop_39 rfl (vin_pop h4 h16) ?_
      refine xiret hk he dX2_pop_40 ⟨by decide, by decide⟩ ?_
      exact ⟨by simp [popF, rdI, *], by simp [popF, *]⟩
    · refine xiconst (v := 0) hk dX2_pop_19 (by decide) ?_
      refine xiret hk he dX2_pop_20 ⟨by decide, by decide⟩ ?_
      exact ⟨by simp [popF, rdI, *], by simp [popF, *]⟩
