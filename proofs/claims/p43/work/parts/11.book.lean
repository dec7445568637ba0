theorem kX0_9 : Cond.fieldLink RX0 9 "FeudBook$Book" "kinds" "[I" ∈ GW := gw_mem 157 (by decide +kernel) (by decide +kernel)
theorem kX0_65 : Cond.methodLink RX0 65 yX0_entry ∈ GW := gw_mem 471 (by decide +kernel) (by decide +kernel)
theorem bX0_entry : CBs yX0_entry cX0_entry 2 (some .int) 2 := ⟨⟨gw_mem 473 (by decide +kernel) (by decide +kernel), gw_mem 16 (by decide +kernel) (by decide +kernel), by decide +kernel, by decide⟩, gw_mem 472 (by decide +kernel) (by decide +kernel)⟩
theorem kX0_15 : Cond.fieldLink RX0 15 "FeudBook$Book" "firsts" "[I" ∈ GW := gw_mem 158 (by decide +kernel) (by decide +kernel)
theorem kX0_18 : Cond.fieldLink RX0 18 "FeudBook$Book" "seconds" "[I" ∈ GW := gw_mem 159 (by decide +kernel) (by decide +kernel)
theorem kX0_21 : Cond.fieldLink RX0 21 "FeudBook$Book" "lefts" "[I" ∈ GW := gw_mem 160 (by decide +kernel) (by decide +kernel)
theorem kX0_24 : Cond.fieldLink RX0 24 "FeudBook$Book" "rights" "[I" ∈ GW := gw_mem 161 (by decide +kernel) (by decide +kernel)
theorem kX0_30 : Cond.fieldLink RX0 30 "FeudBook$Book" "targets" "[I" ∈ GW := gw_mem 167 (by decide +kernel) (by decide +kernel)
theorem kX0_33 : Cond.fieldLink RX0 33 "FeudBook$Book" "codeStarts" "[I" ∈ GW := gw_mem 168 (by decide +kernel) (by decide +kernel)
theorem kX0_36 : Cond.fieldLink RX0 36 "FeudBook$Book" "codeEnds" "[I" ∈ GW := gw_mem 169 (by decide +kernel) (by decide +kernel)
theorem kX0_39 : Cond.fieldLink RX0 39 "FeudBook$Book" "operations" "[I" ∈ GW := gw_mem 172 (by decide +kernel) (by decide +kernel)
theorem kX0_42 : Cond.fieldLink RX0 42 "FeudBook$Book" "firstNumbers" "[I" ∈ GW := gw_mem 173 (by decide +kernel) (by decide +kernel)
theorem kX0_45 : Cond.fieldLink RX0 45 "FeudBook$Book" "secondNumbers" "[I" ∈ GW := gw_mem 174 (by decide +kernel) (by decide +kernel)
theorem kX0_27 : Cond.fieldLink RX0 27 "FeudBook$Book" "verbs" "[I" ∈ GW := gw_mem 166 (by decide +kernel) (by decide +kernel)
theorem kX0_48 : Cond.fieldLink RX0 48 "FeudBook$Book" "families" "I" ∈ GW := gw_mem 147 (by decide +kernel) (by decide +kernel)
theorem kX0_52 : Cond.fieldLink RX0 52 "FeudBook$Book" "statements" "I" ∈ GW := gw_mem 152 (by decide +kernel) (by decide +kernel)
theorem kX0_55 : Cond.fieldLink RX0 55 "FeudBook$Book" "orders" "I" ∈ GW := gw_mem 162 (by decide +kernel) (by decide +kernel)
theorem kX0_58 : Cond.fieldLink RX0 58 "FeudBook$Book" "codeLength" "I" ∈ GW := gw_mem 170 (by decide +kernel) (by decide +kernel)
theorem kX0_61 : Cond.methodLink RX0 61 yX0_copy ∈ GW := gw_mem 1116 (by decide +kernel) (by decide +kernel)
theorem bX0_copy : CBs yX0_copy cX0_copy 4 none 3 := ⟨⟨gw_mem 1118 (by decide +kernel) (by decide +kernel), gw_mem 16 (by decide +kernel) (by decide +kernel), by decide +kernel, by decide⟩, gw_mem 1117 (by decide +kernel) (by decide +kernel)⟩
theorem vin {i : Int32} {n : Nat} (h1 : ¬ i < 0) (h2 : ¬ nI n ≤ i) (hn : n < 2 ^ 31) : vp_in i n := by
  rw [vp_in_iff]
  rw [Int32.lt_iff_toInt_lt] at h1
  rw [Int32.le_iff_toInt_le, nI_toInt hn] at h2
  have h0 : (0 : Int32).toInt = 0 := rfl
  omega
theorem le_nI {b : Int32} {j : Nat} (hj : j < 2 ^ 31) : b ≤ nI j ↔ b.toNatClampNeg ≤ j := by
  rw [Int32.le_iff_toInt_le, nI_toInt hj]
  show _ ↔ b.toInt.toNat ≤ j
  omega
theorem nI_lt' {b : Int32} {j : Nat} (hj : j < 2 ^ 31) : nI j < b ↔ j < b.toNatClampNeg := by
  rw [Int32.lt_iff_toInt_lt, nI_toInt hj]
  show _ ↔ j < b.toInt.toNat
  omega
theorem cl_lt (b : Int32) : b.toNatClampNeg < 2 ^ 31 := by
  show b.toInt.toNat < 2 ^ 31
  have := Int32.toInt_lt b
  omega
/-- an entry of a row of n numbers, 0 beside it -/
def entI (x : XS) (q n : Nat) (i : Int32) : Int32 := if i < 0 then 0 else if nI n ≤ i then 0 else x.1 q i.toNatClampNeg
theorem entI_nI {x : XS} {q n j : Nat} (h : j < n) (hn : n < 2 ^ 31) : entI x q n (nI j) = x.1 q j := by
  rw [entI, if_neg (nI_pos (by omega)), if_neg (nI_ge h hn), nI_clamp (by omega)]
/-- the first m numbers of the cell s put into the cell d -/
def cpF (x : XS) (s d m : Nat) : XS := (fun q k => if q = d ∧ k < m then x.1 s k else x.1 q k, x.2)
theorem cpF_0 (x : XS) (s d : Nat) : cpF x s d 0 = x := by simp [cpF]
theorem cpF_step {x : XS} {s d m : Nat} (h : s ≠ d) : setI (cpF x s d m) d m ((cpF x s d m).1 s m) = cpF x s d (m + 1) := by
  unfold setI cpF
  refine Prod.ext ?_ rfl
  funext q k
  by_cases hq : q = d
  · subst hq
    by_cases hk : k = m
    · subst hk; simp [h]
    · have : k < m + 1 ↔ k < m := by omega
      simp [hk, this]
  · simp [hq]
def lefI (kd f : Int32) : Int32 := if kd = 0 then f ^^^ 1 else if kd = 2 then f ^^^ 1 else f
def rigI (kd s : Int32) : Int32 := if kd = 2 then s ^^^ 1 else s
def clearF (x : XS) : XS := setI (setI (setI (setI x 8 0 0) 8 1 0) 8 7 0) 8 12 0
def addStF (x : XS) (kd f s : Int32) : XS := if x.1 8 1 < 0 then x else if 20 ≤ x.1 8 1 then x else
  setI (setI (setI (setI (setI (setI x 9 (x.1 8 1).toNatClampNeg kd) 10 (x.1 8 1).toNatClampNeg f) 11 (x.1 8 1).toNatClampNeg s) 12 (x.1 8 1).toNatClampNeg (lefI kd f)) 13 (x.1 8 1).toNatClampNeg (rigI kd s)) 8 1 (x.1 8 1 + 1)
def addOrF (x : XS) (rn st cs : Int32) : XS := if x.1 8 7 < 0 then x else if 16 ≤ x.1 8 7 then x else
  setI (setI (setI (setI (setI x 14 (x.1 8 7).toNatClampNeg (if rn = 0 then 0 else 1)) 15 (x.1 8 7).toNatClampNeg st) 16 (x.1 8 7).toNatClampNeg cs) 17 (x.1 8 7).toNatClampNeg (x.1 8 12)) 8 7 (x.1 8 7 + 1)
def addCoF (x : XS) (op f s : Int32) : XS := if x.1 8 12 < 0 then x else if 400 ≤ x.1 8 12 then x else
  setI (setI (setI (setI x 18 (x.1 8 12).toNatClampNeg op) 19 (x.1 8 12).toNatClampNeg f) 20 (x.1 8 12).toNatClampNeg s) 8 12 (x.1 8 12 + 1)

set_option maxHeartbeats 4000000 in
set_option maxRecDepth 100000 in
theorem c_X0_entry {g : Gx} {a : Nat → Nat} {x : XS} {lay : List Kd} {q n : Nat} {i : Int32} (hq : lay[q]? = some (.inr (0, n))) (hn : n < 2 ^ 31) : Mx g yX0_entry cX0_entry 2 (some .int) 1 0 0 lay a x [.ref (a q), .int i] (pr (some (.int (entI x q n i))) x) := by
  refine Mx_of (by decide +kernel) (Nat.le_of_ble_eq_true rfl) ?_
  intro k hk he hg
  subst hg

  refine xiload_n hk dX0_entry_0 rfl ?_
  refine xif_lt hk 16 dX0_entry_1 (by decide) (fun h1 => ?_) (fun h1 => ?_)
  · refine xiconst (v := 0) hk dX0_entry_16 (by decide) ?_
    refine xiret hk he dX0_entry_17 ⟨by decide, by decide⟩ ?_
    exact ⟨by simp [entI, *], rfl⟩
  · refine xiload_n hk dX0_entry_4 rfl ?_
    refine xaload_n hk dX0_entry_5 rfl ?_
    refine xalen (v := nI n) hk dX0_entry_6 hq (by decide) rfl ?_
    refine xicmp_ge hk 16 dX0_entry_7 (by decide) (fun h7 => ?_) (fun h7 => ?_)
    · refine xiconst (v := 0) hk dX0_entry_16 (by decide) ?_
      refine xiret hk he dX0_entry_17 ⟨by decide, by decide⟩ ?_
      exact ⟨by simp [entI, *], rfl⟩
    · refine xaload_n hk dX0_entry_10 rfl ?_
      refine xiload_n hk dX0_entry_11 rfl ?_
      refine xiald hk dX0_entry_12 hq (vin h1 h7 hn) ?_
      refine xgoto hk 17 dX0_entry_13 (by decide) ?_
      refine xiret hk he dX0_entry_17 ⟨by decide, by decide⟩ ?_
      exact ⟨by simp [entI, *], rfl⟩
set_option maxHeartbeats 4000000 in
set_option maxRecDepth 100000 in
theorem c_X0_kind {g : Gx} {a : Nat → Nat} {x : XS} {i : Int32} : Mx g yX0_kind cX0_kind 2 (some .int) 2 0 0 LF a x [.ref (a 21), .int i] (pr (some (.int (entI x 22 20 i))) x) := by
  refine Mx_of (by decide +kernel) (Nat.le_of_ble_eq_true rfl) ?_
  intro k hk he hg
  subst hg

  refine xaload_n hk dX0_kind_0 rfl ?_
  refine xgetR (ci := 0) (f := 2) hk dX0_kind_1 ⟨rfl, by decide, _, rfl, rfl⟩ kX0_9 ?_
  refine xiload_n hk dX0_kind_4 rfl ?_
  refine xcallS hk (c_X0_entry (q := 22) (n := 20) rfl (by decide)) bX0_entry kX0_65 dX0_kind_5 rfl rfl (by decide) ⟨by decide, by decide⟩ (Nat.le_of_ble_eq_true rfl) (det ?_)
  refine xiret hk he dX0_kind_8 ⟨by decide, by decide⟩ ?_
  exact ⟨rfl, rfl⟩
set_option maxHeartbeats 4000000 in
set_option maxRecDepth 100000 in
theorem c_X0_first {g : Gx} {a : Nat → Nat} {x : XS} {i : Int32} : Mx g yX0_first cX0_first 2 (some .int) 2 0 0 LF a x [.ref (a 21), .int i] (pr (some (.int (entI x 23 20 i))) x) := by
  refine Mx_of (by decide +kernel) (Nat.le_of_ble_eq_true rfl) ?_
  intro k hk he hg
  subst hg

  refine xaload_n hk dX0_first_0 rfl ?_
  refine xgetR (ci := 0) (f := 3) hk dX0_first_1 ⟨rfl, by decide, _, rfl, rfl⟩ kX0_15 ?_
  refine xiload_n hk dX0_first_4 rfl ?_
  refine xcallS hk (c_X0_entry (q := 23) (n := 20) rfl (by decide)) bX0_entry kX0_65 dX0_first_5 rfl rfl (by decide) ⟨by decide, by decide⟩ (Nat.le_of_ble_eq_true rfl) (det ?_)
  refine xiret hk he dX0_first_8 ⟨by decide, by decide⟩ ?_
  exact ⟨rfl, rfl⟩
set_option maxHeartbeats 4000000 in
set_option maxRecDepth 100000 in
theorem c_X0_second {g : Gx} {a : Nat → Nat} {x : XS} {i : Int32} : Mx g yX0_second cX0_second 2 (some .int) 2 0 0 LF a x [.ref (a 21), .int i] (pr (some (.int (entI x 24 20 i))) x) := by
  refine Mx_of (by decide +kernel) (Nat.le_of_ble_eq_true rfl) ?_
  intro k hk he hg
  subst hg

  refine xaload_n hk dX0_second_0 rfl ?_
  refine xgetR (ci := 0) (f := 4) hk dX0_second_1 ⟨rfl, by decide, _, rfl, rfl⟩ kX0_18 ?_
  refine xiload_n hk dX0_second_4 rfl ?_
  refine xcallS hk (c_X0_entry (q := 24) (n := 20) rfl (by decide)) bX0_entry kX0_65 dX0_second_5 rfl rfl (by decide) ⟨by decide, by decide⟩ (Nat.le_of_ble_eq_true rfl) (det ?_)
  refine xiret hk he dX0_second_8 ⟨by decide, by decide⟩ ?_
  exact ⟨rfl, rfl⟩
set_option maxHeartbeats 4000000 in
set_option maxRecDepth 100000 in
theorem c_X0_left {g : Gx} {a : Nat → Nat} {x : XS} {i : Int32} : Mx g yX0_left cX0_left 2 (some .int) 2 0 0 LF a x [.ref (a 21), .int i] (pr (some (.int (entI x 25 20 i))) x) := by
  refine Mx_of (by decide +kernel) (Nat.le_of_ble_eq_true rfl) ?_
  intro k hk he hg
  subst hg

  refine xaload_n hk dX0_left_0 rfl ?_
  refine xgetR (ci := 0) (f := 5) hk dX0_left_1 ⟨rfl, by decide, _, rfl, rfl⟩ kX0_21 ?_
  refine xiload_n hk dX0_left_4 rfl ?_
  refine xcallS hk (c_X0_entry (q := 25) (n := 20) rfl (by decide)) bX0_entry kX0_65 dX0_left_5 rfl rfl (by decide) ⟨by decide, by decide⟩ (Nat.le_of_ble_eq_true rfl) (det ?_)
  refine xiret hk he dX0_left_8 ⟨by decide, by decide⟩ ?_
  exact ⟨rfl, rfl⟩
set_option maxHeartbeats 4000000 in
set_option maxRecDepth 100000 in
theorem c_X0_right {g : Gx} {a : Nat → Nat} {x : XS} {i : Int32} : Mx g yX0_right cX0_right 2 (some .int) 2 0 0 LF a x [.ref (a 21), .int i] (pr (some (.int (entI x 26 20 i))) x) := by
  refine Mx_of (by decide +kernel) (Nat.le_of_ble_eq_true rfl) ?_
  intro k hk he hg
  subst hg

  refine xaload_n hk dX0_right_0 rfl ?_
  refine xgetR (ci := 0) (f := 6) hk dX0_right_1 ⟨rfl, by decide, _, rfl, rfl⟩ kX0_24 ?_
  refine xiload_n hk dX0_right_4 rfl ?_
  refine xcallS hk (c_X0_entry (q := 26) (n := 20) rfl (by decide)) bX0_entry kX0_65 dX0_right_5 rfl rfl (by decide) ⟨by decide, by decide⟩ (Nat.le_of_ble_eq_true rfl) (det ?_)
  refine xiret hk he dX0_right_8 ⟨by decide, by decide⟩ ?_
  exact ⟨rfl, rfl⟩
set_option maxHeartbeats 4000000 in
set_option maxRecDepth 100000 in
theorem c_X0_target {g : Gx} {a : Nat → Nat} {x : XS} {i : Int32} : Mx g yX0_target cX0_target 2 (some .int) 2 0 0 LF a x [.ref (a 21), .int i] (pr (some (.int (entI x 28 16 i))) x) := by
  refine Mx_of (by decide +kernel) (Nat.le_of_ble_eq_true rfl) ?_
  intro k hk he hg
  subst hg

  refine xaload_n hk dX0_target_0 rfl ?_
  refine xgetR (ci := 0) (f := 9) hk dX0_target_1 ⟨rfl, by decide, _, rfl, rfl⟩ kX0_30 ?_
  refine xiload_n hk dX0_target_4 rfl ?_
  refine xcallS hk (c_X0_entry (q := 28) (n := 16) rfl (by decide)) bX0_entry kX0_65 dX0_target_5 rfl rfl (by decide) ⟨by decide, by decide⟩ (Nat.le_of_ble_eq_true rfl) (det ?_)
  refine xiret hk he dX0_target_8 ⟨by decide, by decide⟩ ?_
  exact ⟨rfl, rfl⟩
set_option maxHeartbeats 4000000 in
set_option maxRecDepth 100000 in
theorem c_X0_codeStart {g : Gx} {a : Nat → Nat} {x : XS} {i : Int32} : Mx g yX0_codeStart cX0_codeStart 2 (some .int) 2 0 0 LF a x [.ref (a 21), .int i] (pr (some (.int (entI x 29 16 i))) x) := by
  refine Mx_of (by decide +kernel) (Nat.le_of_ble_eq_true rfl) ?_
  intro k hk he hg
  subst hg

  refine xaload_n hk dX0_codeStart_0 rfl ?_
  refine xgetR (ci := 0) (f := 10) hk dX0_codeStart_1 ⟨rfl, by decide, _, rfl, rfl⟩ kX0_33 ?_
  refine xiload_n hk dX0_codeStart_4 rfl ?_
  refine xcallS hk (c_X0_entry (q := 29) (n := 16) rfl (by decide)) bX0_entry kX0_65 dX0_codeStart_5 rfl rfl (by decide) ⟨by decide, by decide⟩ (Nat.le_of_ble_eq_true rfl) (det ?_)
  refine xiret hk he dX0_codeStart_8 ⟨by decide, by decide⟩ ?_
  exact ⟨rfl, rfl⟩
set_option maxHeartbeats 4000000 in
set_option maxRecDepth 100000 in
theorem c_X0_codeEnd {g : Gx} {a : Nat → Nat} {x : XS} {i : Int32} : Mx g yX0_codeEnd cX0_codeEnd 2 (some .int) 2 0 0 LF a x [.ref (a 21), .int i] (pr (some (.int (entI x 30 16 i))) x) := by
  refine Mx_of (by decide +kernel) (Nat.le_of_ble_eq_true rfl) ?_
  intro k hk he hg
  subst hg

  refine xaload_n hk dX0_codeEnd_0 rfl ?_
  refine xgetR (ci := 0) (f := 11) hk dX0_codeEnd_1 ⟨rfl, by decide, _, rfl, rfl⟩ kX0_36 ?_
  refine xiload_n hk dX0_codeEnd_4 rfl ?_
  refine xcallS hk (c_X0_entry (q := 30) (n := 16) rfl (by decide)) bX0_entry kX0_65 dX0_codeEnd_5 rfl rfl (by decide) ⟨by decide, by decide⟩ (Nat.le_of_ble_eq_true rfl) (det ?_)
  refine xiret hk he dX0_codeEnd_8 ⟨by decide, by decide⟩ ?_
  exact ⟨rfl, rfl⟩
set_option maxHeartbeats 4000000 in
set_option maxRecDepth 100000 in
theorem c_X0_operation {g : Gx} {a : Nat → Nat} {x : XS} {i : Int32} : Mx g yX0_operation cX0_operation 2 (some .int) 2 0 0 LF a x [.ref (a 21), .int i] (pr (some (.int (entI x 31 400 i))) x) := by
  refine Mx_of (by decide +kernel) (Nat.le_of_ble_eq_true rfl) ?_
  intro k hk he hg
  subst hg

  refine xaload_n hk dX0_operation_0 rfl ?_
  refine xgetR (ci := 0) (f := 13) hk dX0_operation_1 ⟨rfl, by decide, _, rfl, rfl⟩ kX0_39 ?_
  refine xiload_n hk dX0_operation_4 rfl ?_
  refine xcallS hk (c_X0_entry (q := 31) (n := 400) rfl (by decide)) bX0_entry kX0_65 dX0_operation_5 rfl rfl (by decide) ⟨by decide, by decide⟩ (Nat.le_of_ble_eq_true rfl) (det ?_)
  refine xiret hk he dX0_operation_8 ⟨by decide, by decide⟩ ?_
  exact ⟨rfl, rfl⟩
set_option maxHeartbeats 4000000 in
set_option maxRecDepth 100000 in
theorem c_X0_firstNumber {g : Gx} {a : Nat → Nat} {x : XS} {i : Int32} : Mx g yX0_firstNumber cX0_firstNumber 2 (some .int) 2 0 0 LF a x [.ref (a 21), .int i] (pr (some (.int (entI x 32 400 i))) x) := by
  refine Mx_of (by decide +kernel) (Nat.le_of_ble_eq_true rfl) ?_
  intro k hk he hg
  subst hg

  refine xaload_n hk dX0_firstNumber_0 rfl ?_
  refine xgetR (ci := 0) (f := 14) hk dX0_firstNumber_1 ⟨rfl, by decide, _, rfl, rfl⟩ kX0_42 ?_
  refine xiload_n hk dX0_firstNumber_4 rfl ?_
  refine xcallS hk (c_X0_entry (q := 32) (n := 400) rfl (by decide)) bX0_entry kX0_65 dX0_firstNumber_5 rfl rfl (by decide) ⟨by decide, by decide⟩ (Nat.le_of_ble_eq_true rfl) (det ?_)
  refine xiret hk he dX0_firstNumber_8 ⟨by decide, by decide⟩ ?_
  exact ⟨rfl, rfl⟩
set_option maxHeartbeats 4000000 in
set_option maxRecDepth 100000 in
theorem c_X0_secondNumber {g : Gx} {a : Nat → Nat} {x : XS} {i : Int32} : Mx g yX0_secondNumber cX0_secondNumber 2 (some .int) 2 0 0 LF a x [.ref (a 21), .int i] (pr (some (.int (entI x 33 400 i))) x) := by
  refine Mx_of (by decide +kernel) (Nat.le_of_ble_eq_true rfl) ?_
  intro k hk he hg
  subst hg

  refine xaload_n hk dX0_secondNumber_0 rfl ?_
  refine xgetR (ci := 0) (f := 15) hk dX0_secondNumber_1 ⟨rfl, by decide, _, rfl, rfl⟩ kX0_45 ?_
  refine xiload_n hk dX0_secondNumber_4 rfl ?_
  refine xcallS hk (c_X0_entry (q := 33) (n := 400) rfl (by decide)) bX0_entry kX0_65 dX0_secondNumber_5 rfl rfl (by decide) ⟨by decide, by decide⟩ (Nat.le_of_ble_eq_true rfl) (det ?_)
  refine xiret hk he dX0_secondNumber_8 ⟨by decide, by decide⟩ ?_
  exact ⟨rfl, rfl⟩
set_option maxHeartbeats 4000000 in
set_option maxRecDepth 100000 in
theorem c_X0_renews {g : Gx} {a : Nat → Nat} {x : XS} {i : Int32} : Mx g yX0_renews cX0_renews 2 (some .boolean) 2 0 0 LF a x [.ref (a 21), .int i] (pr (some (.int (b2i (decide (entI x 27 16 i = 1))))) x) := by
  refine Mx_of (by decide +kernel) (Nat.le_of_ble_eq_true rfl) ?_
  intro k hk he hg
  subst hg

  refine xaload_n hk dX0_renews_0 rfl ?_
  refine xgetR (ci := 0) (f := 8) hk dX0_renews_1 ⟨rfl, by decide, _, rfl, rfl⟩ kX0_27 ?_
  refine xiload_n hk dX0_renews_4 rfl ?_
  refine xcallS hk (c_X0_entry (q := 27) (n := 16) rfl (by decide)) bX0_entry kX0_65 dX0_renews_5 rfl rfl (by decide) ⟨by decide, by decide⟩ (Nat.le_of_ble_eq_true rfl) (det ?_)
  refine xiconst (v := 1) hk dX0_renews_8 (by decide) ?_
  refine xicmp_ne hk 16 dX0_renews_9 (by decide) (fun h9 => ?_) (fun h9 => ?_)
  · refine xiconst (v := 0) hk dX0_renews_16 (by decide) ?_
    refine xzret hk he dX0_renews_17 ⟨by decide, by decide⟩ (by first | with_reducible exact nar_b _ | rfl) ?_
    exact ⟨by simp [b2i, h9], rfl⟩
  · refine xiconst (v := 1) hk dX0_renews_12 (by decide) ?_
    refine xgoto hk 17 dX0_renews_13 (by decide) ?_
    refine xzret hk he dX0_renews_17 ⟨by decide, by decide⟩ (by first | with_reducible exact nar_b _ | rfl) ?_
    exact ⟨by simp [b2i, h9], rfl⟩
set_option maxHeartbeats 4000000 in
set_option maxRecDepth 100000 in
theorem c_X0_clear {g : Gx} {a : Nat → Nat} {x : XS}  : Mx g yX0_clear cX0_clear 1 none 1 0 0 LF a x [.ref (a 8)] (pr none (clearF x)) := by
  refine Mx_of (by decide +kernel) (Nat.le_of_ble_eq_true rfl) ?_
  intro k hk he hg
  subst hg

  refine xaload_n hk dX0_clear_0 rfl ?_
  refine xiconst (v := 0) hk dX0_clear_1 (by decide) ?_
  refine xputI (ci := 0) (f := 0) hk dX0_clear_2 ⟨rfl, by decide, _, rfl, rfl⟩ kX0_48 ⟨rfl, by decide +kernel⟩ ?_
  refine xaload_n hk dX0_clear_5 rfl ?_
  refine xiconst (v := 0) hk dX0_clear_6 (by decide) ?_
  refine xputI (ci := 0) (f := 1) hk dX0_clear_7 ⟨rfl, by decide, _, rfl, rfl⟩ kX0_52 ⟨rfl, by decide +kernel⟩ ?_
  refine xaload_n hk dX0_clear_10 rfl ?_
  refine xiconst (v := 0) hk dX0_clear_11 (by decide) ?_
  refine xputI (ci := 0) (f := 7) hk dX0_clear_12 ⟨rfl, by decide, _, rfl, rfl⟩ kX0_55 ⟨rfl, by decide +kernel⟩ ?_
  refine xaload_n hk dX0_clear_15 rfl ?_
  refine xiconst (v := 0) hk dX0_clear_16 (by decide) ?_
  refine xputI (ci := 0) (f := 12) hk dX0_clear_17 ⟨rfl, by decide, _, rfl, rfl⟩ kX0_58 ⟨rfl, by decide +kernel⟩ ?_
  refine xvret hk he dX0_clear_20 ⟨by decide, by decide⟩ ?_
  exact ⟨rfl, rfl⟩
set_option maxHeartbeats 4000000 in
set_option maxRecDepth 100000 in
theorem c_X0_addStatement {g : Gx} {a : Nat → Nat} {x : XS} {kd f s : Int32} : Mx g yX0_addStatement cX0_addStatement 4 none 1 0 0 LF a x [.ref (a 8), .int kd, .int f, .int s] (pr none (addStF x kd f s)) := by
  refine Mx_of (by decide +kernel) (Nat.le_of_ble_eq_true rfl) ?_
  intro k hk he hg
  subst hg

  refine xaload_n hk dX0_addStatement_0 rfl ?_
  refine xgetI (ci := 0) (f := 1) hk dX0_addStatement_1 ⟨rfl, by decide, _, rfl, rfl⟩ kX0_52 ?_
  refine xif_lt hk 102 dX0_addStatement_4 (by decide) (fun h4 => ?_) (fun h4 => ?_)
  · refine xvret hk he dX0_addStatement_102 ⟨by decide, by decide⟩ ?_
    first | exact absurd h81 h60 | exact absurd h60 h81 | exact absurd (h55.symm.trans h81) (by decide) | exact ⟨rfl, by simp [addStF, lefI, rigI, rdI, *]⟩
  · refine xaload_n hk dX0_addStatement_7 rfl ?_
    refine xgetI (ci := 0) (f := 1) hk dX0_addStatement_8 ⟨rfl, by decide, _, rfl, rfl⟩ kX0_52 ?_
    refine xbipush (v := 20) hk dX0_addStatement_11 (by decide) ?_
    refine xicmp_ge hk 102 dX0_addStatement_13 (by decide) (fun h13 => ?_) (fun h13 => ?_)
    · refine xvret hk he dX0_addStatement_102 ⟨by decide, by decide⟩ ?_
      first | exact absurd h81 h60 | exact absurd h60 h81 | exact absurd (h55.symm.trans h81) (by decide) | exact ⟨rfl, by simp [addStF, lefI, rigI, rdI, *]⟩
    · refine xaload_n hk dX0_addStatement_16 rfl ?_
      refine xgetR (ci := 0) (f := 2) hk dX0_addStatement_17 ⟨rfl, by decide, _, rfl, rfl⟩ kX0_9 ?_
      refine xaload_n hk dX0_addStatement_20 rfl ?_
      refine xgetI (ci := 0) (f := 1) hk dX0_addStatement_21 ⟨rfl, by decide, _, rfl, rfl⟩ kX0_52 ?_
      refine xiload_n hk dX0_addStatement_24 rfl ?_
      refine xiast hk dX0_addStatement_25 rfl (vin h4 h13 (by decide)) ?_
      refine xaload_n hk dX0_addStatement_26 rfl ?_
      refine xgetR (ci := 0) (f := 3) hk dX0_addStatement_27 ⟨rfl, by decide, _, rfl, rfl⟩ kX0_15 ?_
      refine xaload_n hk dX0_addStatement_30 rfl ?_
      refine xgetI (ci := 0) (f := 1) hk dX0_addStatement_31 ⟨rfl, by decide, _, rfl, rfl⟩ kX0_52 ?_
      refine xiload_n hk dX0_addStatement_34 rfl ?_
      refine xiast hk dX0_addStatement_35 rfl (vin h4 h13 (by decide)) ?_
      refine xaload_n hk dX0_addStatement_36 rfl ?_
      refine xgetR (ci := 0) (f := 4) hk dX0_addStatement_37 ⟨rfl, by decide, _, rfl, rfl⟩ kX0_18 ?_
      refine xaload_n hk dX0_addStatement_40 rfl ?_
      refine xgetI (ci := 0) (f := 1) hk dX0_addStatement_41 ⟨rfl, by decide, _, rfl, rfl⟩ kX0_52 ?_
      refine xiload_n hk dX0_addStatement_44 rfl ?_
      refine xiast hk dX0_addStatement_45 rfl (vin h4 h13 (by decide)) ?_
      refine xaload_n hk dX0_addStatement_46 rfl ?_
      refine xgetR (ci := 0) (f := 5) hk dX0_addStatement_47 ⟨rfl, by decide, _, rfl, rfl⟩ kX0_21 ?_
      refine xaload_n hk dX0_addStatement_50 rfl ?_
      refine xgetI (ci := 0) (f := 1) hk dX0_addStatement_51 ⟨rfl, by decide, _, rfl, rfl⟩ kX0_52 ?_
      refine xiload_n hk dX0_addStatement_54 rfl ?_
      refine xif_eq hk 63 dX0_addStatement_55 (by decide) (fun h55 => ?_) (fun h55 => ?_)
      · refine xiload_n hk dX0_addStatement_63 rfl ?_
        refine xiconst (v := 1) hk dX0_addStatement_64 (by decide) ?_
        refine xixor hk dX0_addStatement_65 ?_
        refine xgoto hk 70 dX0_addStatement_66 (by decide) ?_
        refine xiast hk dX0_addStatement_70 rfl (vin h4 h13 (by decide)) ?_
        refine xaload_n hk dX0_addStatement_71 rfl ?_
        refine xgetR (ci := 0) (f := 6) hk dX0_addStatement_72 ⟨rfl, by decide, _, rfl, rfl⟩ kX0_24 ?_
        refine xaload_n hk dX0_addStatement_75 rfl ?_
        refine xgetI (ci := 0) (f := 1) hk dX0_addStatement_76 ⟨rfl, by decide, _, rfl, rfl⟩ kX0_52 ?_
        refine xiload_n hk dX0_addStatement_79 rfl ?_
        refine xiconst (v := 2) hk dX0_addStatement_80 (by decide) ?_
        refine xicmp_ne hk 90 dX0_addStatement_81 (by decide) (fun h81 => ?_) (fun h81 => ?_)
        · refine xiload_n hk dX0_addStatement_90 rfl ?_
          refine xiast hk dX0_addStatement_91 rfl (vin h4 h13 (by decide)) ?_
          refine xaload_n hk dX0_addStatement_92 rfl ?_
          refine xdup hk dX0_addStatement_93 rfl ?_
          refine xgetI (ci := 0) (f := 1) hk dX0_addStatement_94 ⟨rfl, by decide, _, rfl, rfl⟩ kX0_52 ?_
          refine xiconst (v := 1) hk dX0_addStatement_97 (by decide) ?_
          refine xiadd hk dX0_addStatement_98 ?_
          refine xputI (ci := 0) (f := 1) hk dX0_addStatement_99 ⟨rfl, by decide, _, rfl, rfl⟩ kX0_52 ⟨rfl, by decide +kernel⟩ ?_
          refine xvret hk he dX0_addStatement_102 ⟨by decide, by decide⟩ ?_
          first | exact absurd h81 h60 | exact absurd h60 h81 | exact absurd (h55.symm.trans h81) (by decide) | exact ⟨rfl, by simp [addStF, lefI, rigI, rdI, *]⟩
        · refine xiload_n hk dX0_addStatement_84 rfl ?_
          refine xiconst (v := 1) hk dX0_addStatement_85 (by decide) ?_
          refine xixor hk dX0_addStatement_86 ?_
          refine xgoto hk 91 dX0_addStatement_87 (by decide) ?_
          refine xiast hk dX0_addStatement_91 rfl (vin h4 h13 (by decide)) ?_
          refine xaload_n hk dX0_addStatement_92 rfl ?_
          refine xdup hk dX0_addStatement_93 rfl ?_
          refine xgetI (ci := 0) (f := 1) hk dX0_addStatement_94 ⟨rfl, by decide, _, rfl, rfl⟩ kX0_52 ?_
          refine xiconst (v := 1) hk dX0_addStatement_97 (by decide) ?_
          refine xiadd hk dX0_addStatement_98 ?_
          refine xputI (ci := 0) (f := 1) hk dX0_addStatement_99 ⟨rfl, by decide, _, rfl, rfl⟩ kX0_52 ⟨rfl, by decide +kernel⟩ ?_
          refine xvret hk he dX0_addStatement_102 ⟨by decide, by decide⟩ ?_
          first | exact absurd h81 h60 | exact absurd h60 h81 | exact absurd (h55.symm.trans h81) (by decide) | exact ⟨rfl, by simp [addStF, lefI, rigI, rdI, *]⟩
      · refine xiload_n hk dX0_addStatement_58 rfl ?_
        refine xiconst (v := 2) hk dX0_addStatement_59 (by decide) ?_
        refine xicmp_ne hk 69 dX0_addStatement_60 (by decide) (fun h60 => ?_) (fun h60 => ?_)
        · refine xiload_n hk dX0_addStatement_69 rfl ?_
          refine xiast hk dX0_addStatement_70 rfl (vin h4 h13 (by decide)) ?_
          refine xaload_n hk dX0_addStatement_71 rfl ?_
          refine xgetR (ci := 0) (f := 6) hk dX0_addStatement_72 ⟨rfl, by decide, _, rfl, rfl⟩ kX0_24 ?_
          refine xaload_n hk dX0_addStatement_75 rfl ?_
          refine xgetI (ci := 0) (f := 1) hk dX0_addStatement_76 ⟨rfl, by decide, _, rfl, rfl⟩ kX0_52 ?_
          refine xiload_n hk dX0_addStatement_79 rfl ?_
          refine xiconst (v := 2) hk dX0_addStatement_80 (by decide) ?_
          refine xicmp_ne hk 90 dX0_addStatement_81 (by decide) (fun h81 => ?_) (fun h81 => ?_)
          · refine xiload_n hk dX0_addStatement_90 rfl ?_
            refine xiast hk dX0_addStatement_91 rfl (vin h4 h13 (by decide)) ?_
            refine xaload_n hk dX0_addStatement_92 rfl ?_
            refine xdup hk dX0_addStatement_93 rfl ?_
            refine xgetI (ci := 0) (f := 1) hk dX0_addStatement_94 ⟨rfl, by decide, _, rfl, rfl⟩ kX0_52 ?_
            refine xiconst (v := 1) hk dX0_addStatement_97 (by decide) ?_
            refine xiadd hk dX0_addStatement_98 ?_
            refine xputI (ci := 0) (f := 1) hk dX0_addStatement_99 ⟨rfl, by decide, _, rfl, rfl⟩ kX0_52 ⟨rfl, by decide +kernel⟩ ?_
            refine xvret hk he dX0_addStatement_102 ⟨by decide, by decide⟩ ?_
            first | exact absurd h81 h60 | exact absurd h60 h81 | exact absurd (h55.symm.trans h81) (by decide) | exact ⟨rfl, by simp [addStF, lefI, rigI, rdI, *]⟩
          · refine xiload_n hk dX0_addStatement_84 rfl ?_
            refine xiconst (v := 1) hk dX0_addStatement_85 (by decide) ?_
            refine xixor hk dX0_addStatement_86 ?_
            refine xgoto hk 91 dX0_addStatement_87 (by decide) ?_
            refine xiast hk dX0_addStatement_91 rfl (vin h4 h13 (by decide)) ?_
            refine xaload_n hk dX0_addStatement_92 rfl ?_
            refine xdup hk dX0_addStatement_93 rfl ?_
            refine xgetI (ci := 0) (f := 1) hk dX0_addStatement_94 ⟨rfl, by decide, _, rfl, rfl⟩ kX0_52 ?_
            refine xiconst (v := 1) hk dX0_addStatement_97 (by decide) ?_
            refine xiadd hk dX0_addStatement_98 ?_
            refine xputI (ci := 0) (f := 1) hk dX0_addStatement_99 ⟨rfl, by decide, _, rfl, rfl⟩ kX0_52 ⟨rfl, by decide +kernel⟩ ?_
            refine xvret hk he dX0_addStatement_102 ⟨by decide, by decide⟩ ?_
            first | exact absurd h81 h60 | exact absurd h60 h81 | exact absurd (h55.symm.trans h81) (by decide) | exact ⟨rfl, by simp [addStF, lefI, rigI, rdI, *]⟩
        · refine xiload_n hk dX0_addStatement_63 rfl ?_
          refine xiconst (v := 1) hk dX0_addStatement_64 (by decide) ?_
          refine xixor hk dX0_addStatement_65 ?_
          refine xgoto hk 70 dX0_addStatement_66 (by decide) ?_
          refine xiast hk dX0_addStatement_70 rfl (vin h4 h13 (by decide)) ?_
          refine xaload_n hk dX0_addStatement_71 rfl ?_
          refine xgetR (ci := 0) (f := 6) hk dX0_addStatement_72 ⟨rfl, by decide, _, rfl, rfl⟩ kX0_24 ?_
          refine xaload_n hk dX0_addStatement_75 rfl ?_
          refine xgetI (ci := 0) (f := 1) hk dX0_addStatement_76 ⟨rfl, by decide, _, rfl, rfl⟩ kX0_52 ?_
          refine xiload_n hk dX0_addStatement_79 rfl ?_
          refine xiconst (v := 2) hk dX0_addStatement_80 (by decide) ?_
          refine xicmp_ne hk 90 dX0_addStatement_81 (by decide) (fun h81 => ?_) (fun h81 => ?_)
          · refine xiload_n hk dX0_addStatement_90 rfl ?_
            refine xiast hk dX0_addStatement_91 rfl (vin h4 h13 (by decide)) ?_
            refine xaload_n hk dX0_addStatement_92 rfl ?_
            refine xdup hk dX0_addStatement_93 rfl ?_
            refine xgetI (ci := 0) (f := 1) hk dX0_addStatement_94 ⟨rfl, by decide, _, rfl, rfl⟩ kX0_52 ?_
            refine xiconst (v := 1) hk dX0_addStatement_97 (by decide) ?_
            refine xiadd hk dX0_addStatement_98 ?_
            refine xputI (ci := 0) (f := 1) hk dX0_addStatement_99 ⟨rfl, by decide, _, rfl, rfl⟩ kX0_52 ⟨rfl, by decide +kernel⟩ ?_
            refine xvret hk he dX0_addStatement_102 ⟨by decide, by decide⟩ ?_
            first | exact absurd h81 h60 | exact absurd h60 h81 | exact absurd (h55.symm.trans h81) (by decide) | exact ⟨rfl, by simp [addStF, lefI, rigI, rdI, *]⟩
          · refine xiload_n hk dX0_addStatement_84 rfl ?_
            refine xiconst (v := 1) hk dX0_addStatement_85 (by decide) ?_
            refine xixor hk dX0_addStatement_86 ?_
            refine xgoto hk 91 dX0_addStatement_87 (by decide) ?_
            refine xiast hk dX0_addStatement_91 rfl (vin h4 h13 (by decide)) ?_
            refine xaload_n hk dX0_addStatement_92 rfl ?_
            refine xdup hk dX0_addStatement_93 rfl ?_
            refine xgetI (ci := 0) (f := 1) hk dX0_addStatement_94 ⟨rfl, by decide, _, rfl, rfl⟩ kX0_52 ?_
            refine xiconst (v := 1) hk dX0_addStatement_97 (by decide) ?_
            refine xiadd hk dX0_addStatement_98 ?_
            refine xputI (ci := 0) (f := 1) hk dX0_addStatement_99 ⟨rfl, by decide, _, rfl, rfl⟩ kX0_52 ⟨rfl, by decide +kernel⟩ ?_
            refine xvret hk he dX0_addStatement_102 ⟨by decide, by decide⟩ ?_
            first | exact absurd h81 h60 | exact absurd h60 h81 | exact absurd (h55.symm.trans h81) (by decide) | exact ⟨rfl, by simp [addStF, lefI, rigI, rdI, *]⟩
set_option maxHeartbeats 4000000 in
set_option maxRecDepth 100000 in
theorem c_X0_addOrder {g : Gx} {a : Nat → Nat} {x : XS} {rn st cs : Int32} : Mx g yX0_addOrder cX0_addOrder 4 none 1 0 0 LF a x [.ref (a 8), .int rn, .int st, .int cs] (pr none (addOrF x rn st cs)) := by
  refine Mx_of (by decide +kernel) (Nat.le_of_ble_eq_true rfl) ?_
  intro k hk he hg
  subst hg

  refine xaload_n hk dX0_addOrder_0 rfl ?_
  refine xgetI (ci := 0) (f := 7) hk dX0_addOrder_1 ⟨rfl, by decide, _, rfl, rfl⟩ kX0_55 ?_
  refine xif_lt hk 77 dX0_addOrder_4 (by decide) (fun h4 => ?_) (fun h4 => ?_)
  · refine xvret hk he dX0_addOrder_77 ⟨by decide, by decide⟩ ?_
    exact ⟨rfl, by simp [addOrF, rdI, *]⟩
  · refine xaload_n hk dX0_addOrder_7 rfl ?_
    refine xgetI (ci := 0) (f := 7) hk dX0_addOrder_8 ⟨rfl, by decide, _, rfl, rfl⟩ kX0_55 ?_
    refine xbipush (v := 16) hk dX0_addOrder_11 (by decide) ?_
    refine xicmp_ge hk 77 dX0_addOrder_13 (by decide) (fun h13 => ?_) (fun h13 => ?_)
    · refine xvret hk he dX0_addOrder_77 ⟨by decide, by decide⟩ ?_
      exact ⟨rfl, by simp [addOrF, rdI, *]⟩
    · refine xaload_n hk dX0_addOrder_16 rfl ?_
      refine xgetR (ci := 0) (f := 8) hk dX0_addOrder_17 ⟨rfl, by decide, _, rfl, rfl⟩ kX0_27 ?_
      refine xaload_n hk dX0_addOrder_20 rfl ?_
      refine xgetI (ci := 0) (f := 7) hk dX0_addOrder_21 ⟨rfl, by decide, _, rfl, rfl⟩ kX0_55 ?_
      refine xiload_n hk dX0_addOrder_24 rfl ?_
      refine xif_eq hk 32 dX0_addOrder_25 (by decide) (fun h25 => ?_) (fun h25 => ?_)
      · refine xiconst (v := 0) hk dX0_addOrder_32 (by decide) ?_
        refine xiast hk dX0_addOrder_33 rfl (vin h4 h13 (by decide)) ?_
        refine xaload_n hk dX0_addOrder_34 rfl ?_
        refine xgetR (ci := 0) (f := 9) hk dX0_addOrder_35 ⟨rfl, by decide, _, rfl, rfl⟩ kX0_30 ?_
        refine xaload_n hk dX0_addOrder_38 rfl ?_
        refine xgetI (ci := 0) (f := 7) hk dX0_addOrder_39 ⟨rfl, by decide, _, rfl, rfl⟩ kX0_55 ?_
        refine xiload_n hk dX0_addOrder_42 rfl ?_
        refine xiast hk dX0_addOrder_43 rfl (vin h4 h13 (by decide)) ?_
        refine xaload_n hk dX0_addOrder_44 rfl ?_
        refine xgetR (ci := 0) (f := 10) hk dX0_addOrder_45 ⟨rfl, by decide, _, rfl, rfl⟩ kX0_33 ?_
        refine xaload_n hk dX0_addOrder_48 rfl ?_
        refine xgetI (ci := 0) (f := 7) hk dX0_addOrder_49 ⟨rfl, by decide, _, rfl, rfl⟩ kX0_55 ?_
        refine xiload_n hk dX0_addOrder_52 rfl ?_
        refine xiast hk dX0_addOrder_53 rfl (vin h4 h13 (by decide)) ?_
        refine xaload_n hk dX0_addOrder_54 rfl ?_
        refine xgetR (ci := 0) (f := 11) hk dX0_addOrder_55 ⟨rfl, by decide, _, rfl, rfl⟩ kX0_36 ?_
        refine xaload_n hk dX0_addOrder_58 rfl ?_
        refine xgetI (ci := 0) (f := 7) hk dX0_addOrder_59 ⟨rfl, by decide, _, rfl, rfl⟩ kX0_55 ?_
        refine xaload_n hk dX0_addOrder_62 rfl ?_
        refine xgetI (ci := 0) (f := 12) hk dX0_addOrder_63 ⟨rfl, by decide, _, rfl, rfl⟩ kX0_58 ?_
        refine xiast hk dX0_addOrder_66 rfl (vin h4 h13 (by decide)) ?_
        refine xaload_n hk dX0_addOrder_67 rfl ?_
        refine xdup hk dX0_addOrder_68 rfl ?_
        refine xgetI (ci := 0) (f := 7) hk dX0_addOrder_69 ⟨rfl, by decide, _, rfl, rfl⟩ kX0_55 ?_
        refine xiconst (v := 1) hk dX0_addOrder_72 (by decide) ?_
        refine xiadd hk dX0_addOrder_73 ?_
        refine xputI (ci := 0) (f := 7) hk dX0_addOrder_74 ⟨rfl, by decide, _, rfl, rfl⟩ kX0_55 ⟨rfl, by decide +kernel⟩ ?_
        refine xvret hk he dX0_addOrder_77 ⟨by decide, by decide⟩ ?_
        exact ⟨rfl, by simp [addOrF, rdI, *]⟩
      · refine xiconst (v := 1) hk dX0_addOrder_28 (by decide) ?_
        refine xgoto hk 33 dX0_addOrder_29 (by decide) ?_
        refine xiast hk dX0_addOrder_33 rfl (vin h4 h13 (by decide)) ?_
        refine xaload_n hk dX0_addOrder_34 rfl ?_
        refine xgetR (ci := 0) (f := 9) hk dX0_addOrder_35 ⟨rfl, by decide, _, rfl, rfl⟩ kX0_30 ?_
        refine xaload_n hk dX0_addOrder_38 rfl ?_
        refine xgetI (ci := 0) (f := 7) hk dX0_addOrder_39 ⟨rfl, by decide, _, rfl, rfl⟩ kX0_55 ?_
        refine xiload_n hk dX0_addOrder_42 rfl ?_
        refine xiast hk dX0_addOrder_43 rfl (vin h4 h13 (by decide)) ?_
        refine xaload_n hk dX0_addOrder_44 rfl ?_
        refine xgetR (ci := 0) (f := 10) hk dX0_addOrder_45 ⟨rfl, by decide, _, rfl, rfl⟩ kX0_33 ?_
        refine xaload_n hk dX0_addOrder_48 rfl ?_
        refine xgetI (ci := 0) (f := 7) hk dX0_addOrder_49 ⟨rfl, by decide, _, rfl, rfl⟩ kX0_55 ?_
        refine xiload_n hk dX0_addOrder_52 rfl ?_
        refine xiast hk dX0_addOrder_53 rfl (vin h4 h13 (by decide)) ?_
        refine xaload_n hk dX0_addOrder_54 rfl ?_
        refine xgetR (ci := 0) (f := 11) hk dX0_addOrder_55 ⟨rfl, by decide, _, rfl, rfl⟩ kX0_36 ?_
        refine xaload_n hk dX0_addOrder_58 rfl ?_
        refine xgetI (ci := 0) (f := 7) hk dX0_addOrder_59 ⟨rfl, by decide, _, rfl, rfl⟩ kX0_55 ?_
        refine xaload_n hk dX0_addOrder_62 rfl ?_
        refine xgetI (ci := 0) (f := 12) hk dX0_addOrder_63 ⟨rfl, by decide, _, rfl, rfl⟩ kX0_58 ?_
        refine xiast hk dX0_addOrder_66 rfl (vin h4 h13 (by decide)) ?_
        refine xaload_n hk dX0_addOrder_67 rfl ?_
        refine xdup hk dX0_addOrder_68 rfl ?_
        refine xgetI (ci := 0) (f := 7) hk dX0_addOrder_69 ⟨rfl, by decide, _, rfl, rfl⟩ kX0_55 ?_
        refine xiconst (v := 1) hk dX0_addOrder_72 (by decide) ?_
        refine xiadd hk dX0_addOrder_73 ?_
        refine xputI (ci := 0) (f := 7) hk dX0_addOrder_74 ⟨rfl, by decide, _, rfl, rfl⟩ kX0_55 ⟨rfl, by decide +kernel⟩ ?_
        refine xvret hk he dX0_addOrder_77 ⟨by decide, by decide⟩ ?_
        exact ⟨rfl, by simp [addOrF, rdI, *]⟩
set_option maxHeartbeats 4000000 in
set_option maxRecDepth 100000 in
theorem c_X0_addCode {g : Gx} {a : Nat → Nat} {x : XS} {op f s : Int32} : Mx g yX0_addCode cX0_addCode 4 none 1 0 0 LF a x [.ref (a 8), .int op, .int f, .int s] (pr none (addCoF x op f s)) := by
  refine Mx_of (by decide +kernel) (Nat.le_of_ble_eq_true rfl) ?_
  intro k hk he hg
  subst hg

  refine xaload_n hk dX0_addCode_0 rfl ?_
  refine xgetI (ci := 0) (f := 12) hk dX0_addCode_1 ⟨rfl, by decide, _, rfl, rfl⟩ kX0_58 ?_
  refine xif_lt hk 57 dX0_addCode_4 (by decide) (fun h4 => ?_) (fun h4 => ?_)
  · refine xvret hk he dX0_addCode_57 ⟨by decide, by decide⟩ ?_
    exact ⟨rfl, by simp [addCoF, rdI, *]⟩
  · refine xaload_n hk dX0_addCode_7 rfl ?_
    refine xgetI (ci := 0) (f := 12) hk dX0_addCode_8 ⟨rfl, by decide, _, rfl, rfl⟩ kX0_58 ?_
    refine xsipush (v := 400) hk dX0_addCode_11 (by decide) ?_
    refine xicmp_ge hk 57 dX0_addCode_14 (by decide) (fun h14 => ?_) (fun h14 => ?_)
    · refine xvret hk he dX0_addCode_57 ⟨by decide, by decide⟩ ?_
      exact ⟨rfl, by simp [addCoF, rdI, *]⟩
    · refine xaload_n hk dX0_addCode_17 rfl ?_
      refine xgetR (ci := 0) (f := 13) hk dX0_addCode_18 ⟨rfl, by decide, _, rfl, rfl⟩ kX0_39 ?_
      refine xaload_n hk dX0_addCode_21 rfl ?_
      refine xgetI (ci := 0) (f := 12) hk dX0_addCode_22 ⟨rfl, by decide, _, rfl, rfl⟩ kX0_58 ?_
      refine xiload_n hk dX0_addCode_25 rfl ?_
      refine xiast hk dX0_addCode_26 rfl (vin h4 h14 (by decide)) ?_
      refine xaload_n hk dX0_addCode_27 rfl ?_
      refine xgetR (ci := 0) (f := 14) hk dX0_addCode_28 ⟨rfl, by decide, _, rfl, rfl⟩ kX0_42 ?_
      refine xaload_n hk dX0_addCode_31 rfl ?_
      refine xgetI (ci := 0) (f := 12) hk dX0_addCode_32 ⟨rfl, by decide, _, rfl, rfl⟩ kX0_58 ?_
      refine xiload_n hk dX0_addCode_35 rfl ?_
      refine xiast hk dX0_addCode_36 rfl (vin h4 h14 (by decide)) ?_
      refine xaload_n hk dX0_addCode_37 rfl ?_
      refine xgetR (ci := 0) (f := 15) hk dX0_addCode_38 ⟨rfl, by decide, _, rfl, rfl⟩ kX0_45 ?_
      refine xaload_n hk dX0_addCode_41 rfl ?_
      refine xgetI (ci := 0) (f := 12) hk dX0_addCode_42 ⟨rfl, by decide, _, rfl, rfl⟩ kX0_58 ?_
      refine xiload_n hk dX0_addCode_45 rfl ?_
      refine xiast hk dX0_addCode_46 rfl (vin h4 h14 (by decide)) ?_
      refine xaload_n hk dX0_addCode_47 rfl ?_
      refine xdup hk dX0_addCode_48 rfl ?_
      refine xgetI (ci := 0) (f := 12) hk dX0_addCode_49 ⟨rfl, by decide, _, rfl, rfl⟩ kX0_58 ?_
      refine xiconst (v := 1) hk dX0_addCode_52 (by decide) ?_
      refine xiadd hk dX0_addCode_53 ?_
      refine xputI (ci := 0) (f := 12) hk dX0_addCode_54 ⟨rfl, by decide, _, rfl, rfl⟩ kX0_58 ⟨rfl, by decide +kernel⟩ ?_
      refine xvret hk he dX0_addCode_57 ⟨by decide, by decide⟩ ?_
      exact ⟨rfl, by simp [addCoF, rdI, *]⟩
set_option maxHeartbeats 4000000 in
set_option maxRecDepth 100000 in
theorem c_X0_copy {g : Gx} {a : Nat → Nat} {x : XS} {lay : List Kd} {s d n1 n2 : Nat} {m : Int32} (hs : lay[s]? = some (.inr (0, n1))) (hd : lay[d]? = some (.inr (0, n2))) (hsd : s ≠ d) (h1 : n1 < 2 ^ 31) (h2 : n2 < 2 ^ 31) : Mx g yX0_copy cX0_copy 4 none 1 0 0 lay a x [.ref (a s), .ref (a d), .int m] (pr none (cpF x s d (min m.toNatClampNeg (min n1 n2)))) := by
  refine Mx_of (by decide +kernel) (Nat.le_of_ble_eq_true rfl) ?_
  intro k hk he hg
  subst hg

  have hm := cl_lt m
  have loop : ∀ (n j : Nat) (v : Int32), min m.toNatClampNeg (min n1 n2) - j < n → v = nI j → j ≤ min m.toNatClampNeg (min n1 n2) → Wx k 0 0 lay a (cpF x s d j) 2 [(0, .ref (a s)), (1, .ref (a d)), (2, .int m), (3, .int v)] [] := by
    intro n
    induction n with
    | zero => intros; omega
    | succ n ih =>
      intro j v hn hv hj
      subst hv
      refine xiload_n hk dX0_copy_2 rfl ?_
      refine xiload_n hk dX0_copy_3 rfl ?_
      refine xicmp_ge hk 31 dX0_copy_4 (by decide) (fun h4 => ?_) (fun h4 => ?_)
      · rw [le_nI (by omega)] at h4
        refine xvret hk he dX0_copy_31 ⟨by decide, by decide⟩ ?_
        exact ⟨rfl, by rw [show j = min m.toNatClampNeg (min n1 n2) by omega]⟩
      · rw [le_nI (by omega)] at h4
        refine xiload_n hk dX0_copy_7 rfl ?_
        refine xaload_n hk dX0_copy_8 rfl ?_
        refine xalen (v := nI _) hk dX0_copy_9 hs (by decide) rfl ?_
        refine xicmp_ge hk 31 dX0_copy_10 (by decide) (fun h10 => ?_) (fun h10 => ?_)
        · rw [nI_leI (by omega) (by omega)] at h10
          refine xvret hk he dX0_copy_31 ⟨by decide, by decide⟩ ?_
          exact ⟨rfl, by rw [show j = min m.toNatClampNeg (min n1 n2) by omega]⟩
        · rw [nI_leI (by omega) (by omega)] at h10
          refine xiload_n hk dX0_copy_13 rfl ?_
          refine xaload_n hk dX0_copy_14 rfl ?_
          refine xalen (v := nI _) hk dX0_copy_15 hd (by decide) rfl ?_
          refine xicmp_ge hk 31 dX0_copy_16 (by decide) (fun h16 => ?_) (fun h16 => ?_)
          · rw [nI_leI (by omega) (by omega)] at h16
            refine xvret hk he dX0_copy_31 ⟨by decide, by decide⟩ ?_
            exact ⟨rfl, by rw [show j = min m.toNatClampNeg (min n1 n2) by omega]⟩
          · rw [nI_leI (by omega) (by omega)] at h16
            refine xaload_n hk dX0_copy_19 rfl ?_
            refine xiload_n hk dX0_copy_20 rfl ?_
            refine xaload_n hk dX0_copy_21 rfl ?_
            refine xiload_n hk dX0_copy_22 rfl ?_
            refine xiald hk dX0_copy_23 hs (vp_in_nI (by omega) h1) ?_
            refine xiast hk dX0_copy_24 hd (vp_in_nI (by omega) h2) ?_
            refine xiinc hk dX0_copy_25 rfl (by decide) rfl ?_
            refine xgoto hk 2 dX0_copy_28 (by decide) ?_
            rw [nI_clamp (by omega), cpF_step hsd]
            exact ih (j + 1) _ (by omega) (nI_inc j) (by omega)
  refine xiconst (v := 0) hk dX0_copy_0 (by decide) ?_
  refine xistore_n hk dX0_copy_1 (by decide) ?_
  have h0 := loop _ 0 0 (Nat.lt_succ_self _) rfl (by omega)
  rw [cpF_0] at h0
  exact h0
def cp1 (f n s : Nat) (y : XS) : XS := cpF y s (s + 13) (min (y.1 21 f).toNatClampNeg (min n n))
def mv1 (f : Nat) (y : XS) : XS := setI y 21 f (y.1 8 f)
def copyF (x : XS) : XS := cp1 12 400 20 (cp1 12 400 19 (cp1 12 400 18 (cp1 7 16 17 (cp1 7 16 16 (cp1 7 16 15 (cp1 7 16 14 (cp1 1 20 13 (cp1 1 20 12 (cp1 1 20 11 (cp1 1 20 10 (cp1 1 20 9 (mv1 12 (mv1 7 (mv1 1 (mv1 0 x)))))))))))))))
theorem det2 {P : Option Value → XS → Prop} {v1 : Option Value} {x1 : XS} (h : ∀ y : XS, y = x1 → P v1 y) : ∀ (v : Option Value) (x' : XS), pr v1 x1 v x' → P v x' := by
  rintro _ x' ⟨rfl, rfl⟩; exact h _ rfl
set_option maxHeartbeats 4000000 in
set_option maxRecDepth 100000 in
theorem c_X0_copyFrom {g : Gx} {a : Nat → Nat} {x : XS}  : Mx g yX0_copyFrom cX0_copyFrom 2 none 2 0 0 LF a x [.ref (a 21), .ref (a 8)] (pr none (copyF x)) := by
  refine Mx_of (by decide +kernel) (Nat.le_of_ble_eq_true rfl) ?_
  intro k hk he hg
  subst hg

  refine xaload_n hk dX0_copyFrom_0 rfl ?_
  refine xaload_n hk dX0_copyFrom_1 rfl ?_
  refine xgetI (ci := 0) (f := 0) hk dX0_copyFrom_2 ⟨rfl, by decide, _, rfl, rfl⟩ kX0_48 ?_
  refine xputI (ci := 0) (f := 0) hk dX0_copyFrom_5 ⟨rfl, by decide, _, rfl, rfl⟩ kX0_48 ⟨rfl, by decide +kernel⟩ ?_
  refine xaload_n hk dX0_copyFrom_8 rfl ?_
  refine xaload_n hk dX0_copyFrom_9 rfl ?_
  refine xgetI (ci := 0) (f := 1) hk dX0_copyFrom_10 ⟨rfl, by decide, _, rfl, rfl⟩ kX0_52 ?_
  refine xputI (ci := 0) (f := 1) hk dX0_copyFrom_13 ⟨rfl, by decide, _, rfl, rfl⟩ kX0_52 ⟨rfl, by decide +kernel⟩ ?_
  refine xaload_n hk dX0_copyFrom_16 rfl ?_
  refine xaload_n hk dX0_copyFrom_17 rfl ?_
  refine xgetI (ci := 0) (f := 7) hk dX0_copyFrom_18 ⟨rfl, by decide, _, rfl, rfl⟩ kX0_55 ?_
  refine xputI (ci := 0) (f := 7) hk dX0_copyFrom_21 ⟨rfl, by decide, _, rfl, rfl⟩ kX0_55 ⟨rfl, by decide +kernel⟩ ?_
  refine xaload_n hk dX0_copyFrom_24 rfl ?_
  refine xaload_n hk dX0_copyFrom_25 rfl ?_
  refine xgetI (ci := 0) (f := 12) hk dX0_copyFrom_26 ⟨rfl, by decide, _, rfl, rfl⟩ kX0_58 ?_
  refine xputI (ci := 0) (f := 12) hk dX0_copyFrom_29 ⟨rfl, by decide, _, rfl, rfl⟩ kX0_58 ⟨rfl, by decide +kernel⟩ ?_
  refine xaload_n hk dX0_copyFrom_32 rfl ?_
  refine xgetR (ci := 0) (f := 2) hk dX0_copyFrom_33 ⟨rfl, by decide, _, rfl, rfl⟩ kX0_9 ?_
  refine xaload_n hk dX0_copyFrom_36 rfl ?_
  refine xgetR (ci := 0) (f := 2) hk dX0_copyFrom_37 ⟨rfl, by decide, _, rfl, rfl⟩ kX0_9 ?_
  refine xaload_n hk dX0_copyFrom_40 rfl ?_
  refine xgetI (ci := 0) (f := 1) hk dX0_copyFrom_41 ⟨rfl, by decide, _, rfl, rfl⟩ kX0_52 ?_
  refine xcallS hk (c_X0_copy rfl rfl (by decide) (by decide) (by decide)) bX0_copy kX0_61 dX0_copyFrom_44 rfl rfl (by decide) ⟨by decide, by decide⟩ (Nat.le_of_ble_eq_true rfl) (det2 (fun (y44 : XS) (e44 : y44 = cp1 1 20 9 _) => ?_))
  refine xaload_n hk dX0_copyFrom_47 rfl ?_
  refine xgetR (ci := 0) (f := 3) hk dX0_copyFrom_48 ⟨rfl, by decide, _, rfl, rfl⟩ kX0_15 ?_
  refine xaload_n hk dX0_copyFrom_51 rfl ?_
  refine xgetR (ci := 0) (f := 3) hk dX0_copyFrom_52 ⟨rfl, by decide, _, rfl, rfl⟩ kX0_15 ?_
  refine xaload_n hk dX0_copyFrom_55 rfl ?_
  refine xgetI (ci := 0) (f := 1) hk dX0_copyFrom_56 ⟨rfl, by decide, _, rfl, rfl⟩ kX0_52 ?_
  refine xcallS hk (c_X0_copy rfl rfl (by decide) (by decide) (by decide)) bX0_copy kX0_61 dX0_copyFrom_59 rfl rfl (by decide) ⟨by decide, by decide⟩ (Nat.le_of_ble_eq_true rfl) (det2 (fun (y59 : XS) (e59 : y59 = cp1 1 20 10 _) => ?_))
  refine xaload_n hk dX0_copyFrom_62 rfl ?_
  refine xgetR (ci := 0) (f := 4) hk dX0_copyFrom_63 ⟨rfl, by decide, _, rfl, rfl⟩ kX0_18 ?_
  refine xaload_n hk dX0_copyFrom_66 rfl ?_
  refine xgetR (ci := 0) (f := 4) hk dX0_copyFrom_67 ⟨rfl, by decide, _, rfl, rfl⟩ kX0_18 ?_
  refine xaload_n hk dX0_copyFrom_70 rfl ?_
  refine xgetI (ci := 0) (f := 1) hk dX0_copyFrom_71 ⟨rfl, by decide, _, rfl, rfl⟩ kX0_52 ?_
  refine xcallS hk (c_X0_copy rfl rfl (by decide) (by decide) (by decide)) bX0_copy kX0_61 dX0_copyFrom_74 rfl rfl (by decide) ⟨by decide, by decide⟩ (Nat.le_of_ble_eq_true rfl) (det2 (fun (y74 : XS) (e74 : y74 = cp1 1 20 11 _) => ?_))
  refine xaload_n hk dX0_copyFrom_77 rfl ?_
  refine xgetR (ci := 0) (f := 5) hk dX0_copyFrom_78 ⟨rfl, by decide, _, rfl, rfl⟩ kX0_21 ?_
  refine xaload_n hk dX0_copyFrom_81 rfl ?_
  refine xgetR (ci := 0) (f := 5) hk dX0_copyFrom_82 ⟨rfl, by decide, _, rfl, rfl⟩ kX0_21 ?_
  refine xaload_n hk dX0_copyFrom_85 rfl ?_
  refine xgetI (ci := 0) (f := 1) hk dX0_copyFrom_86 ⟨rfl, by decide, _, rfl, rfl⟩ kX0_52 ?_
  refine xcallS hk (c_X0_copy rfl rfl (by decide) (by decide) (by decide)) bX0_copy kX0_61 dX0_copyFrom_89 rfl rfl (by decide) ⟨by decide, by decide⟩ (Nat.le_of_ble_eq_true rfl) (det2 (fun (y89 : XS) (e89 : y89 = cp1 1 20 12 _) => ?_))
  refine xaload_n hk dX0_copyFrom_92 rfl ?_
  refine xgetR (ci := 0) (f := 6) hk dX0_copyFrom_93 ⟨rfl, by decide, _, rfl, rfl⟩ kX0_24 ?_
  refine xaload_n hk dX0_copyFrom_96 rfl ?_
  refine xgetR (ci := 0) (f := 6) hk dX0_copyFrom_97 ⟨rfl, by decide, _, rfl, rfl⟩ kX0_24 ?_
  refine xaload_n hk dX0_copyFrom_100 rfl ?_
  refine xgetI (ci := 0) (f := 1) hk dX0_copyFrom_101 ⟨rfl, by decide, _, rfl, rfl⟩ kX0_52 ?_
  refine xcallS hk (c_X0_copy rfl rfl (by decide) (by decide) (by decide)) bX0_copy kX0_61 dX0_copyFrom_104 rfl rfl (by decide) ⟨by decide, by decide⟩ (Nat.le_of_ble_eq_true rfl) (det2 (fun (y104 : XS) (e104 : y104 = cp1 1 20 13 _) => ?_))
  refine xaload_n hk dX0_copyFrom_107 rfl ?_
  refine xgetR (ci := 0) (f := 8) hk dX0_copyFrom_108 ⟨rfl, by decide, _, rfl, rfl⟩ kX0_27 ?_
  refine xaload_n hk dX0_copyFrom_111 rfl ?_
  refine xgetR (ci := 0) (f := 8) hk dX0_copyFrom_112 ⟨rfl, by decide, _, rfl, rfl⟩ kX0_27 ?_
  refine xaload_n hk dX0_copyFrom_115 rfl ?_
  refine xgetI (ci := 0) (f := 7) hk dX0_copyFrom_116 ⟨rfl, by decide, _, rfl, rfl⟩ kX0_55 ?_
  refine xcallS hk (c_X0_copy rfl rfl (by decide) (by decide) (by decide)) bX0_copy kX0_61 dX0_copyFrom_119 rfl rfl (by decide) ⟨by decide, by decide⟩ (Nat.le_of_ble_eq_true rfl) (det2 (fun (y119 : XS) (e119 : y119 = cp1 7 16 14 _) => ?_))
  refine xaload_n hk dX0_copyFrom_122 rfl ?_
  refine xgetR (ci := 0) (f := 9) hk dX0_copyFrom_123 ⟨rfl, by decide, _, rfl, rfl⟩ kX0_30 ?_
  refine xaload_n hk dX0_copyFrom_126 rfl ?_
  refine xgetR (ci := 0) (f := 9) hk dX0_copyFrom_127 ⟨rfl, by decide, _, rfl, rfl⟩ kX0_30 ?_
  refine xaload_n hk dX0_copyFrom_130 rfl ?_
  refine xgetI (ci := 0) (f := 7) hk dX0_copyFrom_131 ⟨rfl, by decide, _, rfl, rfl⟩ kX0_55 ?_
  refine xcallS hk (c_X0_copy rfl rfl (by decide) (by decide) (by decide)) bX0_copy kX0_61 dX0_copyFrom_134 rfl rfl (by decide) ⟨by decide, by decide⟩ (Nat.le_of_ble_eq_true rfl) (det2 (fun (y134 : XS) (e134 : y134 = cp1 7 16 15 _) => ?_))
  refine xaload_n hk dX0_copyFrom_137 rfl ?_
  refine xgetR (ci := 0) (f := 10) hk dX0_copyFrom_138 ⟨rfl, by decide, _, rfl, rfl⟩ kX0_33 ?_
  refine xaload_n hk dX0_copyFrom_141 rfl ?_
  refine xgetR (ci := 0) (f := 10) hk dX0_copyFrom_142 ⟨rfl, by decide, _, rfl, rfl⟩ kX0_33 ?_
  refine xaload_n hk dX0_copyFrom_145 rfl ?_
  refine xgetI (ci := 0) (f := 7) hk dX0_copyFrom_146 ⟨rfl, by decide, _, rfl, rfl⟩ kX0_55 ?_
  refine xcallS hk (c_X0_copy rfl rfl (by decide) (by decide) (by decide)) bX0_copy kX0_61 dX0_copyFrom_149 rfl rfl (by decide) ⟨by decide, by decide⟩ (Nat.le_of_ble_eq_true rfl) (det2 (fun (y149 : XS) (e149 : y149 = cp1 7 16 16 _) => ?_))
  refine xaload_n hk dX0_copyFrom_152 rfl ?_
  refine xgetR (ci := 0) (f := 11) hk dX0_copyFrom_153 ⟨rfl, by decide, _, rfl, rfl⟩ kX0_36 ?_
  refine xaload_n hk dX0_copyFrom_156 rfl ?_
  refine xgetR (ci := 0) (f := 11) hk dX0_copyFrom_157 ⟨rfl, by decide, _, rfl, rfl⟩ kX0_36 ?_
  refine xaload_n hk dX0_copyFrom_160 rfl ?_
  refine xgetI (ci := 0) (f := 7) hk dX0_copyFrom_161 ⟨rfl, by decide, _, rfl, rfl⟩ kX0_55 ?_
  refine xcallS hk (c_X0_copy rfl rfl (by decide) (by decide) (by decide)) bX0_copy kX0_61 dX0_copyFrom_164 rfl rfl (by decide) ⟨by decide, by decide⟩ (Nat.le_of_ble_eq_true rfl) (det2 (fun (y164 : XS) (e164 : y164 = cp1 7 16 17 _) => ?_))
  refine xaload_n hk dX0_copyFrom_167 rfl ?_
  refine xgetR (ci := 0) (f := 13) hk dX0_copyFrom_168 ⟨rfl, by decide, _, rfl, rfl⟩ kX0_39 ?_
  refine xaload_n hk dX0_copyFrom_171 rfl ?_
  refine xgetR (ci := 0) (f := 13) hk dX0_copyFrom_172 ⟨rfl, by decide, _, rfl, rfl⟩ kX0_39 ?_
  refine xaload_n hk dX0_copyFrom_175 rfl ?_
  refine xgetI (ci := 0) (f := 12) hk dX0_copyFrom_176 ⟨rfl, by decide, _, rfl, rfl⟩ kX0_58 ?_
  refine xcallS hk (c_X0_copy rfl rfl (by decide) (by decide) (by decide)) bX0_copy kX0_61 dX0_copyFrom_179 rfl rfl (by decide) ⟨by decide, by decide⟩ (Nat.le_of_ble_eq_true rfl) (det2 (fun (y179 : XS) (e179 : y179 = cp1 12 400 18 _) => ?_))
  refine xaload_n hk dX0_copyFrom_182 rfl ?_
  refine xgetR (ci := 0) (f := 14) hk dX0_copyFrom_183 ⟨rfl, by decide, _, rfl, rfl⟩ kX0_42 ?_
  refine xaload_n hk dX0_copyFrom_186 rfl ?_
  refine xgetR (ci := 0) (f := 14) hk dX0_copyFrom_187 ⟨rfl, by decide, _, rfl, rfl⟩ kX0_42 ?_
  refine xaload_n hk dX0_copyFrom_190 rfl ?_
  refine xgetI (ci := 0) (f := 12) hk dX0_copyFrom_191 ⟨rfl, by decide, _, rfl, rfl⟩ kX0_58 ?_
  refine xcallS hk (c_X0_copy rfl rfl (by decide) (by decide) (by decide)) bX0_copy kX0_61 dX0_copyFrom_194 rfl rfl (by decide) ⟨by decide, by decide⟩ (Nat.le_of_ble_eq_true rfl) (det2 (fun (y194 : XS) (e194 : y194 = cp1 12 400 19 _) => ?_))
  refine xaload_n hk dX0_copyFrom_197 rfl ?_
  refine xgetR (ci := 0) (f := 15) hk dX0_copyFrom_198 ⟨rfl, by decide, _, rfl, rfl⟩ kX0_45 ?_
  refine xaload_n hk dX0_copyFrom_201 rfl ?_
  refine xgetR (ci := 0) (f := 15) hk dX0_copyFrom_202 ⟨rfl, by decide, _, rfl, rfl⟩ kX0_45 ?_
  refine xaload_n hk dX0_copyFrom_205 rfl ?_
  refine xgetI (ci := 0) (f := 12) hk dX0_copyFrom_206 ⟨rfl, by decide, _, rfl, rfl⟩ kX0_58 ?_
  refine xcallS hk (c_X0_copy rfl rfl (by decide) (by decide) (by decide)) bX0_copy kX0_61 dX0_copyFrom_209 rfl rfl (by decide) ⟨by decide, by decide⟩ (Nat.le_of_ble_eq_true rfl) (det2 (fun (y209 : XS) (e209 : y209 = cp1 12 400 20 _) => ?_))
  refine xvret hk he dX0_copyFrom_212 ⟨by decide, by decide⟩ ?_
  exact ⟨rfl, by rw [e209, e194, e179, e164, e149, e134, e119, e104, e89, e74, e59, e44]; rfl⟩
