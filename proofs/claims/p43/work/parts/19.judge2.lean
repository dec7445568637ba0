theorem kX2_63 : Cond.methodLink RX2 63 yX2_reckon ∈ GW := gw_mem 740 (by decide +kernel) (by decide +kernel)
theorem bX2_reckon : CBv yX2_reckon cX2_reckon 6 none 2 := ⟨⟨gw_mem 743 (by decide +kernel) (by decide +kernel), gw_mem 20 (by decide +kernel) (by decide +kernel), by decide +kernel, by decide⟩, gw_mem 742 (by decide +kernel) (by decide +kernel), gw_sel 16 (by decide +kernel) (by decide +kernel)⟩
theorem kX2_54 : Cond.methodLink RX2 54 yX0_codeStart ∈ GW := gw_mem 732 (by decide +kernel) (by decide +kernel)
theorem bX0_codeStart : CBv yX0_codeStart cX0_codeStart 2 (some .int) 1 := ⟨⟨gw_mem 735 (by decide +kernel) (by decide +kernel), gw_mem 16 (by decide +kernel) (by decide +kernel), by decide +kernel, by decide⟩, gw_mem 733 (by decide +kernel) (by decide +kernel), gw_mem 734 (by decide +kernel) (by decide +kernel)⟩
theorem kX2_57 : Cond.methodLink RX2 57 yX0_codeEnd ∈ GW := gw_mem 736 (by decide +kernel) (by decide +kernel)
theorem bX0_codeEnd : CBv yX0_codeEnd cX0_codeEnd 2 (some .int) 1 := ⟨⟨gw_mem 739 (by decide +kernel) (by decide +kernel), gw_mem 16 (by decide +kernel) (by decide +kernel), by decide +kernel, by decide⟩, gw_mem 737 (by decide +kernel) (by decide +kernel), gw_mem 738 (by decide +kernel) (by decide +kernel)⟩
theorem inc_toInt {v : Int32} (h : v.toInt < 2147483647) : (v + Int32.ofInt 1).toInt = v.toInt + 1 := by
  have h3 : (Int32.ofInt 1).toInt = 1 := rfl
  rw [Int32.toInt_add, h3]
  have := Int32.le_toInt v
  exact Int.bmod_eq_of_le (by omega) (by omega)
theorem itP_1 {f : Nat → XS → XS} {q k : Nat} (h : ∀ j y, (f j y).1 q k = y.1 q k) (n : Nat) (y : XS) : (itP f n y).1 q k = y.1 q k := by
  induction n with
  | zero => rfl
  | succ n ih => rw [itP, h, ih]
theorem itP_2 {f : Nat → XS → XS} {q k : Nat} (h : ∀ j y, (f j y).2 q k = y.2 q k) (n : Nat) (y : XS) : (itP f n y).2 q k = y.2 q k := by
  induction n with
  | zero => rfl
  | succ n ih => rw [itP, h, ih]
theorem close_1 {y : XS} {q k : Nat} (h : q ≠ 39) : (closeF y).1 q k = y.1 q k := by
  unfold closeF
  rw [itP_1 (fun m z => itP_1 (fun c w => by unfold clsB; split <;> simp [rdI, h]) _ _), itP_1 (fun j z => by simp [clsA, rdI, h])]
theorem stmF_1 {s : Int32} {j : Nat} {y : XS} {q k : Nat} (h : q ≠ 38) : (stmF s j y).1 q k = y.1 q k := by
  unfold stmF
  split
  · simp only [addStep_1 h]
  · rfl
theorem cntF_1 {j : Nat} {y : XS} {q k : Nat} (h : q ≠ 37) : (cntF j y).1 q k = y.1 q k := by
  unfold cntF; split <;> simp [rdI, h]
/-- what follows is worked out in three cells alone -/
theorem web_1 {s : Int32} {x : XS} {q k : Nat} (h1 : q ≠ 37) (h2 : q ≠ 38) (h3 : q ≠ 39) : (webLook s x).1 q k = x.1 q k := by
  unfold webLook
  split
  · rfl
  · simp only []
    rw [itP_1 (fun j y => cntF_1 h1)]
    simp only [rdI, h1, false_and, if_false]
    rw [close_1 h3, itP_1 (fun j y => stmF_1 h2), itP_1 (fun j y => by simp [zerF, rdI, h2])]
    simp [rdI, h1]
theorem addStep_2 {y : XS} {fr cl : Int32} : (addStepF y fr cl).2 = y.2 := by
  unfold addStepF; split
  · rfl
  · split <;> rfl
theorem web_2 {s : Int32} {x : XS} : (webLook s x).2 = x.2 := by
  funext q k
  unfold webLook
  split
  · rfl
  · simp only []
    rw [itP_2 (fun j y => by unfold cntF; split <;> rfl)]
    simp only [setI, closeF]
    rw [itP_2 (fun m z => itP_2 (fun c w => by unfold clsB; split <;> rfl) _ _), itP_2 (f := clsA) (fun j z => rfl), itP_2 (f := stmF s) (fun j y => by unfold stmF; split <;> simp [addStep_2]), itP_2 (f := zerF) (fun j y => rfl)]
theorem land_1 {s : Int32} {x : XS} {q k : Nat} (h1 : q ≠ 40) : (landLook s x).1 q k = x.1 q k := by
  unfold landLook
  split
  · rfl
  · simp only []
    rw [itP_1 (fun j y => by simp [lkF, rdI, h1, setL])]
    simp [rdI, h1]
theorem land_40 {s : Int32} {x : XS} {k : Nat} (h1 : k ≠ 5) (h2 : k ≠ 6) : (landLook s x).1 40 k = x.1 40 k := by
  unfold landLook
  split
  · rfl
  · simp only []
    rw [itP_1 (fun j y => by simp [lkF, rdI, h1, setL])]
    simp [rdI, h1, h2]
theorem land_2 {s : Int32} {x : XS} {q k : Nat} (h1 : q ≠ 41) : (landLook s x).2 q k = x.2 q k := by
  unfold landLook
  split
  · rfl
  · simp only []
    rw [itP_2 (fun j y => by simp [lkF, h1, setL, setI])]
    simp [setI]
theorem push_1 {x : XS} {n : Int32} {q k : Nat} (h1 : q ≠ 44) (h2 : q ≠ 45) : (pushF x n).1 q k = x.1 q k := by
  unfold pushF; split
  · rfl
  · split
    · rfl
    · simp [rdI, h1, h2]
theorem push_2 {x : XS} {n : Int32} : (pushF x n).2 = x.2 := by
  unfold pushF; split
  · rfl
  · split <;> rfl
theorem pop_1 {x : XS} {q k : Nat} (h1 : q ≠ 44) : (popF x).2.1 q k = x.1 q k := by
  unfold popF; split
  · rfl
  · split
    · simp [rdI, h1]
    · rfl
theorem pop_2 {x : XS} : (popF x).2.2 = x.2 := by
  unfold popF; split
  · rfl
  · split <;> rfl
/-- the judge's cells, and what is kept of a look -/
def jq (q : Nat) : Prop := q ≠ 37 ∧ q ≠ 38 ∧ q ≠ 39 ∧ q ≠ 40 ∧ q ≠ 44 ∧ q ≠ 45
theorem rec_1 {c : Nat} {pl : Int32} {x : XS} {q k : Nat} (h : jq q) : (recF c pl x).1 q k = x.1 q k := by
  obtain ⟨h1, h2, h3, h4, h5, h6⟩ := h
  unfold recF
  simp only []
  repeat' split
  all_goals simp only [push_1 h5 h6, pop_1 h5, web_1 h1 h2 h3, land_1 h4]
theorem recL_1 {c : Nat} {q k : Nat} (h : jq q) : ∀ (n : Nat) (pl : Int32) (x : XS), (recL c n pl x).1 q k = x.1 q k
  | 0, _, _ => rfl
  | n + 1, pl, x => by rw [recL, recL_1 h n, rec_1 h]
theorem due_1 {c : Nat} {j : Int32} {x : XS} {q k : Nat} (h : jq q) : (dueU c j x).2.1 q k = x.1 q k := by
  unfold dueU
  split
  · rfl
  · simp only []
    rw [pop_1 h.2.2.2.2.1, recL_1 h]
    simp [rdI, h.2.2.2.2.1]
theorem change_1 {x : XS} {c : Nat} {st : Int32} {rn : Bool} {q k : Nat} (h : q ≠ c) : (changeF x c st rn).1 q k = x.1 q k := by
  unfold changeF
  split
  · rfl
  · simp [rdI, h]
def ordF (c j : Nat) (y : XS) : XS := if (dueU c (nI j) y).1 then changeF (dueU c (nI j) y).2 c (entI (dueU c (nI j) y).2 28 16 (nI j)) (decide (entI (dueU c (nI j) y).2 27 16 (nI j) = 1)) else (dueU c (nI j) y).2
theorem ord_1 {c j : Nat} {y : XS} {q k : Nat} (h : jq q) (hc : q ≠ c) : (ordF c j y).1 q k = y.1 q k := by
  unfold ordF
  split
  · rw [change_1 hc, due_1 h]
  · exact due_1 h
def dayF (c : Nat) (y : XS) : XS :=
  let z := itP (ordF c) (y.1 21 7).toNatClampNeg y
  setI z c 0 (z.1 c 0 + 1)
def passF (c : Nat) (days : Int32) (x : XS) : XS := itP (fun _ => dayF c) days.toNatClampNeg x

set_option maxHeartbeats 4000000 in
set_option maxRecDepth 100000 in
theorem c_X2_isDue46 {g : Gx} {a : Nat → Nat} {x : XS} {j : Int32} : Mx g yX2_isDue cX2_isDue 6 (some .boolean) 6 0 0 LF a x [.ref (a 44), .int j, .ref (a 46)] (pr (some (.int (b2i (dueU 46 j x).1))) (dueU 46 j x).2) := by
  refine Mx_of (by decide +kernel) (Nat.le_of_ble_eq_true rfl) ?_
  intro k hk he hg
  subst hg

  have loop : ∀ (st en : Int32), (∀ y : XS, y = recL 46 (en.toInt - st.toInt).toNat st (setI x 44 4 0) → Wx k 0 0 LF a y 55 [(0, .ref (a 44)), (1, .int j), (2, .ref (a 46)), (3, .int st), (4, .int en)] []) → ∀ (n : Nat) (v : Int32) (y : XS), en.toInt - v.toInt = n → recL 46 n v y = recL 46 (en.toInt - st.toInt).toNat st (setI x 44 4 0) → Wx k 0 0 LF a y 35 [(0, .ref (a 44)), (1, .int j), (2, .ref (a 46)), (3, .int st), (4, .int en), (5, .int v)] [] := by
    intro st en kk n
    induction n with
    | zero =>
      intro v y hn hy
      refine xiload hk dX2_isDue_35 rfl ?_
      refine xiload hk dX2_isDue_37 rfl ?_
      refine xicmp_ge hk 55 dX2_isDue_39 (by decide) (fun h39 => ?_) (fun h39 => ?_)
      · refine xsub [(0, _), (1, _), (2, _), (3, _), (4, _)] rfl ?_
        exact kk _ hy
      · exact absurd (Int32.le_iff_toInt_le.mpr (by omega)) h39
    | succ n ih =>
      intro v y hn hy
      have hle := Int32.toInt_lt en
      refine xiload hk dX2_isDue_35 rfl ?_
      refine xiload hk dX2_isDue_37 rfl ?_
      refine xicmp_ge hk 55 dX2_isDue_39 (by decide) (fun h39 => ?_) (fun h39 => ?_)
      · exact absurd (Int32.le_iff_toInt_le.mp h39) (by omega)
      · refine xaload_n hk dX2_isDue_42 rfl ?_
        refine xiload hk dX2_isDue_43 rfl ?_
        refine xaload_n hk dX2_isDue_45 rfl ?_
        refine xcallV hk c_X2_reckon46 bX2_reckon kX2_63 dX2_isDue_46 rfl ⟨_, _, _, _, rfl, rfl⟩ rfl (by decide) ⟨by decide, by decide⟩ (Nat.le_of_ble_eq_true rfl) (det ?_)
        refine xiinc hk dX2_isDue_49 rfl (by decide) rfl ?_
        refine xgoto hk 35 dX2_isDue_52 (by decide) ?_
        exact ih _ _ (by rw [inc_toInt (by omega)]; omega) hy
  refine xaload_n hk dX2_isDue_0 rfl ?_
  refine xgetR (ci := 2) (f := 0) hk dX2_isDue_1 ⟨rfl, by decide, _, rfl, rfl⟩ kX2_15 ?_
  refine xiload_n hk dX2_isDue_4 rfl ?_
  refine xcallV hk c_X0_codeStart bX0_codeStart kX2_54 dX2_isDue_5 rfl ⟨_, _, _, _, rfl, rfl⟩ rfl (by decide) ⟨by decide, by decide⟩ (Nat.le_of_ble_eq_true rfl) (det ?_)
  refine xistore_n hk dX2_isDue_8 (by decide) ?_
  refine xaload_n hk dX2_isDue_9 rfl ?_
  refine xgetR (ci := 2) (f := 0) hk dX2_isDue_10 ⟨rfl, by decide, _, rfl, rfl⟩ kX2_15 ?_
  refine xiload_n hk dX2_isDue_13 rfl ?_
  refine xcallV hk c_X0_codeEnd bX0_codeEnd kX2_57 dX2_isDue_14 rfl ⟨_, _, _, _, rfl, rfl⟩ rfl (by decide) ⟨by decide, by decide⟩ (Nat.le_of_ble_eq_true rfl) (det ?_)
  refine xistore hk dX2_isDue_17 (by decide) ?_
  refine xiload_n hk dX2_isDue_19 rfl ?_
  refine xiload hk dX2_isDue_20 rfl ?_
  refine xicmp_lt hk 27 dX2_isDue_22 (by decide) (fun h22 => ?_) (fun h22 => ?_)
  · have h22 : ¬ entI x 30 16 j ≤ entI x 29 16 j := by rw [Int32.le_iff_toInt_le]; rw [Int32.lt_iff_toInt_lt] at h22; omega
    refine xaload_n hk dX2_isDue_27 rfl ?_
    refine xiconst (v := 0) hk dX2_isDue_28 (by decide) ?_
    refine xputI (ci := 2) (f := 4) hk dX2_isDue_29 ⟨rfl, by decide, _, rfl, rfl⟩ kX2_60 ⟨rfl, by decide +kernel⟩ ?_
    refine xiload_n hk dX2_isDue_32 rfl ?_
    refine xistore hk dX2_isDue_33 (by decide) ?_
    refine loop _ _ ?_ _ _ _ (Int.toNat_of_nonneg (by rw [Int32.le_iff_toInt_le] at h22; omega)).symm rfl
    intro y5 hy5
    refine xaload_n hk dX2_isDue_55 rfl ?_
    refine xcallV hk c_X2_pop bX2_pop kX2_67 dX2_isDue_56 rfl ⟨_, _, _, _, rfl, rfl⟩ rfl (by decide) ⟨by decide, by decide⟩ (Nat.le_of_ble_eq_true rfl) (det ?_)
    refine xif_eq hk 66 dX2_isDue_59 (by decide) (fun h59 => ?_) (fun h59 => ?_)
    · rw [hy5] at h59
      refine xiconst (v := 0) hk dX2_isDue_66 (by decide) ?_
      refine xzret hk he dX2_isDue_67 ⟨by decide, by decide⟩ (by first | with_reducible exact nar_b _ | rfl) ?_
      exact ⟨by simp [dueU, b2i, h22, h59], by rw [hy5]; simp [dueU, h22]⟩
    · rw [hy5] at h59
      refine xiconst (v := 1) hk dX2_isDue_62 (by decide) ?_
      refine xgoto hk 67 dX2_isDue_63 (by decide) ?_
      refine xzret hk he dX2_isDue_67 ⟨by decide, by decide⟩ (by first | with_reducible exact nar_b _ | rfl) ?_
      exact ⟨by simp [dueU, b2i, h22, h59], by rw [hy5]; simp [dueU, h22]⟩
  · have h22 : entI x 30 16 j ≤ entI x 29 16 j := by rw [Int32.le_iff_toInt_le]; rw [Int32.lt_iff_toInt_lt] at h22; omega
    refine xiconst (v := 1) hk dX2_isDue_25 (by decide) ?_
    refine xzret hk he dX2_isDue_26 ⟨by decide, by decide⟩ (by first | with_reducible exact nar_b _ | rfl) ?_
    exact ⟨by simp [dueU, b2i, h22], by simp [dueU, h22]⟩
set_option maxHeartbeats 4000000 in
set_option maxRecDepth 100000 in
theorem c_X2_isDue47 {g : Gx} {a : Nat → Nat} {x : XS} {j : Int32} : Mx g yX2_isDue cX2_isDue 6 (some .boolean) 6 0 0 LF a x [.ref (a 44), .int j, .ref (a 47)] (pr (some (.int (b2i (dueU 47 j x).1))) (dueU 47 j x).2) := by
  refine Mx_of (by decide +kernel) (Nat.le_of_ble_eq_true rfl) ?_
  intro k hk he hg
  subst hg

  have loop : ∀ (st en : Int32), (∀ y : XS, y = recL 47 (en.toInt - st.toInt).toNat st (setI x 44 4 0) → Wx k 0 0 LF a y 55 [(0, .ref (a 44)), (1, .int j), (2, .ref (a 47)), (3, .int st), (4, .int en)] []) → ∀ (n : Nat) (v : Int32) (y : XS), en.toInt - v.toInt = n → recL 47 n v y = recL 47 (en.toInt - st.toInt).toNat st (setI x 44 4 0) → Wx k 0 0 LF a y 35 [(0, .ref (a 44)), (1, .int j), (2, .ref (a 47)), (3, .int st), (4, .int en), (5, .int v)] [] := by
    intro st en kk n
    induction n with
    | zero =>
      intro v y hn hy
      refine xiload hk dX2_isDue_35 rfl ?_
      refine xiload hk dX2_isDue_37 rfl ?_
      refine xicmp_ge hk 55 dX2_isDue_39 (by decide) (fun h39 => ?_) (fun h39 => ?_)
      · refine xsub [(0, _), (1, _), (2, _), (3, _), (4, _)] rfl ?_
        exact kk _ hy
      · exact absurd (Int32.le_iff_toInt_le.mpr (by omega)) h39
    | succ n ih =>
      intro v y hn hy
      have hle := Int32.toInt_lt en
      refine xiload hk dX2_isDue_35 rfl ?_
      refine xiload hk dX2_isDue_37 rfl ?_
      refine xicmp_ge hk 55 dX2_isDue_39 (by decide) (fun h39 => ?_) (fun h39 => ?_)
      · exact absurd (Int32.le_iff_toInt_le.mp h39) (by omega)
      · refine xaload_n hk dX2_isDue_42 rfl ?_
        refine xiload hk dX2_isDue_43 rfl ?_
        refine xaload_n hk dX2_isDue_45 rfl ?_
        refine xcallV hk c_X2_reckon47 bX2_reckon kX2_63 dX2_isDue_46 rfl ⟨_, _, _, _, rfl, rfl⟩ rfl (by decide) ⟨by decide, by decide⟩ (Nat.le_of_ble_eq_true rfl) (det ?_)
        refine xiinc hk dX2_isDue_49 rfl (by decide) rfl ?_
        refine xgoto hk 35 dX2_isDue_52 (by decide) ?_
        exact ih _ _ (by rw [inc_toInt (by omega)]; omega) hy
  refine xaload_n hk dX2_isDue_0 rfl ?_
  refine xgetR (ci := 2) (f := 0) hk dX2_isDue_1 ⟨rfl, by decide, _, rfl, rfl⟩ kX2_15 ?_
  refine xiload_n hk dX2_isDue_4 rfl ?_
  refine xcallV hk c_X0_codeStart bX0_codeStart kX2_54 dX2_isDue_5 rfl ⟨_, _, _, _, rfl, rfl⟩ rfl (by decide) ⟨by decide, by decide⟩ (Nat.le_of_ble_eq_true rfl) (det ?_)
  refine xistore_n hk dX2_isDue_8 (by decide) ?_
  refine xaload_n hk dX2_isDue_9 rfl ?_
  refine xgetR (ci := 2) (f := 0) hk dX2_isDue_10 ⟨rfl, by decide, _, rfl, rfl⟩ kX2_15 ?_
  refine xiload_n hk dX2_isDue_13 rfl ?_
  refine xcallV hk c_X0_codeEnd bX0_codeEnd kX2_57 dX2_isDue_14 rfl ⟨_, _, _, _, rfl, rfl⟩ rfl (by decide) ⟨by decide, by decide⟩ (Nat.le_of_ble_eq_true rfl) (det ?_)
  refine xistore hk dX2_isDue_17 (by decide) ?_
  refine xiload_n hk dX2_isDue_19 rfl ?_
  refine xiload hk dX2_isDue_20 rfl ?_
  refine xicmp_lt hk 27 dX2_isDue_22 (by decide) (fun h22 => ?_) (fun h22 => ?_)
  · have h22 : ¬ entI x 30 16 j ≤ entI x 29 16 j := by rw [Int32.le_iff_toInt_le]; rw [Int32.lt_iff_toInt_lt] at h22; omega
    refine xaload_n hk dX2_isDue_27 rfl ?_
    refine xiconst (v := 0) hk dX2_isDue_28 (by decide) ?_
    refine xputI (ci := 2) (f := 4) hk dX2_isDue_29 ⟨rfl, by decide, _, rfl, rfl⟩ kX2_60 ⟨rfl, by decide +kernel⟩ ?_
    refine xiload_n hk dX2_isDue_32 rfl ?_
    refine xistore hk dX2_isDue_33 (by decide) ?_
    refine loop _ _ ?_ _ _ _ (Int.toNat_of_nonneg (by rw [Int32.le_iff_toInt_le] at h22; omega)).symm rfl
    intro y5 hy5
    refine xaload_n hk dX2_isDue_55 rfl ?_
    refine xcallV hk c_X2_pop bX2_pop kX2_67 dX2_isDue_56 rfl ⟨_, _, _, _, rfl, rfl⟩ rfl (by decide) ⟨by decide, by decide⟩ (Nat.le_of_ble_eq_true rfl) (det ?_)
    refine xif_eq hk 66 dX2_isDue_59 (by decide) (fun h59 => ?_) (fun h59 => ?_)
    · rw [hy5] at h59
      refine xiconst (v := 0) hk dX2_isDue_66 (by decide) ?_
      refine xzret hk he dX2_isDue_67 ⟨by decide, by decide⟩ (by first | with_reducible exact nar_b _ | rfl) ?_
      exact ⟨by simp [dueU, b2i, h22, h59], by rw [hy5]; simp [dueU, h22]⟩
    · rw [hy5] at h59
      refine xiconst (v := 1) hk dX2_isDue_62 (by decide) ?_
      refine xgoto hk 67 dX2_isDue_63 (by decide) ?_
      refine xzret hk he dX2_isDue_67 ⟨by decide, by decide⟩ (by first | with_reducible exact nar_b _ | rfl) ?_
      exact ⟨by simp [dueU, b2i, h22, h59], by rw [hy5]; simp [dueU, h22]⟩
  · have h22 : entI x 30 16 j ≤ entI x 29 16 j := by rw [Int32.le_iff_toInt_le]; rw [Int32.lt_iff_toInt_lt] at h22; omega
    refine xiconst (v := 1) hk dX2_isDue_25 (by decide) ?_
    refine xzret hk he dX2_isDue_26 ⟨by decide, by decide⟩ (by first | with_reducible exact nar_b _ | rfl) ?_
    exact ⟨by simp [dueU, b2i, h22], by simp [dueU, h22]⟩
