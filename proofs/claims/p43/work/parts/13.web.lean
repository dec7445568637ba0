theorem kX7_18 : Cond.fieldLink RX7 18 "FeudBook$Web" "seen" "I" ∈ GW := gw_mem 247 (by decide +kernel) (by decide +kernel)
theorem kX7_9 : Cond.fieldLink RX7 9 "FeudBook$Web" "steps" "[I" ∈ GW := gw_mem 243 (by decide +kernel) (by decide +kernel)
theorem kX7_37 : Cond.methodLinkNest RX7 37 yX8_with "FeudBook" ∈ NW := nw_mem 578 (by decide +kernel) rfl
theorem kX7_48 : Cond.fieldLink RX7 48 "FeudBook$Web" "claims" "I" ∈ GW := gw_mem 245 (by decide +kernel) (by decide +kernel)
theorem kX7_41 : Cond.methodLinkNest RX7 41 yX8_has "FeudBook" ∈ NW := nw_mem 565 (by decide +kernel) rfl
theorem kX7_15 : Cond.fieldLink RX7 15 "FeudBook$Web" "reaches" "[I" ∈ GW := gw_mem 244 (by decide +kernel) (by decide +kernel)
theorem kX7_75 : Cond.methodLink RX7 75 Lib.Math.min.name ∈ GW := gw_mem 585 (by decide +kernel) (by decide +kernel)
def addStepF (y : XS) (fr cl : Int32) : XS := if fr < 0 then y else if nI 20 ≤ fr then y else setI y 38 fr.toNatClampNeg (withI (y.1 38 fr.toNatClampNeg) cl)
def afterF (y : XS) (rd : Int32) (j : Nat) (p : Int32) : Int32 := if hasB rd (nI j) then p ||| y.1 38 j else p
def after1 (y : XS) (rd : Int32) : Int32 := itP (afterF y rd) (min (y.1 37 3).toNatClampNeg 20) 0
def togF (y : XS) (cl : Int32) (j : Nat) (p : Int32) : Int32 := if hasB (y.1 39 j) cl then (if cl < 0 then p else if nI 20 ≤ cl then p else if hasB (y.1 39 cl.toNatClampNeg) (nI j) then withI p (nI j) else p) else p
def togetherF (y : XS) (cl : Int32) : Int32 := itP (togF y cl) (min (y.1 37 3).toNatClampNeg 20) 0
def clsA (j : Nat) (y : XS) : XS := setI y 39 j (withI (y.1 38 j) (nI j))
def clsB (m c : Nat) (y : XS) : XS := if hasB (y.1 39 c) (nI m) then setI y 39 c (y.1 39 c ||| y.1 39 m) else y
def closeN (y : XS) : Nat := (minI (y.1 37 3) (minI (nI 20) (nI 20))).toNatClampNeg
def closeF (y : XS) : XS := itP (fun m => itP (clsB m) (closeN y)) (closeN y) (itP clsA (closeN y) y)
def zerF (j : Nat) (y : XS) : XS := setI y 38 j 0
def stmF (s : Int32) (j : Nat) (y : XS) : XS := if hasB s (nI j) then
  let y1 := addStepF y (entI y 25 20 (nI j) ^^^ 1) (entI y 26 20 (nI j)); addStepF y1 (entI y1 26 20 (nI j) ^^^ 1) (entI y1 25 20 (nI j)) else y
def cntF (j : Nat) (y : XS) : XS := if lowI (togetherF y (nI j)) = nI j then setI y 37 4 (y.1 37 4 + 1) else y
def webLook (s : Int32) (x : XS) : XS := if s = x.1 37 5 then x else
  let x1 := setI x 37 5 s
  let x2 := setI x1 37 3 (2 * x1.1 21 0)
  let x3 := itP zerF (min (x2.1 37 3).toNatClampNeg 20) x2
  let x4 := itP (stmF s) (x3.1 21 1).toNatClampNeg x3
  let x5 := setI (closeF x4) 37 4 0
  itP cntF (x5.1 37 3).toNatClampNeg x5
def reachF (x : XS) (s cl : Int32) : Int32 := if cl < 0 then 0 else if nI 20 ≤ cl then 0 else (webLook s x).1 39 cl.toNatClampNeg
/-- how many steps, from j on, of r more at the most; -1 if none leads there -/
def distL (y : XS) (cl : Int32) : Nat → Nat → Int32 → Int32
  | 0, _, _ => -1
  | r + 1, j, rd => if hasB rd cl then nI j else distL y cl r (j + 1) (rd ||| after1 y rd)
def distF (x : XS) (s cl fr : Int32) : Int32 := distL (webLook s x) cl 21 0 (withI 0 fr)
theorem addStep_1 {y : XS} {fr cl : Int32} {q k : Nat} (h : q ≠ 38) : (addStepF y fr cl).1 q k = y.1 q k := by
  unfold addStepF
  split
  · rfl
  · split
    · rfl
    · simp [rdI, h]
theorem nI_gt {a b : Nat} (ha : a < 2 ^ 31) (hb : b < 2 ^ 31) : nI a < nI b ↔ a < b := nI_ltI ha hb
theorem minI_le {b : Int32} {n : Nat} (hn : n < 2 ^ 31) : (minI b (nI n)).toNatClampNeg = min b.toNatClampNeg n := by
  unfold minI
  split
  · rename_i h
    rw [nI_lt' hn] at h
    rw [nI_clamp hn]; omega
  · rename_i h
    rw [nI_lt' hn] at h
    omega
theorem minI_self (n : Nat) : minI (nI n) (nI n) = nI n := by unfold minI; split <;> rfl
theorem closeN_le (y : XS) : closeN y ≤ 20 := by unfold closeN; rw [minI_self, minI_le (by decide)]; omega

set_option maxHeartbeats 4000000 in
set_option maxRecDepth 100000 in
theorem c_X7_forget {g : Gx} {a : Nat → Nat} {x : XS}  : Mx g yX7_forget cX7_forget 1 none 1 0 0 LF a x [.ref (a 37)] (pr none (setI x 37 5 (-1))) := by
  refine Mx_of (by decide +kernel) (Nat.le_of_ble_eq_true rfl) ?_
  intro k hk he hg
  subst hg

  refine xaload_n hk dX7_forget_0 rfl ?_
  refine xiconst (v := (-1)) hk dX7_forget_1 (by decide) ?_
  refine xputI (ci := 7) (f := 5) hk dX7_forget_2 ⟨rfl, by decide, _, rfl, rfl⟩ kX7_18 ⟨rfl, by decide +kernel⟩ ?_
  refine xvret hk he dX7_forget_5 ⟨by decide, by decide⟩ ?_
  exact ⟨rfl, rfl⟩
set_option maxHeartbeats 4000000 in
set_option maxRecDepth 100000 in
theorem c_X7_addStep {g : Gx} {a : Nat → Nat} {x : XS} {fr cl : Int32} : Mx g yX7_addStep cX7_addStep 3 none 2 0 0 LF a x [.ref (a 37), .int fr, .int cl] (pr none (addStepF x fr cl)) := by
  refine Mx_of (by decide +kernel) (Nat.le_of_ble_eq_true rfl) ?_
  intro k hk he hg
  subst hg

  refine xiload_n hk dX7_addStep_0 rfl ?_
  refine xif_lt hk 29 dX7_addStep_1 (by decide) (fun h1 => ?_) (fun h1 => ?_)
  · refine xvret hk he dX7_addStep_29 ⟨by decide, by decide⟩ ?_
    exact ⟨rfl, by simp [addStepF, *]⟩
  · refine xiload_n hk dX7_addStep_4 rfl ?_
    refine xaload_n hk dX7_addStep_5 rfl ?_
    refine xgetR (ci := 7) (f := 1) hk dX7_addStep_6 ⟨rfl, by decide, _, rfl, rfl⟩ kX7_9 ?_
    refine xalen (v := nI _) hk dX7_addStep_9 rfl (by decide) rfl ?_
    refine xicmp_ge hk 29 dX7_addStep_10 (by decide) (fun h10 => ?_) (fun h10 => ?_)
    · refine xvret hk he dX7_addStep_29 ⟨by decide, by decide⟩ ?_
      exact ⟨rfl, by simp [addStepF, *]⟩
    · refine xaload_n hk dX7_addStep_13 rfl ?_
      refine xgetR (ci := 7) (f := 1) hk dX7_addStep_14 ⟨rfl, by decide, _, rfl, rfl⟩ kX7_9 ?_
      refine xiload_n hk dX7_addStep_17 rfl ?_
      refine xaload_n hk dX7_addStep_18 rfl ?_
      refine xgetR (ci := 7) (f := 1) hk dX7_addStep_19 ⟨rfl, by decide, _, rfl, rfl⟩ kX7_9 ?_
      refine xiload_n hk dX7_addStep_22 rfl ?_
      refine xiald hk dX7_addStep_23 rfl (vin h1 h10 (by decide)) ?_
      refine xiload_n hk dX7_addStep_24 rfl ?_
      refine xcallSN hk c_X8_with bX8_with kX7_37 dX7_addStep_25 rfl rfl (by decide) ⟨by decide, by decide⟩ (Nat.le_of_ble_eq_true rfl) (det ?_)
      refine xiast hk dX7_addStep_28 rfl (vin h1 h10 (by decide)) ?_
      refine xvret hk he dX7_addStep_29 ⟨by decide, by decide⟩ ?_
      exact ⟨rfl, by simp [addStepF, *]⟩
set_option maxHeartbeats 4000000 in
set_option maxRecDepth 100000 in
theorem c_X7_afterOneStep {g : Gx} {a : Nat → Nat} {x : XS} {rd : Int32} : Mx g yX7_afterOneStep cX7_afterOneStep 4 (some .int) 2 0 0 LF a x [.ref (a 37), .int rd] (pr (some (.int (after1 x rd))) x) := by
  refine Mx_of (by decide +kernel) (Nat.le_of_ble_eq_true rfl) ?_
  intro k hk he hg
  subst hg

  have loop : ∀ (n j : Nat) (v p : Int32), min (x.1 37 3).toNatClampNeg 20 - j < n → v = nI j → j ≤ min (x.1 37 3).toNatClampNeg 20 → p = itP (afterF x rd) j 0 → Wx k 0 0 LF a x 4 [(0, .ref (a 37)), (1, .int rd), (2, .int p), (3, .int v)] [] := by
    intro n
    induction n with
    | zero => intros; omega
    | succ n ih =>
      intro j v p hn hv hj hp
      subst hv
      subst hp
      refine xiload_n hk dX7_afterOneStep_4 rfl ?_
      refine xaload_n hk dX7_afterOneStep_5 rfl ?_
      refine xgetI (ci := 7) (f := 3) hk dX7_afterOneStep_6 ⟨rfl, by decide, _, rfl, rfl⟩ kX7_48 ?_
      refine xicmp_ge hk 44 dX7_afterOneStep_9 (by decide) (fun h9 => ?_) (fun h9 => ?_)
      · rw [le_nI (by omega)] at h9
        refine xiload_n hk dX7_afterOneStep_44 rfl ?_
        refine xiret hk he dX7_afterOneStep_45 ⟨by decide, by decide⟩ ?_
        exact ⟨by rw [show j = min (x.1 37 3).toNatClampNeg 20 by omega]; rfl, rfl⟩
      · rw [le_nI (by omega)] at h9
        refine xiload_n hk dX7_afterOneStep_12 rfl ?_
        refine xaload_n hk dX7_afterOneStep_13 rfl ?_
        refine xgetR (ci := 7) (f := 1) hk dX7_afterOneStep_14 ⟨rfl, by decide, _, rfl, rfl⟩ kX7_9 ?_
        refine xalen (v := nI _) hk dX7_afterOneStep_17 rfl (by decide) rfl ?_
        refine xicmp_ge hk 44 dX7_afterOneStep_18 (by decide) (fun h18 => ?_) (fun h18 => ?_)
        · rw [nI_leI (by omega) (by omega)] at h18
          refine xiload_n hk dX7_afterOneStep_44 rfl ?_
          refine xiret hk he dX7_afterOneStep_45 ⟨by decide, by decide⟩ ?_
          exact ⟨by rw [show j = min (x.1 37 3).toNatClampNeg 20 by omega]; rfl, rfl⟩
        · rw [nI_leI (by omega) (by omega)] at h18
          refine xiload_n hk dX7_afterOneStep_21 rfl ?_
          refine xiload_n hk dX7_afterOneStep_22 rfl ?_
          refine xcallSN hk c_X8_has bX8_has kX7_41 dX7_afterOneStep_23 rfl rfl (by decide) ⟨by decide, by decide⟩ (Nat.le_of_ble_eq_true rfl) (det ?_)
          refine xif_eq hk 38 dX7_afterOneStep_26 (by decide) (fun h26 => ?_) (fun h26 => ?_)
          · rw [b2i_0] at h26
            refine xiinc hk dX7_afterOneStep_38 rfl (by decide) rfl ?_
            refine xgoto hk 4 dX7_afterOneStep_41 (by decide) ?_
            exact ih (j + 1) _ _ (by omega) (nI_inc j) (by omega) (by simp [itP, afterF, *])
          · rw [b2i_t] at h26
            refine xiload_n hk dX7_afterOneStep_29 rfl ?_
            refine xaload_n hk dX7_afterOneStep_30 rfl ?_
            refine xgetR (ci := 7) (f := 1) hk dX7_afterOneStep_31 ⟨rfl, by decide, _, rfl, rfl⟩ kX7_9 ?_
            refine xiload_n hk dX7_afterOneStep_34 rfl ?_
            refine xiald hk dX7_afterOneStep_35 rfl (vp_in_nI (by omega) (by decide)) ?_
            rw [nI_clamp (by omega)]
            refine xior hk dX7_afterOneStep_36 ?_
            refine xistore_n hk dX7_afterOneStep_37 (by decide) ?_
            refine xiinc hk dX7_afterOneStep_38 rfl (by decide) rfl ?_
            refine xgoto hk 4 dX7_afterOneStep_41 (by decide) ?_
            exact ih (j + 1) _ _ (by omega) (nI_inc j) (by omega) (by simp [itP, afterF, *])
  refine xiconst (v := 0) hk dX7_afterOneStep_0 (by decide) ?_
  refine xistore_n hk dX7_afterOneStep_1 (by decide) ?_
  refine xiconst (v := 0) hk dX7_afterOneStep_2 (by decide) ?_
  refine xistore_n hk dX7_afterOneStep_3 (by decide) ?_
  exact loop _ 0 _ _ (Nat.lt_succ_self _) rfl (by omega) rfl
set_option maxHeartbeats 4000000 in
set_option maxRecDepth 100000 in
theorem c_X7_together {g : Gx} {a : Nat → Nat} {x : XS} {cl : Int32} : Mx g yX7_together cX7_together 4 (some .int) 2 0 0 LF a x [.ref (a 37), .int cl] (pr (some (.int (togetherF x cl))) x) := by
  refine Mx_of (by decide +kernel) (Nat.le_of_ble_eq_true rfl) ?_
  intro k hk he hg
  subst hg

  have loop : ∀ (n j : Nat) (v p : Int32), min (x.1 37 3).toNatClampNeg 20 - j < n → v = nI j → j ≤ min (x.1 37 3).toNatClampNeg 20 → p = itP (togF x cl) j 0 → Wx k 0 0 LF a x 4 [(0, .ref (a 37)), (1, .int cl), (2, .int p), (3, .int v)] [] := by
    intro n
    induction n with
    | zero => intros; omega
    | succ n ih =>
      intro j v p hn hv hj hp
      subst hv
      subst hp
      refine xiload_n hk dX7_together_4 rfl ?_
      refine xaload_n hk dX7_together_5 rfl ?_
      refine xgetI (ci := 7) (f := 3) hk dX7_together_6 ⟨rfl, by decide, _, rfl, rfl⟩ kX7_48 ?_
      refine xicmp_ge hk 72 dX7_together_9 (by decide) (fun h9 => ?_) (fun h9 => ?_)
      · rw [le_nI (by omega)] at h9
        refine xiload_n hk dX7_together_72 rfl ?_
        refine xiret hk he dX7_together_73 ⟨by decide, by decide⟩ ?_
        exact ⟨by rw [show j = min (x.1 37 3).toNatClampNeg 20 by omega]; rfl, rfl⟩
      · rw [le_nI (by omega)] at h9
        refine xiload_n hk dX7_together_12 rfl ?_
        refine xaload_n hk dX7_together_13 rfl ?_
        refine xgetR (ci := 7) (f := 2) hk dX7_together_14 ⟨rfl, by decide, _, rfl, rfl⟩ kX7_15 ?_
        refine xalen (v := nI _) hk dX7_together_17 rfl (by decide) rfl ?_
        refine xicmp_ge hk 72 dX7_together_18 (by decide) (fun h18 => ?_) (fun h18 => ?_)
        · rw [nI_leI (by omega) (by omega)] at h18
          refine xiload_n hk dX7_together_72 rfl ?_
          refine xiret hk he dX7_together_73 ⟨by decide, by decide⟩ ?_
          exact ⟨by rw [show j = min (x.1 37 3).toNatClampNeg 20 by omega]; rfl, rfl⟩
        · rw [nI_leI (by omega) (by omega)] at h18
          refine xaload_n hk dX7_together_21 rfl ?_
          refine xgetR (ci := 7) (f := 2) hk dX7_together_22 ⟨rfl, by decide, _, rfl, rfl⟩ kX7_15 ?_
          refine xiload_n hk dX7_together_25 rfl ?_
          refine xiald hk dX7_together_26 rfl (vp_in_nI (by omega) (by decide)) ?_
          rw [nI_clamp (by omega)]
          refine xiload_n hk dX7_together_27 rfl ?_
          refine xcallSN hk c_X8_has bX8_has kX7_41 dX7_together_28 rfl rfl (by decide) ⟨by decide, by decide⟩ (Nat.le_of_ble_eq_true rfl) (det ?_)
          refine xif_eq hk 66 dX7_together_31 (by decide) (fun h31 => ?_) (fun h31 => ?_)
          · rw [b2i_0] at h31
            refine xiinc hk dX7_together_66 rfl (by decide) rfl ?_
            refine xgoto hk 4 dX7_together_69 (by decide) ?_
            exact ih (j + 1) _ _ (by omega) (nI_inc j) (by omega) (by simp [itP, togF, *])
          · rw [b2i_t] at h31
            refine xiload_n hk dX7_together_34 rfl ?_
            refine xif_lt hk 66 dX7_together_35 (by decide) (fun h35 => ?_) (fun h35 => ?_)
            · refine xiinc hk dX7_together_66 rfl (by decide) rfl ?_
              refine xgoto hk 4 dX7_together_69 (by decide) ?_
              exact ih (j + 1) _ _ (by omega) (nI_inc j) (by omega) (by simp [itP, togF, *])
            · refine xiload_n hk dX7_together_38 rfl ?_
              refine xaload_n hk dX7_together_39 rfl ?_
              refine xgetR (ci := 7) (f := 2) hk dX7_together_40 ⟨rfl, by decide, _, rfl, rfl⟩ kX7_15 ?_
              refine xalen (v := nI _) hk dX7_together_43 rfl (by decide) rfl ?_
              refine xicmp_ge hk 66 dX7_together_44 (by decide) (fun h44 => ?_) (fun h44 => ?_)
              · refine xiinc hk dX7_together_66 rfl (by decide) rfl ?_
                refine xgoto hk 4 dX7_together_69 (by decide) ?_
                exact ih (j + 1) _ _ (by omega) (nI_inc j) (by omega) (by simp [itP, togF, *])
              · refine xaload_n hk dX7_together_47 rfl ?_
                refine xgetR (ci := 7) (f := 2) hk dX7_together_48 ⟨rfl, by decide, _, rfl, rfl⟩ kX7_15 ?_
                refine xiload_n hk dX7_together_51 rfl ?_
                refine xiald hk dX7_together_52 rfl (vin h35 h44 (by decide)) ?_
                refine xiload_n hk dX7_together_53 rfl ?_
                refine xcallSN hk c_X8_has bX8_has kX7_41 dX7_together_54 rfl rfl (by decide) ⟨by decide, by decide⟩ (Nat.le_of_ble_eq_true rfl) (det ?_)
                refine xif_eq hk 66 dX7_together_57 (by decide) (fun h57 => ?_) (fun h57 => ?_)
                · rw [b2i_0] at h57
                  refine xiinc hk dX7_together_66 rfl (by decide) rfl ?_
                  refine xgoto hk 4 dX7_together_69 (by decide) ?_
                  exact ih (j + 1) _ _ (by omega) (nI_inc j) (by omega) (by simp [itP, togF, *])
                · rw [b2i_t] at h57
                  refine xiload_n hk dX7_together_60 rfl ?_
                  refine xiload_n hk dX7_together_61 rfl ?_
                  refine xcallSN hk c_X8_with bX8_with kX7_37 dX7_together_62 rfl rfl (by decide) ⟨by decide, by decide⟩ (Nat.le_of_ble_eq_true rfl) (det ?_)
                  refine xistore_n hk dX7_together_65 (by decide) ?_
                  refine xiinc hk dX7_together_66 rfl (by decide) rfl ?_
                  refine xgoto hk 4 dX7_together_69 (by decide) ?_
                  exact ih (j + 1) _ _ (by omega) (nI_inc j) (by omega) (by simp [itP, togF, *])
  refine xiconst (v := 0) hk dX7_together_0 (by decide) ?_
  refine xistore_n hk dX7_together_1 (by decide) ?_
  refine xiconst (v := 0) hk dX7_together_2 (by decide) ?_
  refine xistore_n hk dX7_together_3 (by decide) ?_
  exact loop _ 0 _ _ (Nat.lt_succ_self _) rfl (by omega) rfl
set_option maxHeartbeats 4000000 in
set_option maxRecDepth 100000 in
theorem c_X7_close {g : Gx} {a : Nat → Nat} {x : XS}  : Mx g yX7_close cX7_close 4 none 2 0 0 LF a x [.ref (a 37)] (pr none (closeF x)) := by
  refine Mx_of (by decide +kernel) (Nat.le_of_ble_eq_true rfl) ?_
  intro k hk he hg
  subst hg

  have hN := closeN_le x
  have inner : ∀ (m : Nat), m < closeN x → ∀ (y : XS), (∀ y' : XS, y' = itP (clsB m) (closeN x) y → Wx k 0 0 LF a y' 52 [(0, .ref (a 37)), (1, .int (minI (x.1 37 3) (minI (nI 20) (nI 20)))), (2, .int (nI (m + 1)))] []) → ∀ (n j : Nat) (v : Int32) (z : XS), closeN x - j < n → v = nI j → j ≤ closeN x → z = itP (clsB m) j y → Wx k 0 0 LF a z 59 [(0, .ref (a 37)), (1, .int (minI (x.1 37 3) (minI (nI 20) (nI 20)))), (2, .int (nI m)), (3, .int v)] [] := by
    intro m hm y kk n
    induction n with
    | zero => intros; omega
    | succ n ih =>
      intro j v z hn hv hj hz
      subst hv
      refine xiload_n hk dX7_close_59 rfl ?_
      refine xiload_n hk dX7_close_60 rfl ?_
      refine xicmp_ge hk 98 dX7_close_61 (by decide) (fun h61 => ?_) (fun h61 => ?_)
      · rw [le_nI (by omega)] at h61
        have hjn : j = closeN x := Nat.le_antisymm hj h61
        refine xiinc hk dX7_close_98 rfl (by decide) rfl ?_
        refine xgoto hk 52 dX7_close_101 (by decide) ?_
        refine xsub [(0, _), (1, _), (2, _)] rfl ?_
        rw [nI_inc]
        exact kk _ (by rw [hz, hjn])
      · rw [le_nI (by omega)] at h61
        have hjn : j < closeN x := Nat.lt_of_not_le h61
        refine xaload_n hk dX7_close_64 rfl ?_
        refine xgetR (ci := 7) (f := 2) hk dX7_close_65 ⟨rfl, by decide, _, rfl, rfl⟩ kX7_15 ?_
        refine xiload_n hk dX7_close_68 rfl ?_
        refine xiald hk dX7_close_69 rfl (vp_in_nI (by omega) (by decide)) ?_
        rw [nI_clamp (by omega)]
        refine xiload_n hk dX7_close_70 rfl ?_
        refine xcallSN hk c_X8_has bX8_has kX7_41 dX7_close_71 rfl rfl (by decide) ⟨by decide, by decide⟩ (Nat.le_of_ble_eq_true rfl) (det ?_)
        refine xif_eq hk 92 dX7_close_74 (by decide) (fun h74 => ?_) (fun h74 => ?_)
        · rw [b2i_0] at h74
          refine xiinc hk dX7_close_92 rfl (by decide) rfl ?_
          refine xgoto hk 59 dX7_close_95 (by decide) ?_
          exact ih (j + 1) _ _ (by omega) (nI_inc j) (by omega) (by subst hz; simp [itP, clsB, *])
        · rw [b2i_t] at h74
          refine xaload_n hk dX7_close_77 rfl ?_
          refine xgetR (ci := 7) (f := 2) hk dX7_close_78 ⟨rfl, by decide, _, rfl, rfl⟩ kX7_15 ?_
          refine xiload_n hk dX7_close_81 rfl ?_
          refine xdup2 hk dX7_close_82 rfl rfl ?_
          refine xiald hk dX7_close_83 rfl (vp_in_nI (by omega) (by decide)) ?_
          rw [nI_clamp (by omega)]
          refine xaload_n hk dX7_close_84 rfl ?_
          refine xgetR (ci := 7) (f := 2) hk dX7_close_85 ⟨rfl, by decide, _, rfl, rfl⟩ kX7_15 ?_
          refine xiload_n hk dX7_close_88 rfl ?_
          refine xiald hk dX7_close_89 rfl (vp_in_nI (by omega) (by decide)) ?_
          rw [nI_clamp (by omega)]
          refine xior hk dX7_close_90 ?_
          refine xiast hk dX7_close_91 rfl (vp_in_nI (by omega) (by decide)) ?_
          rw [nI_clamp (by omega)]
          refine xiinc hk dX7_close_92 rfl (by decide) rfl ?_
          refine xgoto hk 59 dX7_close_95 (by decide) ?_
          exact ih (j + 1) _ _ (by omega) (nI_inc j) (by omega) (by subst hz; simp [itP, clsB, *])
  have outer : ∀ (n m : Nat) (v : Int32) (y : XS), closeN x - m < n → v = nI m → m ≤ closeN x → y = itP (fun m => itP (clsB m) (closeN x)) m (itP clsA (closeN x) x) → Wx k 0 0 LF a y 52 [(0, .ref (a 37)), (1, .int (minI (x.1 37 3) (minI (nI 20) (nI 20)))), (2, .int v)] [] := by
    intro n
    induction n with
    | zero => intros; omega
    | succ n ih =>
      intro m v y hn hv hm hy
      subst hv
      refine xiload_n hk dX7_close_52 rfl ?_
      refine xiload_n hk dX7_close_53 rfl ?_
      refine xicmp_ge hk 104 dX7_close_54 (by decide) (fun h54 => ?_) (fun h54 => ?_)
      · rw [le_nI (by omega)] at h54
        have hmn : m = closeN x := Nat.le_antisymm hm h54
        refine xvret hk he dX7_close_104 ⟨by decide, by decide⟩ ?_
        exact ⟨rfl, by rw [hy, hmn]; rfl⟩
      · rw [le_nI (by omega)] at h54
        have hmn : m < closeN x := Nat.lt_of_not_le h54
        refine xiconst (v := 0) hk dX7_close_57 (by decide) ?_
        refine xistore_n hk dX7_close_58 (by decide) ?_
        exact inner m hmn y (fun y2 hy2 => ih (m + 1) _ y2 (by omega) rfl (by omega) (by rw [hy2, hy]; rfl)) _ 0 _ _ (Nat.lt_succ_self _) rfl (by omega) rfl
  have first : ∀ (n j : Nat) (v : Int32) (y : XS), closeN x - j < n → v = nI j → j ≤ closeN x → y = itP clsA j x → Wx k 0 0 LF a y 23 [(0, .ref (a 37)), (1, .int (minI (x.1 37 3) (minI (nI 20) (nI 20)))), (2, .int v)] [] := by
    intro n
    induction n with
    | zero => intros; omega
    | succ n ih =>
      intro j v y hn hv hj hy
      subst hv
      refine xiload_n hk dX7_close_23 rfl ?_
      refine xiload_n hk dX7_close_24 rfl ?_
      refine xicmp_ge hk 50 dX7_close_25 (by decide) (fun h25 => ?_) (fun h25 => ?_)
      · rw [le_nI (by omega)] at h25
        have hjn : j = closeN x := Nat.le_antisymm hj h25
        refine xiconst (v := 0) hk dX7_close_50 (by decide) ?_
        refine xistore_n hk dX7_close_51 (by decide) ?_
        exact outer _ 0 _ _ (Nat.lt_succ_self _) rfl (by omega) (by rw [hy, hjn]; rfl)
      · rw [le_nI (by omega)] at h25
        have hjn : j < closeN x := Nat.lt_of_not_le h25
        refine xaload_n hk dX7_close_28 rfl ?_
        refine xgetR (ci := 7) (f := 2) hk dX7_close_29 ⟨rfl, by decide, _, rfl, rfl⟩ kX7_15 ?_
        refine xiload_n hk dX7_close_32 rfl ?_
        refine xaload_n hk dX7_close_33 rfl ?_
        refine xgetR (ci := 7) (f := 1) hk dX7_close_34 ⟨rfl, by decide, _, rfl, rfl⟩ kX7_9 ?_
        refine xiload_n hk dX7_close_37 rfl ?_
        refine xiald hk dX7_close_38 rfl (vp_in_nI (by omega) (by decide)) ?_
        rw [nI_clamp (by omega)]
        refine xiload_n hk dX7_close_39 rfl ?_
        refine xcallSN hk c_X8_with bX8_with kX7_37 dX7_close_40 rfl rfl (by decide) ⟨by decide, by decide⟩ (Nat.le_of_ble_eq_true rfl) (det ?_)
        refine xiast hk dX7_close_43 rfl (vp_in_nI (by omega) (by decide)) ?_
        rw [nI_clamp (by omega)]
        refine xiinc hk dX7_close_44 rfl (by decide) rfl ?_
        refine xgoto hk 23 dX7_close_47 (by decide) ?_
        exact ih (j + 1) _ _ (by omega) (nI_inc j) (by omega) (by subst hy; rfl)
  refine xaload_n hk dX7_close_0 rfl ?_
  refine xgetI (ci := 7) (f := 3) hk dX7_close_1 ⟨rfl, by decide, _, rfl, rfl⟩ kX7_48 ?_
  refine xaload_n hk dX7_close_4 rfl ?_
  refine xgetR (ci := 7) (f := 1) hk dX7_close_5 ⟨rfl, by decide, _, rfl, rfl⟩ kX7_9 ?_
  refine xalen (v := nI _) hk dX7_close_8 rfl (by decide) rfl ?_
  refine xaload_n hk dX7_close_9 rfl ?_
  refine xgetR (ci := 7) (f := 2) hk dX7_close_10 ⟨rfl, by decide, _, rfl, rfl⟩ kX7_15 ?_
  refine xalen (v := nI _) hk dX7_close_13 rfl (by decide) rfl ?_
  refine xmmin hk dX7_close_14 kX7_75 mw_min (by decide) ⟨by decide, by decide⟩ (Nat.le_of_ble_eq_true rfl) ?_
  refine xmmin hk dX7_close_17 kX7_75 mw_min (by decide) ⟨by decide, by decide⟩ (Nat.le_of_ble_eq_true rfl) ?_
  refine xistore_n hk dX7_close_20 (by decide) ?_
  refine xiconst (v := 0) hk dX7_close_21 (by decide) ?_
  refine xistore_n hk dX7_close_22 (by decide) ?_
  exact first _ 0 _ _ (Nat.lt_succ_self _) rfl (by omega) rfl
