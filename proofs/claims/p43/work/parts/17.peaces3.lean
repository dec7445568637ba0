theorem kX3_15 : Cond.fieldLink RX3 15 "FeudBook$Peaces" "narrowed" "[J" ∈ GW := gw_mem 269 (by decide +kernel) (by decide +kernel)
theorem kX3_70 : Cond.methodLink RX3 70 yX3_narrow ∈ GW := gw_mem 676 (by decide +kernel) (by decide +kernel)
theorem bX3_narrow : CBv yX3_narrow cX3_narrow 5 (some .boolean) 1 := ⟨⟨gw_mem 679 (by decide +kernel) (by decide +kernel), gw_mem 19 (by decide +kernel) (by decide +kernel), by decide +kernel, by decide⟩, gw_mem 678 (by decide +kernel) (by decide +kernel), gw_sel 13 (by decide +kernel) (by decide +kernel)⟩
theorem kX3_74 : Cond.methodLinkNest RX3 74 yX8_with "FeudBook" ∈ NW := nw_mem 680 (by decide +kernel) rfl
theorem kX3_77 : Cond.methodLink RX3 77 yX3_fewestNotHoldingIn ∈ GW := gw_mem 819 (by decide +kernel) (by decide +kernel)
theorem bX3_fewestNotHoldingIn : CBv yX3_fewestNotHoldingIn cX3_fewestNotHoldingIn 12 (some .int) 2 := ⟨⟨gw_mem 822 (by decide +kernel) (by decide +kernel), gw_mem 19 (by decide +kernel) (by decide +kernel), by decide +kernel, by decide⟩, gw_mem 821 (by decide +kernel) (by decide +kernel), gw_sel 19 (by decide +kernel) (by decide +kernel)⟩
theorem kX3_80 : Cond.methodLink RX3 80 Lib.Math.min.name ∈ GW := gw_mem 823 (by decide +kernel) (by decide +kernel)
theorem kX3_46 : Cond.methodLink RX3 46 yX0_left ∈ GW := gw_mem 1128 (by decide +kernel) (by decide +kernel)
theorem kX3_54 : Cond.methodLink RX3 54 yX0_right ∈ GW := gw_mem 1129 (by decide +kernel) (by decide +kernel)
theorem kX3_37 : Cond.methodLink RX3 37 Lib.Math.max.name ∈ GW := gw_mem 1127 (by decide +kernel) (by decide +kernel)
set_option maxHeartbeats 4000000 in
set_option maxRecDepth 100000 in
theorem c_X3_narrow {g : Gx} {a : Nat → Nat} {x : XS} {f : Int32} : Mx g yX3_narrow cX3_narrow 5 (some .boolean) 3 0 0 LF a x [.ref (a 40), .int f] (pr (some (.int (b2i (narrowB x f)))) (narrowF x f)) := by
  refine Mx_of (by decide +kernel) (Nat.le_of_ble_eq_true rfl) ?_
  intro k hk he hg
  subst hg

  have l2 : narrowB x f = true → ∀ (n j : Nat) (v : Int32) (y : XS), used16 x - j < n → v = nI j → j ≤ used16 x → y = itP (narF f) j x → y.1 40 4 = x.1 40 4 → Wx k 0 0 LF a y 60 [(0, .ref (a 40)), (1, .int f), (2, .long (itP (someF x f) (used16 x) 0)), (4, .int v)] [] := by
    intro hB n
    induction n with
    | zero => intros; omega
    | succ n ih =>
      intro j v y hn hv hj hy hc
      subst hv
      have hu : used16 x = min (x.1 40 4).toNatClampNeg 16 := rfl
      refine xiload hk dX3_narrow_60 rfl ?_
      refine xaload_n hk dX3_narrow_62 rfl ?_
      refine xgetI (ci := 3) (f := 4) hk dX3_narrow_63 ⟨rfl, by decide, _, rfl, rfl⟩ kX3_21 ?_
      refine xicmp_ge hk 103 dX3_narrow_66 (by decide) (fun h66 => ?_) (fun h66 => ?_)
      · rw [hc, le_nI (by omega)] at h66
        refine xiconst (v := 1) hk dX3_narrow_103 (by decide) ?_
        refine xzret hk he dX3_narrow_104 ⟨by decide, by decide⟩ (by first | with_reducible exact nar_b _ | rfl) ?_
        exact ⟨by rw [hB]; rfl, by rw [narrowF, if_pos hB, hy, show j = used16 x by omega]⟩
      · rw [hc, le_nI (by omega)] at h66
        refine xiload hk dX3_narrow_69 rfl ?_
        refine xaload_n hk dX3_narrow_71 rfl ?_
        refine xgetR (ci := 3) (f := 2) hk dX3_narrow_72 ⟨rfl, by decide, _, rfl, rfl⟩ kX3_15 ?_
        refine xalen (v := nI _) hk dX3_narrow_75 rfl (by decide) rfl ?_
        refine xicmp_ge hk 103 dX3_narrow_76 (by decide) (fun h76 => ?_) (fun h76 => ?_)
        · rw [nI_leI (by omega) (by omega)] at h76
          refine xiconst (v := 1) hk dX3_narrow_103 (by decide) ?_
          refine xzret hk he dX3_narrow_104 ⟨by decide, by decide⟩ (by first | with_reducible exact nar_b _ | rfl) ?_
          exact ⟨by rw [hB]; rfl, by rw [narrowF, if_pos hB, hy, show j = used16 x by omega]⟩
        · rw [nI_leI (by omega) (by omega)] at h76
          refine xaload_n hk dX3_narrow_79 rfl ?_
          refine xgetR (ci := 3) (f := 2) hk dX3_narrow_80 ⟨rfl, by decide, _, rfl, rfl⟩ kX3_15 ?_
          refine xiload hk dX3_narrow_83 rfl ?_
          refine xdup2 hk dX3_narrow_85 rfl rfl ?_
          refine xlald hk dX3_narrow_86 rfl (vp_in_nI (by omega) (by decide)) ?_
          rw [nI_clamp (by omega)]
          refine xiconst (v := 2) hk dX3_narrow_87 (by decide) ?_
          refine xiload_n hk dX3_narrow_88 rfl ?_
          refine ximul hk dX3_narrow_89 ?_
          refine xiload hk dX3_narrow_90 rfl ?_
          refine xcallS hk c_X3_holds bX3_holds kX3_50 dX3_narrow_92 rfl rfl (by decide) ⟨by decide, by decide⟩ (Nat.le_of_ble_eq_true rfl) (det ?_)
          refine xland hk dX3_narrow_95 ?_
          refine xlast hk dX3_narrow_96 rfl (vp_in_nI (by omega) (by decide)) ?_
          rw [nI_clamp (by omega)]
          refine xiinc hk dX3_narrow_97 rfl (by decide) rfl ?_
          refine xgoto hk 60 dX3_narrow_100 (by decide) ?_
          exact ih (j + 1) _ _ (by omega) (nI_inc j) (by omega) (by subst hy; rfl) (by exact hc)
  have l1 : ∀ (n j : Nat) (v : Int32) (p : Int64), used16 x - j < n → v = nI j → j ≤ used16 x → p = itP (someF x f) j 0 → Wx k 0 0 LF a x 5 [(0, .ref (a 40)), (1, .int f), (2, .long p), (4, .int v)] [] := by
    intro n
    induction n with
    | zero => intros; omega
    | succ n ih =>
      intro j v p hn hv hj hp
      subst hv
      have hu : used16 x = min (x.1 40 4).toNatClampNeg 16 := rfl
      refine xiload hk dX3_narrow_5 rfl ?_
      refine xaload_n hk dX3_narrow_7 rfl ?_
      refine xgetI (ci := 3) (f := 4) hk dX3_narrow_8 ⟨rfl, by decide, _, rfl, rfl⟩ kX3_21 ?_
      refine xicmp_ge hk 49 dX3_narrow_11 (by decide) (fun h11 => ?_) (fun h11 => ?_)
      · rw [le_nI (by omega)] at h11
        refine xlload_n hk dX3_narrow_49 rfl ?_
        refine xlconst (v := 0) hk dX3_narrow_50 (by decide) ?_
        refine xlcmp hk dX3_narrow_51 ?_
        refine xif_ne hk 57 dX3_narrow_52 (by decide) (fun h52 => ?_) (fun h52 => ?_)
        · refine xiconst (v := 0) hk dX3_narrow_57 (by decide) ?_
          refine xistore hk dX3_narrow_58 (by decide) ?_
          rw [lcmp0, hp, show j = used16 x by omega] at h52
          have hB : narrowB x f = true := decide_eq_true h52
          rw [hp, show j = used16 x by omega]
          exact l2 hB _ 0 _ _ (Nat.lt_succ_self _) rfl (by omega) rfl rfl
        · refine xiconst (v := 0) hk dX3_narrow_55 (by decide) ?_
          refine xzret hk he dX3_narrow_56 ⟨by decide, by decide⟩ (by first | with_reducible exact nar_b _ | rfl) ?_
          rw [lcmp0, hp, show j = used16 x by omega] at h52
          have hB : narrowB x f = false := decide_eq_false (fun z => z h52)
          exact ⟨by rw [hB]; rfl, by rw [narrowF, hB]; rfl⟩
      · rw [le_nI (by omega)] at h11
        refine xiload hk dX3_narrow_14 rfl ?_
        refine xaload_n hk dX3_narrow_16 rfl ?_
        refine xgetR (ci := 3) (f := 2) hk dX3_narrow_17 ⟨rfl, by decide, _, rfl, rfl⟩ kX3_15 ?_
        refine xalen (v := nI _) hk dX3_narrow_20 rfl (by decide) rfl ?_
        refine xicmp_ge hk 49 dX3_narrow_21 (by decide) (fun h21 => ?_) (fun h21 => ?_)
        · rw [nI_leI (by omega) (by omega)] at h21
          refine xlload_n hk dX3_narrow_49 rfl ?_
          refine xlconst (v := 0) hk dX3_narrow_50 (by decide) ?_
          refine xlcmp hk dX3_narrow_51 ?_
          refine xif_ne hk 57 dX3_narrow_52 (by decide) (fun h52 => ?_) (fun h52 => ?_)
          · refine xiconst (v := 0) hk dX3_narrow_57 (by decide) ?_
            refine xistore hk dX3_narrow_58 (by decide) ?_
            rw [lcmp0, hp, show j = used16 x by omega] at h52
            have hB : narrowB x f = true := decide_eq_true h52
            rw [hp, show j = used16 x by omega]
            exact l2 hB _ 0 _ _ (Nat.lt_succ_self _) rfl (by omega) rfl rfl
          · refine xiconst (v := 0) hk dX3_narrow_55 (by decide) ?_
            refine xzret hk he dX3_narrow_56 ⟨by decide, by decide⟩ (by first | with_reducible exact nar_b _ | rfl) ?_
            rw [lcmp0, hp, show j = used16 x by omega] at h52
            have hB : narrowB x f = false := decide_eq_false (fun z => z h52)
            exact ⟨by rw [hB]; rfl, by rw [narrowF, hB]; rfl⟩
        · rw [nI_leI (by omega) (by omega)] at h21
          refine xlload_n hk dX3_narrow_24 rfl ?_
          refine xaload_n hk dX3_narrow_25 rfl ?_
          refine xgetR (ci := 3) (f := 2) hk dX3_narrow_26 ⟨rfl, by decide, _, rfl, rfl⟩ kX3_15 ?_
          refine xiload hk dX3_narrow_29 rfl ?_
          refine xlald hk dX3_narrow_31 rfl (vp_in_nI (by omega) (by decide)) ?_
          rw [nI_clamp (by omega)]
          refine xiconst (v := 2) hk dX3_narrow_32 (by decide) ?_
          refine xiload_n hk dX3_narrow_33 rfl ?_
          refine ximul hk dX3_narrow_34 ?_
          refine xiload hk dX3_narrow_35 rfl ?_
          refine xcallS hk c_X3_holds bX3_holds kX3_50 dX3_narrow_37 rfl rfl (by decide) ⟨by decide, by decide⟩ (Nat.le_of_ble_eq_true rfl) (det ?_)
          refine xland hk dX3_narrow_40 ?_
          refine xlor hk dX3_narrow_41 ?_
          refine xlstore_n hk dX3_narrow_42 (by decide) ?_
          refine xiinc hk dX3_narrow_43 rfl (by decide) rfl ?_
          refine xgoto hk 5 dX3_narrow_46 (by decide) ?_
          exact ih (j + 1) _ _ (by omega) (nI_inc j) (by omega) (by subst hp; rfl)
  refine xlconst (v := 0) hk dX3_narrow_0 (by decide) ?_
  refine xlstore_n hk dX3_narrow_1 (by decide) ?_
  refine xiconst (v := 0) hk dX3_narrow_2 (by decide) ?_
  refine xistore hk dX3_narrow_3 (by decide) ?_
  exact l1 _ 0 _ _ (Nat.lt_succ_self _) rfl (by omega) rfl
theorem narF_1 {y : XS} {f : Int32} : (narrowF y f).1 = y.1 := by
  have h : ∀ (n : Nat) (z : XS), (itP (narF f) n z).1 = z.1 := by
    intro n z
    induction n with
    | zero => rfl
    | succ n ih => simp [itP, narF, setL, ih]
  unfold narrowF
  split
  · exact h _ _
  · rfl
theorem cpL_1 (n : Nat) (z : XS) : (itP cpL n z).1 = z.1 := by
  induction n with
  | zero => rfl
  | succ n ih => simp [itP, cpL, setL, ih]
theorem rid_1 (n : Nat) (u : Int32 × XS) : (itP ridF n u).2.1 = u.2.1 := by
  induction n with
  | zero => rfl
  | succ n ih => simp [itP, ridF, narF_1, ih]
set_option maxHeartbeats 4000000 in
set_option maxRecDepth 100000 in
theorem c_X3_riders {g : Gx} {a : Nat → Nat} {x : XS} {s : Int32} : Mx g yX3_riders cX3_riders 4 (some .int) 4 0 0 LF a x [.ref (a 40), .int s] (pr (some (.int (ridersU x s).1)) (ridersU x s).2) := by
  refine Mx_of (by decide +kernel) (Nat.le_of_ble_eq_true rfl) ?_
  intro k hk he hg
  subst hg

  have l2 : ∀ (z : XS), (∀ (u : Int32 × XS), u = itP ridF (z.1 21 0).toNatClampNeg (0, z) → Wx k 0 0 LF a u.2 86 [(0, .ref (a 40)), (1, .int s), (2, .int u.1)] []) → ∀ (n j : Nat) (v : Int32) (u : Int32 × XS), (z.1 21 0).toNatClampNeg - j < n → v = nI j → j ≤ (z.1 21 0).toNatClampNeg → u = itP ridF j (0, z) → Wx k 0 0 LF a u.2 55 [(0, .ref (a 40)), (1, .int s), (2, .int u.1), (3, .int v)] [] := by
    intro z kk n
    have hF := cl_lt (z.1 21 0)
    induction n with
    | zero => intros; omega
    | succ n ih =>
      intro j v u hn hv hj hu
      subst hv
      have hc : u.2.1 21 0 = z.1 21 0 := by rw [hu, rid_1]
      refine xiload_n hk dX3_riders_55 rfl ?_
      refine xaload_n hk dX3_riders_56 rfl ?_
      refine xgetR (ci := 3) (f := 0) hk dX3_riders_57 ⟨rfl, by decide, _, rfl, rfl⟩ kX3_28 ?_
      refine xgetNI (ci := 0) (f := 0) hk dX3_riders_60 ⟨rfl, by decide, _, rfl, rfl⟩ kX3_32 ?_
      refine xicmp_ge hk 86 dX3_riders_63 (by decide) (fun h63 => ?_) (fun h63 => ?_)
      · rw [hc, le_nI (by omega)] at h63
        refine xsub [(0, _), (1, _), (2, _)] rfl ?_
        exact kk _ (by rw [hu, show j = (z.1 21 0).toNatClampNeg by omega])
      · rw [hc, le_nI (by omega)] at h63
        refine xaload_n hk dX3_riders_66 rfl ?_
        refine xiload_n hk dX3_riders_67 rfl ?_
        refine xcallV hk c_X3_narrow bX3_narrow kX3_70 dX3_riders_68 rfl ⟨_, _, _, _, rfl, rfl⟩ rfl (by decide) ⟨by decide, by decide⟩ (Nat.le_of_ble_eq_true rfl) (det ?_)
        refine xif_eq hk 80 dX3_riders_71 (by decide) (fun h71 => ?_) (fun h71 => ?_)
        · rw [b2i_0] at h71
          refine xiinc hk dX3_riders_80 rfl (by decide) rfl ?_
          refine xgoto hk 55 dX3_riders_83 (by decide) ?_
          refine ih (j + 1) _ (_, _) (by omega) (nI_inc j) (by omega) ?_
          rw [itP, ← hu, ridF]
          simp only [h71]
          rfl
        · rw [b2i_t] at h71
          refine xiload_n hk dX3_riders_74 rfl ?_
          refine xiload_n hk dX3_riders_75 rfl ?_
          refine xcallSN hk c_X8_with bX8_with kX3_74 dX3_riders_76 rfl rfl (by decide) ⟨by decide, by decide⟩ (Nat.le_of_ble_eq_true rfl) (det ?_)
          refine xistore_n hk dX3_riders_79 (by decide) ?_
          refine xiinc hk dX3_riders_80 rfl (by decide) rfl ?_
          refine xgoto hk 55 dX3_riders_83 (by decide) ?_
          refine ih (j + 1) _ (_, _) (by omega) (nI_inc j) (by omega) ?_
          rw [itP, ← hu, ridF]
          simp only [h71]
          rfl
  have l1 : ∀ (z : XS), (∀ y : XS, y = itP cpL (used16 z) z → Wx k 0 0 LF a y 51 [(0, .ref (a 40)), (1, .int s)] []) → ∀ (n j : Nat) (v : Int32) (y : XS), used16 z - j < n → v = nI j → j ≤ used16 z → y = itP cpL j z → Wx k 0 0 LF a y 7 [(0, .ref (a 40)), (1, .int s), (2, .int v)] [] := by
    intro z kk n
    induction n with
    | zero => intros; omega
    | succ n ih =>
      intro j v y hn hv hj hy
      subst hv
      have hu : used16 z = min (z.1 40 4).toNatClampNeg 16 := rfl
      have hc : y.1 40 4 = z.1 40 4 := by rw [hy, cpL_1]
      refine xiload_n hk dX3_riders_7 rfl ?_
      refine xaload_n hk dX3_riders_8 rfl ?_
      refine xgetI (ci := 3) (f := 4) hk dX3_riders_9 ⟨rfl, by decide, _, rfl, rfl⟩ kX3_21 ?_
      refine xicmp_ge hk 51 dX3_riders_12 (by decide) (fun h12 => ?_) (fun h12 => ?_)
      · rw [hc, le_nI (by omega)] at h12
        refine xsub [(0, _), (1, _)] rfl ?_
        exact kk _ (by rw [hy, show j = used16 z by omega])
      · rw [hc, le_nI (by omega)] at h12
        refine xiload_n hk dX3_riders_15 rfl ?_
        refine xaload_n hk dX3_riders_16 rfl ?_
        refine xgetR (ci := 3) (f := 1) hk dX3_riders_17 ⟨rfl, by decide, _, rfl, rfl⟩ kX3_11 ?_
        refine xalen (v := nI _) hk dX3_riders_20 rfl (by decide) rfl ?_
        refine xicmp_ge hk 51 dX3_riders_21 (by decide) (fun h21 => ?_) (fun h21 => ?_)
        · rw [nI_leI (by omega) (by omega)] at h21
          refine xsub [(0, _), (1, _)] rfl ?_
          exact kk _ (by rw [hy, show j = used16 z by omega])
        · rw [nI_leI (by omega) (by omega)] at h21
          refine xiload_n hk dX3_riders_24 rfl ?_
          refine xaload_n hk dX3_riders_25 rfl ?_
          refine xgetR (ci := 3) (f := 2) hk dX3_riders_26 ⟨rfl, by decide, _, rfl, rfl⟩ kX3_15 ?_
          refine xalen (v := nI _) hk dX3_riders_29 rfl (by decide) rfl ?_
          refine xicmp_ge hk 51 dX3_riders_30 (by decide) (fun h30 => ?_) (fun h30 => ?_)
          · rw [nI_leI (by omega) (by omega)] at h30
            refine xsub [(0, _), (1, _)] rfl ?_
            exact kk _ (by rw [hy, show j = used16 z by omega])
          · rw [nI_leI (by omega) (by omega)] at h30
            refine xaload_n hk dX3_riders_33 rfl ?_
            refine xgetR (ci := 3) (f := 2) hk dX3_riders_34 ⟨rfl, by decide, _, rfl, rfl⟩ kX3_15 ?_
            refine xiload_n hk dX3_riders_37 rfl ?_
            refine xaload_n hk dX3_riders_38 rfl ?_
            refine xgetR (ci := 3) (f := 1) hk dX3_riders_39 ⟨rfl, by decide, _, rfl, rfl⟩ kX3_11 ?_
            refine xiload_n hk dX3_riders_42 rfl ?_
            refine xlald hk dX3_riders_43 rfl (vp_in_nI (by omega) (by decide)) ?_
            rw [nI_clamp (by omega)]
            refine xlast hk dX3_riders_44 rfl (vp_in_nI (by omega) (by decide)) ?_
            rw [nI_clamp (by omega)]
            refine xiinc hk dX3_riders_45 rfl (by decide) rfl ?_
            refine xgoto hk 7 dX3_riders_48 (by decide) ?_
            exact ih (j + 1) _ _ (by omega) (nI_inc j) (by omega) (by subst hy; rfl)
  refine xaload_n hk dX3_riders_0 rfl ?_
  refine xiload_n hk dX3_riders_1 rfl ?_
  refine xcallV hk c_X3_look bX3_look kX3_57 dX3_riders_2 rfl ⟨_, _, _, _, rfl, rfl⟩ rfl (by decide) ⟨by decide, by decide⟩ (Nat.le_of_ble_eq_true rfl) (det ?_)
  refine xiconst (v := 0) hk dX3_riders_5 (by decide) ?_
  refine xistore_n hk dX3_riders_6 (by decide) ?_
  refine l1 _ ?_ _ 0 _ _ (Nat.lt_succ_self _) rfl (by omega) rfl
  intro y2 hy2
  refine xiconst (v := 0) hk dX3_riders_51 (by decide) ?_
  refine xistore_n hk dX3_riders_52 (by decide) ?_
  refine xiconst (v := 0) hk dX3_riders_53 (by decide) ?_
  refine xistore_n hk dX3_riders_54 (by decide) ?_
  refine l2 _ ?_ _ 0 _ (_, _) (Nat.lt_succ_self _) rfl (by omega) rfl
  intro u hu
  refine xiload_n hk dX3_riders_86 rfl ?_
  refine xiret hk he dX3_riders_87 ⟨by decide, by decide⟩ ?_
  exact ⟨by rw [hu, hy2]; rfl, by rw [hu, hy2]; rfl⟩
set_option maxHeartbeats 4000000 in
set_option maxRecDepth 100000 in
theorem c_X3_fewestNotHoldingIn {g : Gx} {a : Nat → Nat} {x : XS} {w s : Int32} : Mx g yX3_fewestNotHoldingIn cX3_fewestNotHoldingIn 12 (some .int) 3 0 0 LF a x [.ref (a 40), .int w, .int s] (pr (some (.int (fewIn x s w))) x) := by
  refine Mx_of (by decide +kernel) (Nat.le_of_ble_eq_true rfl) ?_
  intro k hk he hg
  subst hg

  have loop : (Wx k 0 0 LF a x 75 [(0, .ref (a 40)), (1, .int w), (2, .int s), (3, .long (fewU x s w).1), (5, .long (fewU x s w).2.1), (7, .long (fewU x s w).2.2)] []) → ∀ (n j : Nat) (v : Int32) (u : Int64 × Int64 × Int64) (L : List (Nat × Value)), (x.1 21 1).toNatClampNeg - j < n → v = nI j → j ≤ (x.1 21 1).toNatClampNeg → u = itP (fewStep x s w) j (allOfL x w, allOfL x w, allOfL x w) → Wx k 0 0 LF a x 15 [(0, .ref (a 40)), (1, .int w), (2, .int s), (3, .long u.1), (5, .long u.2.1), (7, .long u.2.2), (9, .int v)] [] := by
    intro kk n
    have hS := cl_lt (x.1 21 1)
    induction n with
    | zero => intros; omega
    | succ n ih =>
      intro j v u L hn hv hj hu
      subst hv
      refine xiload hk dX3_fewestNotHoldingIn_15 rfl ?_
      refine xaload_n hk dX3_fewestNotHoldingIn_17 rfl ?_
      refine xgetR (ci := 3) (f := 0) hk dX3_fewestNotHoldingIn_18 ⟨rfl, by decide, _, rfl, rfl⟩ kX3_28 ?_
      refine xgetNI (ci := 0) (f := 1) hk dX3_fewestNotHoldingIn_21 ⟨rfl, by decide, _, rfl, rfl⟩ kX3_43 ?_
      refine xicmp_ge hk 75 dX3_fewestNotHoldingIn_24 (by decide) (fun h24 => ?_) (fun h24 => ?_)
      · rw [le_nI (by omega)] at h24
        refine xsub [(0, _), (1, _), (2, _), (3, _), (5, _), (7, _)] rfl ?_
        rw [show u = fewU x s w by rw [hu, show j = (x.1 21 1).toNatClampNeg by omega]; rfl]
        exact kk
      · rw [le_nI (by omega)] at h24
        refine xiload_n hk dX3_fewestNotHoldingIn_27 rfl ?_
        refine xiload hk dX3_fewestNotHoldingIn_28 rfl ?_
        refine xcallSN hk c_X8_has bX8_has kX3_87 dX3_fewestNotHoldingIn_30 rfl rfl (by decide) ⟨by decide, by decide⟩ (Nat.le_of_ble_eq_true rfl) (det ?_)
        refine xif_eq hk 69 dX3_fewestNotHoldingIn_33 (by decide) (fun h33 => ?_) (fun h33 => ?_)
        · rw [b2i_0] at h33
          refine xiinc hk dX3_fewestNotHoldingIn_69 rfl (by decide) rfl ?_
          refine xgoto hk 15 dX3_fewestNotHoldingIn_72 (by decide) ?_
          refine xsub [(0, _), (1, _), (2, _), (3, _), (5, _), (7, _), (9, _)] rfl ?_
          exact ih (j + 1) _ (_, _, _) [] (by omega) (nI_inc j) (by omega) (by rw [itP, ← hu, fewStep]; simp only [h33]; rfl)
        · rw [b2i_t] at h33
          refine xaload_n hk dX3_fewestNotHoldingIn_36 rfl ?_
          refine xiload hk dX3_fewestNotHoldingIn_37 rfl ?_
          refine xiload_n hk dX3_fewestNotHoldingIn_39 rfl ?_
          refine xcallV hk c_X3_row bX3_row kX3_91 dX3_fewestNotHoldingIn_40 rfl ⟨_, _, _, _, rfl, rfl⟩ rfl (by decide) ⟨by decide, by decide⟩ (Nat.le_of_ble_eq_true rfl) (det ?_)
          refine xlstore hk dX3_fewestNotHoldingIn_43 (by decide) ?_
          refine xlload hk dX3_fewestNotHoldingIn_45 rfl ?_
          refine xlload hk dX3_fewestNotHoldingIn_47 rfl ?_
          refine xland hk dX3_fewestNotHoldingIn_49 ?_
          refine xlload hk dX3_fewestNotHoldingIn_50 rfl ?_
          refine xlor hk dX3_fewestNotHoldingIn_52 ?_
          refine xlstore hk dX3_fewestNotHoldingIn_53 (by decide) ?_
          refine xlload hk dX3_fewestNotHoldingIn_55 rfl ?_
          refine xlload hk dX3_fewestNotHoldingIn_57 rfl ?_
          refine xland hk dX3_fewestNotHoldingIn_59 ?_
          refine xlload_n hk dX3_fewestNotHoldingIn_60 rfl ?_
          refine xlor hk dX3_fewestNotHoldingIn_61 ?_
          refine xlstore hk dX3_fewestNotHoldingIn_62 (by decide) ?_
          refine xlload_n hk dX3_fewestNotHoldingIn_64 rfl ?_
          refine xlload hk dX3_fewestNotHoldingIn_65 rfl ?_
          refine xland hk dX3_fewestNotHoldingIn_67 ?_
          refine xlstore_n hk dX3_fewestNotHoldingIn_68 (by decide) ?_
          refine xiinc hk dX3_fewestNotHoldingIn_69 rfl (by decide) rfl ?_
          refine xgoto hk 15 dX3_fewestNotHoldingIn_72 (by decide) ?_
          refine xsub [(0, _), (1, _), (2, _), (3, _), (5, _), (7, _), (9, _)] rfl ?_
          exact ih (j + 1) _ (_, _, _) [] (by omega) (nI_inc j) (by omega) (by rw [itP, ← hu, fewStep]; simp only [h33]; rfl)
  have tail : Wx k 0 0 LF a x 75 [(0, .ref (a 40)), (1, .int w), (2, .int s), (3, .long (fewU x s w).1), (5, .long (fewU x s w).2.1), (7, .long (fewU x s w).2.2)] [] := by
    refine xlload_n hk dX3_fewestNotHoldingIn_75 rfl ?_
    refine xlconst (v := 0) hk dX3_fewestNotHoldingIn_76 (by decide) ?_
    refine xlcmp hk dX3_fewestNotHoldingIn_77 ?_
    refine xif_eq hk 83 dX3_fewestNotHoldingIn_78 (by decide) (fun h78 => ?_) (fun h78 => ?_)
    · rw [lcmp0] at h78
      refine xlload hk dX3_fewestNotHoldingIn_83 rfl ?_
      refine xlconst (v := 0) hk dX3_fewestNotHoldingIn_85 (by decide) ?_
      refine xlcmp hk dX3_fewestNotHoldingIn_86 ?_
      refine xif_eq hk 92 dX3_fewestNotHoldingIn_87 (by decide) (fun h87 => ?_) (fun h87 => ?_)
      · rw [lcmp0] at h87
        refine xlload hk dX3_fewestNotHoldingIn_92 rfl ?_
        refine xlconst (v := 0) hk dX3_fewestNotHoldingIn_94 (by decide) ?_
        refine xlcmp hk dX3_fewestNotHoldingIn_95 ?_
        refine xif_eq hk 103 dX3_fewestNotHoldingIn_96 (by decide) (fun h96 => ?_) (fun h96 => ?_)
        · rw [lcmp0] at h96
          refine xiconst (v := 3) hk dX3_fewestNotHoldingIn_103 (by decide) ?_
          refine xiret hk he dX3_fewestNotHoldingIn_104 ⟨by decide, by decide⟩ ?_
          exact ⟨by simp [fewIn, *], rfl⟩
        · rw [lcmp0] at h96
          refine xiconst (v := 2) hk dX3_fewestNotHoldingIn_99 (by decide) ?_
          refine xgoto hk 104 dX3_fewestNotHoldingIn_100 (by decide) ?_
          refine xiret hk he dX3_fewestNotHoldingIn_104 ⟨by decide, by decide⟩ ?_
          exact ⟨by simp [fewIn, *], rfl⟩
      · rw [lcmp0] at h87
        refine xiconst (v := 1) hk dX3_fewestNotHoldingIn_90 (by decide) ?_
        refine xiret hk he dX3_fewestNotHoldingIn_91 ⟨by decide, by decide⟩ ?_
        exact ⟨by simp [fewIn, *], rfl⟩
    · rw [lcmp0] at h78
      refine xiconst (v := 0) hk dX3_fewestNotHoldingIn_81 (by decide) ?_
      refine xiret hk he dX3_fewestNotHoldingIn_82 ⟨by decide, by decide⟩ ?_
      exact ⟨by simp [fewIn, *], rfl⟩
  refine xaload_n hk dX3_fewestNotHoldingIn_0 rfl ?_
  refine xiload_n hk dX3_fewestNotHoldingIn_1 rfl ?_
  refine xcallV hk c_X3_allOf bX3_allOf kX3_83 dX3_fewestNotHoldingIn_2 rfl ⟨_, _, _, _, rfl, rfl⟩ rfl (by decide) ⟨by decide, by decide⟩ (Nat.le_of_ble_eq_true rfl) (det ?_)
  refine xlstore_n hk dX3_fewestNotHoldingIn_5 (by decide) ?_
  refine xlload_n hk dX3_fewestNotHoldingIn_6 rfl ?_
  refine xlstore hk dX3_fewestNotHoldingIn_7 (by decide) ?_
  refine xlload_n hk dX3_fewestNotHoldingIn_9 rfl ?_
  refine xlstore hk dX3_fewestNotHoldingIn_10 (by decide) ?_
  refine xiconst (v := 0) hk dX3_fewestNotHoldingIn_12 (by decide) ?_
  refine xistore hk dX3_fewestNotHoldingIn_13 (by decide) ?_
  exact loop tail _ 0 _ (_, _, _) [] (Nat.lt_succ_self _) rfl (by omega) rfl
set_option maxHeartbeats 4000000 in
set_option maxRecDepth 100000 in
theorem c_X3_fewestNotHolding {g : Gx} {a : Nat → Nat} {x : XS} {s : Int32} : Mx g yX3_fewestNotHolding cX3_fewestNotHolding 4 (some .int) 4 0 0 LF a x [.ref (a 40), .int s] (pr (some (.int (fewF x s))) x) := by
  refine Mx_of (by decide +kernel) (Nat.le_of_ble_eq_true rfl) ?_
  intro k hk he hg
  subst hg

  have loop : ∀ (n j : Nat) (v p : Int32), (x.1 40 4).toNatClampNeg - j < n → v = nI j → j ≤ (x.1 40 4).toNatClampNeg → p = itP (fun j p => minI p (fewIn x s (nI j))) j 3 → Wx k 0 0 LF a x 4 [(0, .ref (a 40)), (1, .int s), (2, .int p), (3, .int v)] [] := by
    intro n
    have hS := cl_lt (x.1 40 4)
    induction n with
    | zero => intros; omega
    | succ n ih =>
      intro j v p hn hv hj hp
      subst hv
      refine xiload_n hk dX3_fewestNotHolding_4 rfl ?_
      refine xaload_n hk dX3_fewestNotHolding_5 rfl ?_
      refine xgetI (ci := 3) (f := 4) hk dX3_fewestNotHolding_6 ⟨rfl, by decide, _, rfl, rfl⟩ kX3_21 ?_
      refine xicmp_ge hk 29 dX3_fewestNotHolding_9 (by decide) (fun h9 => ?_) (fun h9 => ?_)
      · rw [le_nI (by omega)] at h9
        rw [show j = (x.1 40 4).toNatClampNeg by omega] at hp
        refine xiload_n hk dX3_fewestNotHolding_29 rfl ?_
        refine xiconst (v := 2) hk dX3_fewestNotHolding_30 (by decide) ?_
        refine xicmp_le hk 38 dX3_fewestNotHolding_31 (by decide) (fun h31 => ?_) (fun h31 => ?_)
        · refine xiload_n hk dX3_fewestNotHolding_38 rfl ?_
          refine xiret hk he dX3_fewestNotHolding_39 ⟨by decide, by decide⟩ ?_
          exact ⟨by simp only [fewF]; rw [← hp]; simp only [h31, if_true, if_false], rfl⟩
        · refine xiconst (v := (-1)) hk dX3_fewestNotHolding_34 (by decide) ?_
          refine xgoto hk 39 dX3_fewestNotHolding_35 (by decide) ?_
          refine xiret hk he dX3_fewestNotHolding_39 ⟨by decide, by decide⟩ ?_
          exact ⟨by simp only [fewF]; rw [← hp]; simp only [h31, if_true, if_false], rfl⟩
      · rw [le_nI (by omega)] at h9
        refine xiload_n hk dX3_fewestNotHolding_12 rfl ?_
        refine xaload_n hk dX3_fewestNotHolding_13 rfl ?_
        refine xiload_n hk dX3_fewestNotHolding_14 rfl ?_
        refine xiload_n hk dX3_fewestNotHolding_15 rfl ?_
        refine xcallV hk c_X3_fewestNotHoldingIn bX3_fewestNotHoldingIn kX3_77 dX3_fewestNotHolding_16 rfl ⟨_, _, _, _, rfl, rfl⟩ rfl (by decide) ⟨by decide, by decide⟩ (Nat.le_of_ble_eq_true rfl) (det ?_)
        refine xmmin hk dX3_fewestNotHolding_19 kX3_80 mw_min (by decide) ⟨by decide, by decide⟩ (Nat.le_of_ble_eq_true rfl) ?_
        refine xistore_n hk dX3_fewestNotHolding_22 (by decide) ?_
        refine xiinc hk dX3_fewestNotHolding_23 rfl (by decide) rfl ?_
        refine xgoto hk 4 dX3_fewestNotHolding_26 (by decide) ?_
        exact ih (j + 1) _ _ (by omega) (nI_inc j) (by omega) (by subst hp; rfl)
  refine xiconst (v := 3) hk dX3_fewestNotHolding_0 (by decide) ?_
  refine xistore_n hk dX3_fewestNotHolding_1 (by decide) ?_
  refine xiconst (v := 0) hk dX3_fewestNotHolding_2 (by decide) ?_
  refine xistore_n hk dX3_fewestNotHolding_3 (by decide) ?_
  exact loop _ 0 _ _ (Nat.lt_succ_self _) rfl (by omega) rfl
set_option maxHeartbeats 4000000 in
set_option maxRecDepth 100000 in
theorem c_X3_prepare {g : Gx} {a : Nat → Nat} {x : XS}  : Mx g yX3_prepare cX3_prepare 4 none 3 0 0 LF a x [.ref (a 40)] (pr none (prepF x)) := by
  refine Mx_of (by decide +kernel) (Nat.le_of_ble_eq_true rfl) ?_
  intro k hk he hg
  subst hg

  have prep_in1 : ∀ (j n : Nat) (z : XS), (itP (prepIn j) n z).1 = z.1 := by
    intro j n z
    induction n with
    | zero => rfl
    | succ n ih =>
      rw [itP, prepIn]
      split
      · exact ih
      · split
        · exact ih
        · exact ih
  have prep_out1 : ∀ (n : Nat) (z : XS), (itP prepOut n z).1 = z.1 := by
    intro n z
    induction n with
    | zero => rfl
    | succ n ih => rw [itP, prepOut, prep_in1]; exact ih
  have inner : ∀ (j : Nat) (y : XS), (∀ z : XS, z = prepOut j y → Wx k 0 0 LF a z 105 [(0, .ref (a 40)), (1, .int (nI j))] []) → ∀ (n i : Nat) (v : Int32) (z : XS), (y.1 40 4).toNatClampNeg - i < n → v = nI i → i ≤ (y.1 40 4).toNatClampNeg → z = itP (prepIn j) i y → Wx k 0 0 LF a z 40 [(0, .ref (a 40)), (1, .int (nI j)), (2, .int v)] [] := by
    intro j y kk n
    have hU := cl_lt (y.1 40 4)
    induction n with
    | zero => intros; omega
    | succ n ih =>
      intro i v z hn hv hi hz
      subst hv
      have hc : z.1 40 4 = y.1 40 4 := by rw [hz, prep_in1]
      refine xiload_n hk dX3_prepare_40 rfl ?_
      refine xaload_n hk dX3_prepare_41 rfl ?_
      refine xgetI (ci := 3) (f := 4) hk dX3_prepare_42 ⟨rfl, by decide, _, rfl, rfl⟩ kX3_21 ?_
      refine xicmp_ge hk 105 dX3_prepare_45 (by decide) (fun h45 => ?_) (fun h45 => ?_)
      · rw [hc, le_nI (by omega)] at h45
        refine xsub [(0, _), (1, _)] rfl ?_
        exact kk _ (by rw [hz, prepOut, show i = (y.1 40 4).toNatClampNeg by omega])
      · rw [hc, le_nI (by omega)] at h45
        refine xiload_n hk dX3_prepare_48 rfl ?_
        refine xbipush (v := 16) hk dX3_prepare_49 (by decide) ?_
        refine ximul hk dX3_prepare_51 ?_
        refine xiload_n hk dX3_prepare_52 rfl ?_
        refine xiadd hk dX3_prepare_53 ?_
        refine xistore_n hk dX3_prepare_54 (by decide) ?_
        refine xiload_n hk dX3_prepare_55 rfl ?_
        refine xif_lt hk 99 dX3_prepare_56 (by decide) (fun h56 => ?_) (fun h56 => ?_)
        · refine xiinc hk dX3_prepare_99 rfl (by decide) rfl ?_
          refine xgoto hk 40 dX3_prepare_102 (by decide) ?_
          refine xsub [(0, _), (1, _), (2, _)] rfl ?_
          exact ih (i + 1) _ _ (by omega) (nI_inc i) (by omega) (by subst hz; rw [itP, prepIn]; first | rw [if_pos h56] | (rw [if_neg h56]; first | rw [if_pos h65] | rw [if_neg h65]))
        · refine xiload_n hk dX3_prepare_59 rfl ?_
          refine xaload_n hk dX3_prepare_60 rfl ?_
          refine xgetR (ci := 3) (f := 3) hk dX3_prepare_61 ⟨rfl, by decide, _, rfl, rfl⟩ kX3_18 ?_
          refine xalen (v := nI _) hk dX3_prepare_64 rfl (by decide) rfl ?_
          refine xicmp_ge hk 99 dX3_prepare_65 (by decide) (fun h65 => ?_) (fun h65 => ?_)
          · refine xiinc hk dX3_prepare_99 rfl (by decide) rfl ?_
            refine xgoto hk 40 dX3_prepare_102 (by decide) ?_
            refine xsub [(0, _), (1, _), (2, _)] rfl ?_
            exact ih (i + 1) _ _ (by omega) (nI_inc i) (by omega) (by subst hz; rw [itP, prepIn]; first | rw [if_pos h56] | (rw [if_neg h56]; first | rw [if_pos h65] | rw [if_neg h65]))
          · refine xaload_n hk dX3_prepare_68 rfl ?_
            refine xgetR (ci := 3) (f := 3) hk dX3_prepare_69 ⟨rfl, by decide, _, rfl, rfl⟩ kX3_18 ?_
            refine xiload_n hk dX3_prepare_72 rfl ?_
            refine xaload_n hk dX3_prepare_73 rfl ?_
            refine xgetR (ci := 3) (f := 0) hk dX3_prepare_74 ⟨rfl, by decide, _, rfl, rfl⟩ kX3_28 ?_
            refine xiload_n hk dX3_prepare_77 rfl ?_
            refine xcallV hk c_X0_left bX0_left kX3_46 dX3_prepare_78 rfl ⟨_, _, _, _, rfl, rfl⟩ rfl (by decide) ⟨by decide, by decide⟩ (Nat.le_of_ble_eq_true rfl) (det ?_)
            refine xiload_n hk dX3_prepare_81 rfl ?_
            refine xcallS hk c_X3_holds bX3_holds kX3_50 dX3_prepare_82 rfl rfl (by decide) ⟨by decide, by decide⟩ (Nat.le_of_ble_eq_true rfl) (det ?_)
            refine xaload_n hk dX3_prepare_85 rfl ?_
            refine xgetR (ci := 3) (f := 0) hk dX3_prepare_86 ⟨rfl, by decide, _, rfl, rfl⟩ kX3_28 ?_
            refine xiload_n hk dX3_prepare_89 rfl ?_
            refine xcallV hk c_X0_right bX0_right kX3_54 dX3_prepare_90 rfl ⟨_, _, _, _, rfl, rfl⟩ rfl (by decide) ⟨by decide, by decide⟩ (Nat.le_of_ble_eq_true rfl) (det ?_)
            refine xiload_n hk dX3_prepare_93 rfl ?_
            refine xcallS hk c_X3_holds bX3_holds kX3_50 dX3_prepare_94 rfl rfl (by decide) ⟨by decide, by decide⟩ (Nat.le_of_ble_eq_true rfl) (det ?_)
            refine xlor hk dX3_prepare_97 ?_
            refine xlast hk dX3_prepare_98 rfl (vin h56 h65 (by decide)) ?_
            refine xiinc hk dX3_prepare_99 rfl (by decide) rfl ?_
            refine xgoto hk 40 dX3_prepare_102 (by decide) ?_
            refine xsub [(0, _), (1, _), (2, _)] rfl ?_
            exact ih (i + 1) _ _ (by omega) (nI_inc i) (by omega) (by subst hz; rw [itP, prepIn]; first | rw [if_pos h56] | (rw [if_neg h56]; first | rw [if_pos h65] | rw [if_neg h65]))
  have outer : ∀ (z : XS), ∀ (n j : Nat) (v : Int32) (y : XS), (∀ y2 : XS, y2 = itP prepOut (z.1 21 1).toNatClampNeg z → Wx k 0 0 LF a y2 111 [(0, .ref (a 40))] []) → (z.1 21 1).toNatClampNeg - j < n → v = nI j → j ≤ (z.1 21 1).toNatClampNeg → y = itP prepOut j z → Wx k 0 0 LF a y 27 [(0, .ref (a 40)), (1, .int v)] [] := by
    intro z n
    have hS := cl_lt (z.1 21 1)
    induction n with
    | zero => intros; omega
    | succ n ih =>
      intro j v y kk hn hv hj hy
      subst hv
      have hc : y.1 21 1 = z.1 21 1 := by rw [hy, prep_out1]
      refine xiload_n hk dX3_prepare_27 rfl ?_
      refine xaload_n hk dX3_prepare_28 rfl ?_
      refine xgetR (ci := 3) (f := 0) hk dX3_prepare_29 ⟨rfl, by decide, _, rfl, rfl⟩ kX3_28 ?_
      refine xgetNI (ci := 0) (f := 1) hk dX3_prepare_32 ⟨rfl, by decide, _, rfl, rfl⟩ kX3_43 ?_
      refine xicmp_ge hk 111 dX3_prepare_35 (by decide) (fun h35 => ?_) (fun h35 => ?_)
      · rw [hc, le_nI (by omega)] at h35
        refine xsub [(0, _)] rfl ?_
        exact kk _ (by rw [hy, show j = (z.1 21 1).toNatClampNeg by omega])
      · rw [hc, le_nI (by omega)] at h35
        refine xiconst (v := 0) hk dX3_prepare_38 (by decide) ?_
        refine xistore_n hk dX3_prepare_39 (by decide) ?_
        refine inner j y ?_ _ 0 _ _ (Nat.lt_succ_self _) rfl (by omega) rfl
        intro y5 hy5
        refine xiinc hk dX3_prepare_105 rfl (by decide) rfl ?_
        refine xgoto hk 27 dX3_prepare_108 (by decide) ?_
        refine xsub [(0, _), (1, _)] rfl ?_
        exact ih (j + 1) _ _ kk (by omega) (nI_inc j) (by omega) (by rw [hy5, hy]; rfl)
  refine xaload_n hk dX3_prepare_0 rfl ?_
  refine xiconst (v := (-1)) hk dX3_prepare_1 (by decide) ?_
  refine xputI (ci := 3) (f := 6) hk dX3_prepare_2 ⟨rfl, by decide, _, rfl, rfl⟩ kX3_25 ⟨rfl, by decide +kernel⟩ ?_
  refine xaload_n hk dX3_prepare_5 rfl ?_
  refine xiconst (v := 1) hk dX3_prepare_6 (by decide) ?_
  refine xaload_n hk dX3_prepare_7 rfl ?_
  refine xgetR (ci := 3) (f := 0) hk dX3_prepare_8 ⟨rfl, by decide, _, rfl, rfl⟩ kX3_28 ?_
  refine xgetNI (ci := 0) (f := 0) hk dX3_prepare_11 ⟨rfl, by decide, _, rfl, rfl⟩ kX3_32 ?_
  refine xbipush (v := 6) hk dX3_prepare_14 (by decide) ?_
  refine xisub hk dX3_prepare_16 ?_
  refine xiconst (v := 0) hk dX3_prepare_17 (by decide) ?_
  refine xmmax hk dX3_prepare_18 kX3_37 mw_max (by decide) ⟨by decide, by decide⟩ (Nat.le_of_ble_eq_true rfl) ?_
  refine xishl hk dX3_prepare_21 ?_
  refine xputI (ci := 3) (f := 4) hk dX3_prepare_22 ⟨rfl, by decide, _, rfl, rfl⟩ kX3_21 ⟨rfl, by decide +kernel⟩ ?_
  refine xiconst (v := 0) hk dX3_prepare_25 (by decide) ?_
  refine xistore_n hk dX3_prepare_26 (by decide) ?_
  generalize hz : setI (setI x 40 6 (-1)) 40 4 ((1 : Int32) <<< (maxI ((setI x 40 6 (-1)).1 21 0 - 6) 0 &&& 31)) = z
  refine outer z _ 0 _ z ?_ (Nat.lt_succ_self _) rfl (by omega) rfl
  intro y6 hy6
  refine xvret hk he dX3_prepare_111 ⟨by decide, by decide⟩ ?_
  exact ⟨rfl, by rw [hy6, ← hz]; rfl⟩
