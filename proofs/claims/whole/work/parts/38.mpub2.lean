theorem kX10_57 : Cond.fieldLink RX10 57 "FeudBookModel" "away" "[I" ∈ GW := gw_mem 1216 (by decide +kernel) (by decide +kernel)
theorem kX10_130 : Cond.methodLink RX10 130 yX10_step ∈ GW := gw_mem 1662 (by decide +kernel) (by decide +kernel)
theorem bX10_step : CBv yX10_step cX10_step 4 none 3 := ⟨⟨gw_mem 1665 (by decide +kernel) (by decide +kernel), gw_mem 14 (by decide +kernel) (by decide +kernel), by decide +kernel, by decide⟩, gw_mem 1664 (by decide +kernel) (by decide +kernel), gw_sel 100 (by decide +kernel) (by decide +kernel)⟩
def stpF (s t far : Int32) (x : XS) : XS :=
  let y := if x.1 10 (s ^^^ 1).toNatClampNeg = far then (if x.1 10 t.toNatClampNeg = -1 then setI x 10 t.toNatClampNeg (far + 1) else x) else x
  if y.1 10 (t ^^^ 1).toNatClampNeg = far then (if y.1 10 s.toNatClampNeg = -1 then setI y 10 s.toNatClampNeg (far + 1) else y) else y
def stkF (far : Int32) (j : Nat) (y : XS) : XS := if mhasB (y.1 0 15) (nI j) then stpF (oneF y 11 (nI j)) (otherF y 11 (nI j)) far y else y
def btL (c : Nat) : Nat → Int32 → XS → Option XS
  | 0, _, _ => none
  | n + 1, far, x => if x.1 10 c = -1 then btL c n (far + 1) (itP (stkF far) (x.1 11 1).toNatClampNeg x) else some x
def bt0 (d : Nat) (x : XS) : XS := setI (itP (fun j y => setI y 10 j (-1)) 20 x) 10 d 0
theorem stp_1 {s t far : Int32} {x : XS} {q k : Nat} (h : q ≠ 10) : (stpF s t far x).1 q k = x.1 q k := by
  unfold stpF
  simp only []
  repeat' split
  all_goals first | rfl | rw [rdq h, rdq h] | rw [rdq h]
theorem stk_1 {far : Int32} {j : Nat} {x : XS} {q k : Nat} (h : q ≠ 10) : (stkF far j x).1 q k = x.1 q k := by
  unfold stkF; split
  · exact stp_1 h
  · rfl
theorem lit_m1 : Int32.ofInt (-1) = -1 := rfl

set_option maxHeartbeats 4000000 in
set_option maxRecDepth 100000 in
theorem c_X10_step {g : Gx} {a : Nat → Nat} {x : XS} {s t far : Int32} (h1 : vp_in (s ^^^ 1) 20) (h2 : vp_in t 20) (h3 : vp_in (t ^^^ 1) 20) (h4 : vp_in s 20) : Mx g yX10_step cX10_step 4 none 1 0 0 LM a x [.ref (a 0), .int s, .int t, .int far] (pr none (stpF s t far x)) := by
  refine Mx_of (by decide +kernel) (Nat.le_of_ble_eq_true rfl) ?_
  intro k hk he hg
  subst hg

  refine xaload_n hk dX10_step_0 rfl ?_
  refine xgetR (ci := 10) (f := 25) hk dX10_step_1 ⟨rfl, by decide, _, rfl, rfl⟩ kX10_57 ?_
  refine xiload_n hk dX10_step_4 rfl ?_
  refine xiconst (v := 1) hk dX10_step_5 (by decide) ?_
  refine xixor hk dX10_step_6 ?_
  refine xiald hk dX10_step_7 rfl h1 ?_
  refine xiload_n hk dX10_step_8 rfl ?_
  refine xicmp_ne hk 31 dX10_step_9 (by decide) (fun h9 => ?_) (fun h9 => ?_)
  · refine xaload_n hk dX10_step_31 rfl ?_
    refine xgetR (ci := 10) (f := 25) hk dX10_step_32 ⟨rfl, by decide, _, rfl, rfl⟩ kX10_57 ?_
    refine xiload_n hk dX10_step_35 rfl ?_
    refine xiconst (v := 1) hk dX10_step_36 (by decide) ?_
    refine xixor hk dX10_step_37 ?_
    refine xiald hk dX10_step_38 rfl h3 ?_
    refine xiload_n hk dX10_step_39 rfl ?_
    refine xicmp_ne hk 62 dX10_step_40 (by decide) (fun h40 => ?_) (fun h40 => ?_)
    · refine xvret hk he dX10_step_62 ⟨by decide, by decide⟩ ?_
      exact ⟨rfl, by simp [stpF, *]⟩
    · refine xaload_n hk dX10_step_43 rfl ?_
      refine xgetR (ci := 10) (f := 25) hk dX10_step_44 ⟨rfl, by decide, _, rfl, rfl⟩ kX10_57 ?_
      refine xiload_n hk dX10_step_47 rfl ?_
      refine xiald hk dX10_step_48 rfl h4 ?_
      refine xiconst (v := (-1)) hk dX10_step_49 (by decide) ?_
      refine xicmp_ne hk 62 dX10_step_50 (by decide) (fun h50 => ?_) (fun h50 => ?_)
      · refine xvret hk he dX10_step_62 ⟨by decide, by decide⟩ ?_
        exact ⟨rfl, by simp [stpF, *]⟩
      · refine xaload_n hk dX10_step_53 rfl ?_
        refine xgetR (ci := 10) (f := 25) hk dX10_step_54 ⟨rfl, by decide, _, rfl, rfl⟩ kX10_57 ?_
        refine xiload_n hk dX10_step_57 rfl ?_
        refine xiload_n hk dX10_step_58 rfl ?_
        refine xiconst (v := 1) hk dX10_step_59 (by decide) ?_
        refine xiadd hk dX10_step_60 ?_
        refine xiast hk dX10_step_61 rfl h4 ?_
        refine xvret hk he dX10_step_62 ⟨by decide, by decide⟩ ?_
        exact ⟨rfl, by simp [stpF, *]⟩
  · refine xaload_n hk dX10_step_12 rfl ?_
    refine xgetR (ci := 10) (f := 25) hk dX10_step_13 ⟨rfl, by decide, _, rfl, rfl⟩ kX10_57 ?_
    refine xiload_n hk dX10_step_16 rfl ?_
    refine xiald hk dX10_step_17 rfl h2 ?_
    refine xiconst (v := (-1)) hk dX10_step_18 (by decide) ?_
    refine xicmp_ne hk 31 dX10_step_19 (by decide) (fun h19 => ?_) (fun h19 => ?_)
    · refine xaload_n hk dX10_step_31 rfl ?_
      refine xgetR (ci := 10) (f := 25) hk dX10_step_32 ⟨rfl, by decide, _, rfl, rfl⟩ kX10_57 ?_
      refine xiload_n hk dX10_step_35 rfl ?_
      refine xiconst (v := 1) hk dX10_step_36 (by decide) ?_
      refine xixor hk dX10_step_37 ?_
      refine xiald hk dX10_step_38 rfl h3 ?_
      refine xiload_n hk dX10_step_39 rfl ?_
      refine xicmp_ne hk 62 dX10_step_40 (by decide) (fun h40 => ?_) (fun h40 => ?_)
      · refine xvret hk he dX10_step_62 ⟨by decide, by decide⟩ ?_
        exact ⟨rfl, by simp [stpF, *]⟩
      · refine xaload_n hk dX10_step_43 rfl ?_
        refine xgetR (ci := 10) (f := 25) hk dX10_step_44 ⟨rfl, by decide, _, rfl, rfl⟩ kX10_57 ?_
        refine xiload_n hk dX10_step_47 rfl ?_
        refine xiald hk dX10_step_48 rfl h4 ?_
        refine xiconst (v := (-1)) hk dX10_step_49 (by decide) ?_
        refine xicmp_ne hk 62 dX10_step_50 (by decide) (fun h50 => ?_) (fun h50 => ?_)
        · refine xvret hk he dX10_step_62 ⟨by decide, by decide⟩ ?_
          exact ⟨rfl, by simp [stpF, *]⟩
        · refine xaload_n hk dX10_step_53 rfl ?_
          refine xgetR (ci := 10) (f := 25) hk dX10_step_54 ⟨rfl, by decide, _, rfl, rfl⟩ kX10_57 ?_
          refine xiload_n hk dX10_step_57 rfl ?_
          refine xiload_n hk dX10_step_58 rfl ?_
          refine xiconst (v := 1) hk dX10_step_59 (by decide) ?_
          refine xiadd hk dX10_step_60 ?_
          refine xiast hk dX10_step_61 rfl h4 ?_
          refine xvret hk he dX10_step_62 ⟨by decide, by decide⟩ ?_
          exact ⟨rfl, by simp [stpF, *]⟩
    · refine xaload_n hk dX10_step_22 rfl ?_
      refine xgetR (ci := 10) (f := 25) hk dX10_step_23 ⟨rfl, by decide, _, rfl, rfl⟩ kX10_57 ?_
      refine xiload_n hk dX10_step_26 rfl ?_
      refine xiload_n hk dX10_step_27 rfl ?_
      refine xiconst (v := 1) hk dX10_step_28 (by decide) ?_
      refine xiadd hk dX10_step_29 ?_
      refine xiast hk dX10_step_30 rfl h2 ?_
      refine xaload_n hk dX10_step_31 rfl ?_
      refine xgetR (ci := 10) (f := 25) hk dX10_step_32 ⟨rfl, by decide, _, rfl, rfl⟩ kX10_57 ?_
      refine xiload_n hk dX10_step_35 rfl ?_
      refine xiconst (v := 1) hk dX10_step_36 (by decide) ?_
      refine xixor hk dX10_step_37 ?_
      refine xiald hk dX10_step_38 rfl h3 ?_
      refine xiload_n hk dX10_step_39 rfl ?_
      refine xicmp_ne hk 62 dX10_step_40 (by decide) (fun h40 => ?_) (fun h40 => ?_)
      · refine xvret hk he dX10_step_62 ⟨by decide, by decide⟩ ?_
        exact ⟨rfl, by simp [stpF, *]⟩
      · refine xaload_n hk dX10_step_43 rfl ?_
        refine xgetR (ci := 10) (f := 25) hk dX10_step_44 ⟨rfl, by decide, _, rfl, rfl⟩ kX10_57 ?_
        refine xiload_n hk dX10_step_47 rfl ?_
        refine xiald hk dX10_step_48 rfl h4 ?_
        refine xiconst (v := (-1)) hk dX10_step_49 (by decide) ?_
        refine xicmp_ne hk 62 dX10_step_50 (by decide) (fun h50 => ?_) (fun h50 => ?_)
        · refine xvret hk he dX10_step_62 ⟨by decide, by decide⟩ ?_
          exact ⟨rfl, by simp [stpF, *]⟩
        · refine xaload_n hk dX10_step_53 rfl ?_
          refine xgetR (ci := 10) (f := 25) hk dX10_step_54 ⟨rfl, by decide, _, rfl, rfl⟩ kX10_57 ?_
          refine xiload_n hk dX10_step_57 rfl ?_
          refine xiload_n hk dX10_step_58 rfl ?_
          refine xiconst (v := 1) hk dX10_step_59 (by decide) ?_
          refine xiadd hk dX10_step_60 ?_
          refine xiast hk dX10_step_61 rfl h4 ?_
          refine xvret hk he dX10_step_62 ⟨by decide, by decide⟩ ?_
          exact ⟨rfl, by simp [stpF, *]⟩
set_option maxHeartbeats 4000000 in
set_option maxRecDepth 100000 in
theorem c_X10_between {g : Gx} {a : Nat → Nat} {x : XS} {c d : Nat} {y : XS} (hM : MOK x) (hc : c < 20) (hd : d < 20) (hb : btL c 21 0 (bt0 d x) = some y) : Mx g yX10_between cX10_between 5 (some .int) 3 0 0 LM a x [.ref (a 0), .int (nI c), .int (nI d)] (pr (some (.int (y.1 10 c))) y) := by
  refine Mx_of (by decide +kernel) (Nat.le_of_ble_eq_true rfl) ?_
  intro k hk he hg
  subst hg

  have inner : ∀ (far : Int32) (z : XS), MOK z → (∀ w : XS, MOK w → w = itP (stkF far) (z.1 11 1).toNatClampNeg z → Wx k 0 0 LM a w 96 [(0, .ref (a 0)), (1, .int (nI c)), (2, .int (nI d)), (3, .int far)] []) → ∀ (n j : Nat) (v : Int32) (w : XS), (z.1 11 1).toNatClampNeg - j < n → v = nI j → j ≤ (z.1 11 1).toNatClampNeg → w = itP (stkF far) j z → Wx k 0 0 LM a w 43 [(0, .ref (a 0)), (1, .int (nI c)), (2, .int (nI d)), (3, .int far), (4, .int v)] [] := by
    intro far z hMz kk n
    have hS := hMz.1
    induction n with
    | zero => intros; omega
    | succ n ih =>
      intro j v w hn hv hj hw
      subst hv
      have e : ∀ q i, q ≠ 10 → w.1 q i = z.1 q i := fun q i h => by rw [hw, itP_1 (fun c y => stk_1 h)]
      have hMw : MOK w := MOK_of (fun q i h => e q i (by omega)) hMz
      refine xiload hk dX10_between_43 rfl ?_
      refine xaload_n hk dX10_between_45 rfl ?_
      refine xgetR (ci := 10) (f := 11) hk dX10_between_46 ⟨rfl, by decide, _, rfl, rfl⟩ kX10_35 ?_
      refine xgetNI (ci := 9) (f := 1) hk dX10_between_49 ⟨rfl, by decide, _, rfl, rfl⟩ kX10_63 ?_
      refine xicmp_ge hk 96 dX10_between_52 (by decide) (fun h52 => ?_) (fun h52 => ?_)
      · rw [e _ _ (by decide), le_nI (by omega)] at h52
        refine xsub [(0, _), (1, _), (2, _), (3, _)] rfl ?_
        exact kk _ hMw (by rw [hw, show j = (z.1 11 1).toNatClampNeg by omega])
      · rw [e _ _ (by decide), le_nI (by omega)] at h52
        obtain ⟨⟨c1, hc1, e1⟩, ⟨c2, hc2, e2⟩⟩ := hMw.2.2 j (by rw [e _ _ (by decide)]; omega)
        obtain ⟨d1, hd1, f1⟩ := x1_20 c1 hc1
        obtain ⟨d2, hd2, f2⟩ := x1_20 c2 hc2
        refine xaload_n hk dX10_between_55 rfl ?_
        refine xgetI (ci := 10) (f := 15) hk dX10_between_56 ⟨rfl, by decide, _, rfl, rfl⟩ kX10_115 ?_
        refine xiload hk dX10_between_59 rfl ?_
        refine xcallS hk c_X10_has bX10_has kX10_74 dX10_between_61 rfl rfl (by decide) ⟨by decide, by decide⟩ (Nat.le_of_ble_eq_true rfl) (det ?_)
        refine xif_eq hk 90 dX10_between_64 (by decide) (fun h64 => ?_) (fun h64 => ?_)
        · rw [b2i_0] at h64
          refine xiinc hk dX10_between_90 rfl (by decide) rfl ?_
          refine xgoto hk 43 dX10_between_93 (by decide) ?_
          exact ih (j + 1) _ _ (by omega) (nI_inc j) (by omega) (by rw [itP, ← hw, stkF]; first | rw [if_pos h64] | rw [h64, if_neg Bool.false_ne_true])
        · rw [b2i_t] at h64
          refine xaload_n hk dX10_between_67 rfl ?_
          refine xaload_n hk dX10_between_68 rfl ?_
          refine xgetR (ci := 10) (f := 11) hk dX10_between_69 ⟨rfl, by decide, _, rfl, rfl⟩ kX10_35 ?_
          refine xiload hk dX10_between_72 rfl ?_
          refine xcallV hk (c_X9_one (vp_in_nI (show j < 20 by omega) (by decide))) bX9_one kX10_78 dX10_between_74 rfl ⟨_, _, _, _, rfl, rfl⟩ rfl (by decide) ⟨by decide, by decide⟩ (Nat.le_of_ble_eq_true rfl) (det ?_)
          refine xaload_n hk dX10_between_77 rfl ?_
          refine xgetR (ci := 10) (f := 11) hk dX10_between_78 ⟨rfl, by decide, _, rfl, rfl⟩ kX10_35 ?_
          refine xiload hk dX10_between_81 rfl ?_
          refine xcallV hk (c_X9_other (vp_in_nI (show j < 20 by omega) (by decide))) bX9_other kX10_85 dX10_between_83 rfl ⟨_, _, _, _, rfl, rfl⟩ rfl (by decide) ⟨by decide, by decide⟩ (Nat.le_of_ble_eq_true rfl) (det ?_)
          refine xiload_n hk dX10_between_86 rfl ?_
          refine xcallV hk (c_X10_step (by rw [e1, f1]; exact vp_in_nI (by omega) (by decide)) (by rw [e2]; exact vp_in_nI (by omega) (by decide)) (by rw [e2, f2]; exact vp_in_nI (by omega) (by decide)) (by rw [e1]; exact vp_in_nI (by omega) (by decide))) bX10_step kX10_130 dX10_between_87 rfl ⟨_, _, _, _, rfl, rfl⟩ rfl (by decide) ⟨by decide, by decide⟩ (Nat.le_of_ble_eq_true rfl) (det ?_)
          refine xiinc hk dX10_between_90 rfl (by decide) rfl ?_
          refine xgoto hk 43 dX10_between_93 (by decide) ?_
          exact ih (j + 1) _ _ (by omega) (nI_inc j) (by omega) (by rw [itP, ← hw, stkF]; first | rw [if_pos h64] | rw [h64, if_neg Bool.false_ne_true])
  have outer : ∀ (n : Nat) (far : Int32) (z : XS), MOK z → btL c n far z = some y → Wx k 0 0 LM a z 30 [(0, .ref (a 0)), (1, .int (nI c)), (2, .int (nI d)), (3, .int far)] [] := by
    intro n
    induction n with
    | zero => intro far z _ h; exact absurd h (by simp [btL])
    | succ n ih =>
      intro far z hMz h
      rw [btL] at h
      refine xaload_n hk dX10_between_30 rfl ?_
      refine xgetR (ci := 10) (f := 25) hk dX10_between_31 ⟨rfl, by decide, _, rfl, rfl⟩ kX10_57 ?_
      refine xiload_n hk dX10_between_34 rfl ?_
      refine xiald hk dX10_between_35 rfl (vp_in_nI (by omega) (by decide)) ?_
      rw [nI_clamp (by omega)]
      refine xiconst (v := (-1)) hk dX10_between_36 (by decide) ?_
      refine xicmp_ne hk 102 dX10_between_37 (by decide) (fun h37 => ?_) (fun h37 => ?_)
      · rw [if_neg h37] at h
        obtain rfl := Option.some.inj h
        refine xaload_n hk dX10_between_102 rfl ?_
        refine xgetR (ci := 10) (f := 25) hk dX10_between_103 ⟨rfl, by decide, _, rfl, rfl⟩ kX10_57 ?_
        refine xiload_n hk dX10_between_106 rfl ?_
        refine xiald hk dX10_between_107 rfl (vp_in_nI (by omega) (by decide)) ?_
        rw [nI_clamp (by omega)]
        refine xiret hk he dX10_between_108 ⟨by decide, by decide⟩ ?_
        exact ⟨rfl, rfl⟩
      · rw [if_pos h37] at h
        refine xiconst (v := 0) hk dX10_between_40 (by decide) ?_
        refine xistore hk dX10_between_41 (by decide) ?_
        refine inner far z hMz ?_ _ 0 _ z (Nat.lt_succ_self _) rfl (by omega) rfl
        intro w hMw hw
        subst hw
        refine xiinc hk dX10_between_96 rfl (by decide) rfl ?_
        refine xgoto hk 30 dX10_between_99 (by decide) ?_
        exact ih _ _ hMw h
  have l1 : ∀ (n j : Nat) (v : Int32) (z : XS), 20 - j < n → v = nI j → j ≤ 20 → z = itP (fun j y => setI y 10 j (-1)) j x → Wx k 0 0 LM a z 2 [(0, .ref (a 0)), (1, .int (nI c)), (2, .int (nI d)), (3, .int v)] [] := by
    intro n
    induction n with
    | zero => intros; omega
    | succ n ih =>
      intro j v z hn hv hj hz
      subst hv
      refine xiload_n hk dX10_between_2 rfl ?_
      refine xbipush (v := 20) hk dX10_between_3 (by decide) ?_
      refine xicmp_ge hk 21 dX10_between_5 (by decide) (fun h5 => ?_) (fun h5 => ?_)
      · rw [show (20 : Int32) = nI 20 from rfl, nI_leI (by decide) (by omega)] at h5
        obtain rfl : j = 20 := by omega
        refine xaload_n hk dX10_between_21 rfl ?_
        refine xgetR (ci := 10) (f := 25) hk dX10_between_22 ⟨rfl, by decide, _, rfl, rfl⟩ kX10_57 ?_
        refine xiload_n hk dX10_between_25 rfl ?_
        refine xiconst (v := 0) hk dX10_between_26 (by decide) ?_
        refine xiast hk dX10_between_27 rfl (vp_in_nI (by omega) (by decide)) ?_
        rw [nI_clamp (by omega)]
        refine xiconst (v := 0) hk dX10_between_28 (by decide) ?_
        refine xistore_n hk dX10_between_29 (by decide) ?_
        have hz2 : setI z 10 d 0 = bt0 d x := by rw [hz]; rfl
        rw [hz2]
        refine outer 21 0 _ ?_ hb
        rw [← hz2, hz]
        exact setI_MOK (by decide) (MOK_of (fun q i h => by rw [itP_1 (fun j y => rdq (by omega))]) hM)
      · rw [show (20 : Int32) = nI 20 from rfl, nI_leI (by decide) (by omega)] at h5
        refine xaload_n hk dX10_between_8 rfl ?_
        refine xgetR (ci := 10) (f := 25) hk dX10_between_9 ⟨rfl, by decide, _, rfl, rfl⟩ kX10_57 ?_
        refine xiload_n hk dX10_between_12 rfl ?_
        refine xiconst (v := (-1)) hk dX10_between_13 (by decide) ?_
        refine xiast hk dX10_between_14 rfl (vp_in_nI (by omega) (by decide)) ?_
        rw [nI_clamp (by omega)]
        refine xiinc hk dX10_between_15 rfl (by decide) rfl ?_
        refine xgoto hk 2 dX10_between_18 (by decide) ?_
        exact ih (j + 1) _ _ (by omega) (nI_inc j) (by omega) (by subst hz; rfl)
  refine xiconst (v := 0) hk dX10_between_0 (by decide) ?_
  refine xistore_n hk dX10_between_1 (by decide) ?_
  exact l1 _ 0 _ _ (Nat.lt_succ_self _) rfl (by omega) rfl
def blL (x : XS) : Nat → Nat → Option Nat
  | 0, _ => none
  | n + 1, f => if areB x (2 * nI f) (2 * nI f + 1) then some f else blL x n (f + 1)
set_option maxHeartbeats 4000000 in
set_option maxRecDepth 100000 in
theorem c_X10_blamed {g : Gx} {a : Nat → Nat} {x : XS} {f : Nat} (hM : MOK x) (hb : blL (mfol x) 10 0 = some f) : Mx g yX10_blamed cX10_blamed 2 (some .int) 5 0 0 LM a x [.ref (a 0)] (pr (some (.int (nI f))) (mfol x)) := by
  refine Mx_of (by decide +kernel) (Nat.le_of_ble_eq_true rfl) ?_
  intro k hk he hg
  subst hg

  have loop : ∀ (n i : Nat) (v : Int32), v = nI i → n + i = 10 → blL (mfol x) n i = some f → Wx k 0 0 LM a (mfol x) 6 [(0, .ref (a 0)), (1, .int v)] [] := by
    intro n
    induction n with
    | zero => intro i v _ _ h; exact absurd h (by simp [blL])
    | succ n ih =>
      intro i v hv hi h
      subst hv
      rw [blL] at h
      have v1 : vp_in (2 * nI i) 20 := by rw [show (2 : Int32) = nI 2 from rfl, pk_mul]; exact vp_in_nI (by omega) (by decide)
      have v2 : vp_in (2 * nI i + 1) 20 := by rw [show (2 : Int32) = nI 2 from rfl, pk_mul, nI_1]; exact vp_in_nI (by omega) (by decide)
      refine xaload_n hk dX10_blamed_6 rfl ?_
      refine xiconst (v := 2) hk dX10_blamed_7 (by decide) ?_
      refine xiload_n hk dX10_blamed_8 rfl ?_
      refine ximul hk dX10_blamed_9 ?_
      refine xiconst (v := 2) hk dX10_blamed_10 (by decide) ?_
      refine xiload_n hk dX10_blamed_11 rfl ?_
      refine ximul hk dX10_blamed_12 ?_
      refine xiconst (v := 1) hk dX10_blamed_13 (by decide) ?_
      refine xiadd hk dX10_blamed_14 ?_
      refine xcallV hk (c_X10_areOne v1 v2) bX10_areOne kX10_124 dX10_blamed_15 rfl ⟨_, _, _, _, rfl, rfl⟩ rfl (by decide) ⟨by decide, by decide⟩ (Nat.le_of_ble_eq_true rfl) (det ?_)
      refine xif_ne hk 27 dX10_blamed_18 (by decide) (fun h18 => ?_) (fun h18 => ?_)
      · rw [b2i_t] at h18
        rw [if_pos h18] at h
        obtain rfl := Option.some.inj h
        refine xiload_n hk dX10_blamed_27 rfl ?_
        refine xiret hk he dX10_blamed_28 ⟨by decide, by decide⟩ ?_
        exact ⟨rfl, rfl⟩
      · rw [b2i_0] at h18
        rw [h18, if_neg Bool.false_ne_true] at h
        refine xiinc hk dX10_blamed_21 rfl (by decide) rfl ?_
        refine xgoto hk 6 dX10_blamed_24 (by decide) ?_
        exact ih (i + 1) _ (nI_inc i) (by omega) h
  refine xaload_n hk dX10_blamed_0 rfl ?_
  refine xcallV hk (c_X10_follow hM) bX10_follow kX10_127 dX10_blamed_1 rfl ⟨_, _, _, _, rfl, rfl⟩ rfl (by decide) ⟨by decide, by decide⟩ (Nat.le_of_ble_eq_true rfl) (det ?_)
  refine xiconst (v := 0) hk dX10_blamed_4 (by decide) ?_
  refine xistore_n hk dX10_blamed_5 (by decide) ?_
  exact loop 10 0 _ rfl (by omega) hb
def mtF (x : XS) (c : Nat) (b : Int32) : Int32 := if x.1 8 c ≤ 0 then b else if b = -1 then nI c else if x.1 8 b.toNatClampNeg ≤ x.1 8 c then b else nI c
theorem mtF_in {x : XS} : ∀ (n : Nat), n ≤ 20 → itP (mtF x) n (-1) = -1 ∨ ∃ d, d < 20 ∧ itP (mtF x) n (-1) = nI d := by
  intro n
  induction n with
  | zero => intro _; exact Or.inl rfl
  | succ n ih =>
    intro hn
    rw [itP, mtF]
    repeat' split
    · exact ih (by omega)
    · exact Or.inr ⟨n, by omega, rfl⟩
    · exact ih (by omega)
    · exact Or.inr ⟨n, by omega, rfl⟩
set_option maxHeartbeats 4000000 in
set_option maxRecDepth 100000 in
theorem c_X10_mostTelling {g : Gx} {a : Nat → Nat} {x : XS} (hM : MOK x) : Mx g yX10_mostTelling cX10_mostTelling 3 (some .int) 2 0 0 LM a x [.ref (a 0)] (pr (some (.int (itP (mtF x) (2 * x.1 11 0).toNatClampNeg (-1)))) x) := by
  refine Mx_of (by decide +kernel) (Nat.le_of_ble_eq_true rfl) ?_
  intro k hk he hg
  subst hg

  have hF := hM.2.1
  have loop : ∀ (n j : Nat) (v b : Int32), (2 * x.1 11 0).toNatClampNeg - j < n → v = nI j → j ≤ (2 * x.1 11 0).toNatClampNeg → b = itP (mtF x) j (-1) → Wx k 0 0 LM a x 4 [(0, .ref (a 0)), (1, .int b), (2, .int v)] [] := by
    intro n
    induction n with
    | zero => intros; omega
    | succ n ih =>
      intro j v b hn hv hj hb
      subst hv
      have hbi : ¬ b = -1 → vp_in b 20 := fun hne => by
        rcases mtF_in (x := x) j (by omega) with h | ⟨d, hd, h⟩
        · exact absurd (hb.trans h) hne
        · rw [hb, h]; exact vp_in_nI hd (by decide)
      refine xiload_n hk dX10_mostTelling_4 rfl ?_
      refine xaload_n hk dX10_mostTelling_5 rfl ?_
      refine xgetR (ci := 10) (f := 11) hk dX10_mostTelling_6 ⟨rfl, by decide, _, rfl, rfl⟩ kX10_35 ?_
      refine xcallV hk c_X9_claims bX9_claims kX10_70 dX10_mostTelling_9 rfl ⟨_, _, _, _, rfl, rfl⟩ rfl (by decide) ⟨by decide, by decide⟩ (Nat.le_of_ble_eq_true rfl) (det ?_)
      refine xicmp_ge hk 52 dX10_mostTelling_12 (by decide) (fun h12 => ?_) (fun h12 => ?_)
      · rw [le_nI (by omega)] at h12
        refine xiload_n hk dX10_mostTelling_52 rfl ?_
        refine xiret hk he dX10_mostTelling_53 ⟨by decide, by decide⟩ ?_
        exact ⟨by rw [hb, show j = (2 * x.1 11 0).toNatClampNeg by omega], rfl⟩
      · rw [le_nI (by omega)] at h12
        refine xaload_n hk dX10_mostTelling_15 rfl ?_
        refine xgetR (ci := 10) (f := 21) hk dX10_mostTelling_16 ⟨rfl, by decide, _, rfl, rfl⟩ kX10_48 ?_
        refine xiload_n hk dX10_mostTelling_19 rfl ?_
        refine xiald hk dX10_mostTelling_20 rfl (vp_in_nI (by omega) (by decide)) ?_
        rw [nI_clamp (by omega)]
        refine xif_le hk 46 dX10_mostTelling_21 (by decide) (fun h21 => ?_) (fun h21 => ?_)
        · refine xiinc hk dX10_mostTelling_46 rfl (by decide) rfl ?_
          refine xgoto hk 4 dX10_mostTelling_49 (by decide) ?_
          exact ih (j + 1) _ _ (by omega) (nI_inc j) (by omega) (by rw [itP, ← hb, mtF]; first | rw [if_pos h21] | (rw [if_neg h21]; first | rw [if_pos h26] | (rw [if_neg h26]; first | rw [if_pos h41] | rw [if_neg h41])))
        · refine xiload_n hk dX10_mostTelling_24 rfl ?_
          refine xiconst (v := (-1)) hk dX10_mostTelling_25 (by decide) ?_
          refine xicmp_eq hk 44 dX10_mostTelling_26 (by decide) (fun h26 => ?_) (fun h26 => ?_)
          · refine xiload_n hk dX10_mostTelling_44 rfl ?_
            refine xistore_n hk dX10_mostTelling_45 (by decide) ?_
            refine xiinc hk dX10_mostTelling_46 rfl (by decide) rfl ?_
            refine xgoto hk 4 dX10_mostTelling_49 (by decide) ?_
            exact ih (j + 1) _ _ (by omega) (nI_inc j) (by omega) (by rw [itP, ← hb, mtF]; first | rw [if_pos h21] | (rw [if_neg h21]; first | rw [if_pos h26] | (rw [if_neg h26]; first | rw [if_pos h41] | rw [if_neg h41])))
          · refine xaload_n hk dX10_mostTelling_29 rfl ?_
            refine xgetR (ci := 10) (f := 21) hk dX10_mostTelling_30 ⟨rfl, by decide, _, rfl, rfl⟩ kX10_48 ?_
            refine xiload_n hk dX10_mostTelling_33 rfl ?_
            refine xiald hk dX10_mostTelling_34 rfl (vp_in_nI (by omega) (by decide)) ?_
            rw [nI_clamp (by omega)]
            refine xaload_n hk dX10_mostTelling_35 rfl ?_
            refine xgetR (ci := 10) (f := 21) hk dX10_mostTelling_36 ⟨rfl, by decide, _, rfl, rfl⟩ kX10_48 ?_
            refine xiload_n hk dX10_mostTelling_39 rfl ?_
            refine xiald hk dX10_mostTelling_40 rfl (hbi h26) ?_
            refine xicmp_ge hk 46 dX10_mostTelling_41 (by decide) (fun h41 => ?_) (fun h41 => ?_)
            · refine xiinc hk dX10_mostTelling_46 rfl (by decide) rfl ?_
              refine xgoto hk 4 dX10_mostTelling_49 (by decide) ?_
              exact ih (j + 1) _ _ (by omega) (nI_inc j) (by omega) (by rw [itP, ← hb, mtF]; first | rw [if_pos h21] | (rw [if_neg h21]; first | rw [if_pos h26] | (rw [if_neg h26]; first | rw [if_pos h41] | rw [if_neg h41])))
            · refine xiload_n hk dX10_mostTelling_44 rfl ?_
              refine xistore_n hk dX10_mostTelling_45 (by decide) ?_
              refine xiinc hk dX10_mostTelling_46 rfl (by decide) rfl ?_
              refine xgoto hk 4 dX10_mostTelling_49 (by decide) ?_
              exact ih (j + 1) _ _ (by omega) (nI_inc j) (by omega) (by rw [itP, ← hb, mtF]; first | rw [if_pos h21] | (rw [if_neg h21]; first | rw [if_pos h26] | (rw [if_neg h26]; first | rw [if_pos h41] | rw [if_neg h41])))
  refine xiconst (v := (-1)) hk dX10_mostTelling_0 (by decide) ?_
  refine xistore_n hk dX10_mostTelling_1 (by decide) ?_
  refine xiconst (v := 0) hk dX10_mostTelling_2 (by decide) ?_
  refine xistore_n hk dX10_mostTelling_3 (by decide) ?_
  exact loop _ 0 _ _ (Nat.lt_succ_self _) rfl (by omega) rfl
