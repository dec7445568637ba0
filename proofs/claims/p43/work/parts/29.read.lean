theorem kX4_42 : Cond.methodLink RX4 42 yX4_readLine ∈ GW := gw_mem 1013 (by decide +kernel) (by decide +kernel)
theorem bX4_readLine : CBv yX4_readLine cX4_readLine 1 (some .boolean) 0 := ⟨⟨gw_mem 1016 (by decide +kernel) (by decide +kernel), gw_mem 17 (by decide +kernel) (by decide +kernel), by decide +kernel, by decide⟩, gw_mem 1015 (by decide +kernel) (by decide +kernel), gw_sel 32 (by decide +kernel) (by decide +kernel)⟩
theorem kX4_33 : Cond.methodLink RX4 33 yX0_clear ∈ GW := gw_mem 1001 (by decide +kernel) (by decide +kernel)
theorem bX0_clear : CBv yX0_clear cX0_clear 1 none 0 := ⟨⟨gw_mem 1004 (by decide +kernel) (by decide +kernel), gw_mem 16 (by decide +kernel) (by decide +kernel), by decide +kernel, by decide⟩, gw_mem 1002 (by decide +kernel) (by decide +kernel), gw_mem 1003 (by decide +kernel) (by decide +kernel)⟩
theorem kX8_30 : Cond.fieldLink RX8 30 "FeudBook" "book" "LFeudBook$Book;" ∈ GW := gw_mem 335 (by decide +kernel) (by decide +kernel)
theorem kX8_26 : Cond.fieldLink RX8 26 "FeudBook" "draft" "LFeudBook$Book;" ∈ GW := gw_mem 334 (by decide +kernel) (by decide +kernel)
theorem kX8_235 : Cond.methodLink RX8 235 yX0_copyFrom ∈ GW := gw_mem 1112 (by decide +kernel) (by decide +kernel)
theorem bX0_copyFrom : CBv yX0_copyFrom cX0_copyFrom 2 none 1 := ⟨⟨gw_mem 1115 (by decide +kernel) (by decide +kernel), gw_mem 16 (by decide +kernel) (by decide +kernel), by decide +kernel, by decide⟩, gw_mem 1113 (by decide +kernel) (by decide +kernel), gw_mem 1114 (by decide +kernel) (by decide +kernel)⟩
theorem kX8_47 : Cond.fieldLink RX8 47 "FeudBook" "web" "LFeudBook$Web;" ∈ GW := gw_mem 337 (by decide +kernel) (by decide +kernel)
theorem kX8_237 : Cond.methodLink RX8 237 yX7_forget ∈ GW := gw_mem 1119 (by decide +kernel) (by decide +kernel)
theorem bX7_forget : CBv yX7_forget cX7_forget 1 none 0 := ⟨⟨gw_mem 1122 (by decide +kernel) (by decide +kernel), gw_mem 18 (by decide +kernel) (by decide +kernel), by decide +kernel, by decide⟩, gw_mem 1120 (by decide +kernel) (by decide +kernel), gw_mem 1121 (by decide +kernel) (by decide +kernel)⟩
theorem kX8_54 : Cond.fieldLink RX8 54 "FeudBook" "land" "LFeudBook$Peaces;" ∈ GW := gw_mem 338 (by decide +kernel) (by decide +kernel)
theorem kX8_240 : Cond.methodLink RX8 240 yX3_prepare ∈ GW := gw_mem 1123 (by decide +kernel) (by decide +kernel)
theorem bX3_prepare : CBv yX3_prepare cX3_prepare 4 none 0 := ⟨⟨gw_mem 1126 (by decide +kernel) (by decide +kernel), gw_mem 19 (by decide +kernel) (by decide +kernel), by decide +kernel, by decide⟩, gw_mem 1124 (by decide +kernel) (by decide +kernel), gw_mem 1125 (by decide +kernel) (by decide +kernel)⟩
theorem kX8_70 : Cond.fieldLink RX8 70 "FeudBook" "now" "LFeudBook$Course;" ∈ GW := gw_mem 340 (by decide +kernel) (by decide +kernel)
theorem kX8_116 : Cond.fieldLinkNest RX8 116 "FeudBook$Book" "statements" "I" "FeudBook" ∈ NW := nw_mem 154 (by decide +kernel) rfl
theorem kX8_243 : Cond.methodLink RX8 243 yX1_begin ∈ GW := gw_mem 1130 (by decide +kernel) (by decide +kernel)
theorem bX1_begin : CBv yX1_begin cX1_begin 2 none 1 := ⟨⟨gw_mem 1133 (by decide +kernel) (by decide +kernel), gw_mem 21 (by decide +kernel) (by decide +kernel), by decide +kernel, by decide⟩, gw_mem 1131 (by decide +kernel) (by decide +kernel), gw_mem 1132 (by decide +kernel) (by decide +kernel)⟩
theorem kX8_19 : Cond.fieldLink RX8 19 "FeudBook" "tokens" "LFeudBook$Tokens;" ∈ GW := gw_mem 333 (by decide +kernel) (by decide +kernel)
theorem kX8_12 : Cond.fieldLink RX8 12 "FeudBook" "tape" "LFeudBook$Tape;" ∈ GW := gw_mem 332 (by decide +kernel) (by decide +kernel)
theorem kX8_100 : Cond.methodLink RX8 100 yX6_scan ∈ GW := gw_mem 965 (by decide +kernel) (by decide +kernel)
theorem bX6_scan : CBv yX6_scan cX6_scan 3 none 1 := ⟨⟨gw_mem 968 (by decide +kernel) (by decide +kernel), gw_mem 15 (by decide +kernel) (by decide +kernel), by decide +kernel, by decide⟩, gw_mem 966 (by decide +kernel) (by decide +kernel), gw_mem 967 (by decide +kernel) (by decide +kernel)⟩
theorem kX8_81 : Cond.fieldLinkNest RX8 81 "FeudBook$Tape" "length" "I" "FeudBook" ∈ NW := nw_mem 44 (by decide +kernel) rfl
theorem kX8_38 : Cond.fieldLink RX8 38 "FeudBook" "reader" "LFeudBook$Reader;" ∈ GW := gw_mem 336 (by decide +kernel) (by decide +kernel)
theorem kX8_104 : Cond.methodLink RX8 104 yX4_read ∈ GW := gw_mem 997 (by decide +kernel) (by decide +kernel)
theorem bX4_read : CBv yX4_read cX4_read 3 (some .int) 0 := ⟨⟨gw_mem 1000 (by decide +kernel) (by decide +kernel), gw_mem 17 (by decide +kernel) (by decide +kernel), by decide +kernel, by decide⟩, gw_mem 998 (by decide +kernel) (by decide +kernel), gw_mem 999 (by decide +kernel) (by decide +kernel)⟩
theorem kX8_108 : Cond.methodLink RX8 108 yX4_errorPosition ∈ GW := gw_mem 1100 (by decide +kernel) (by decide +kernel)
theorem bX4_errorPosition : CBv yX4_errorPosition cX4_errorPosition 1 (some .int) 0 := ⟨⟨gw_mem 1103 (by decide +kernel) (by decide +kernel), gw_mem 17 (by decide +kernel) (by decide +kernel), by decide +kernel, by decide⟩, gw_mem 1101 (by decide +kernel) (by decide +kernel), gw_mem 1102 (by decide +kernel) (by decide +kernel)⟩
theorem kX8_77 : Cond.fieldLink RX8 77 "FeudBook" "errorPosition" "I" ∈ GW := gw_mem 342 (by decide +kernel) (by decide +kernel)
theorem kX8_110 : Cond.methodLink RX8 110 yX8_begin ∈ GW := gw_mem 1108 (by decide +kernel) (by decide +kernel)
theorem bX8_begin : CBv yX8_begin cX8_begin 1 none 0 := ⟨⟨gw_mem 1111 (by decide +kernel) (by decide +kernel), gw_mem 13 (by decide +kernel) (by decide +kernel), by decide +kernel, by decide⟩, gw_mem 1110 (by decide +kernel) (by decide +kernel), gw_sel 48 (by decide +kernel) (by decide +kernel)⟩
set_option maxHeartbeats 4000000 in
set_option maxRecDepth 100000 in
theorem c_X4_read {g : Gx} {a : Nat → Nat} {x : XS}  : Mx g yX4_read cX4_read 3 (some .int) 82 0 0 LF a x [.ref (a 34)] (pr (some (.int ((readF x).1 34 5))) (readF x)) := by
  refine Mx_of (by decide +kernel) (Nat.le_of_ble_eq_true rfl) ?_
  intro k hk he hg
  subst hg

  generalize hP : planL 400 (clearF (setI (setI x 34 4 0) 34 5 0)) = P
  have hF : readF x = if P.1 && nextB P.2 260 then P.2 else setI (setI P.2 34 5 1) 34 6 ((setI P.2 34 5 1).1 34 4) := by rw [← hP]; rfl
  have tail : ∀ (b : Bool) (y : XS), P = (b, y) → Wx k 0 0 LF a y 70 [(0, .ref (a 34)), (1, .int (b2i b))] [] := by
    intro b y hb
    rw [hb] at hF
    refine xiload_n hk dX4_read_70 rfl ?_
    refine xif_eq hk 84 dX4_read_71 (by decide) (fun h71 => ?_) (fun h71 => ?_)
    · rw [b2i_0] at h71
      refine xaload_n hk dX4_read_84 rfl ?_
      refine xiconst (v := 1) hk dX4_read_85 (by decide) ?_
      refine xputI (ci := 4) (f := 5) hk dX4_read_86 ⟨rfl, by decide, _, rfl, rfl⟩ kX4_30 ⟨rfl, by decide +kernel⟩ ?_
      refine xaload_n hk dX4_read_89 rfl ?_
      refine xaload_n hk dX4_read_90 rfl ?_
      refine xgetI (ci := 4) (f := 4) hk dX4_read_91 ⟨rfl, by decide, _, rfl, rfl⟩ kX4_26 ?_
      refine xputI (ci := 4) (f := 6) hk dX4_read_94 ⟨rfl, by decide, _, rfl, rfl⟩ kX4_49 ⟨rfl, by decide +kernel⟩ ?_
      refine xaload_n hk dX4_read_97 rfl ?_
      refine xgetI (ci := 4) (f := 5) hk dX4_read_98 ⟨rfl, by decide, _, rfl, rfl⟩ kX4_30 ?_
      refine xiret hk he dX4_read_101 ⟨by decide, by decide⟩ ?_
      first | (rw [hF]; simp only [h71, Bool.false_and, Bool.false_eq_true, if_false]; exact ⟨rfl, rfl⟩) | (rw [hF]; simp only [h71, h81, Bool.true_and, if_true, Bool.false_eq_true, if_false]; exact ⟨rfl, rfl⟩)
    · rw [b2i_t] at h71
      refine xaload_n hk dX4_read_74 rfl ?_
      refine xsipush (v := 260) hk dX4_read_75 (by decide) ?_
      refine xcallV hk c_X4_isNext bX4_isNext kX4_38 dX4_read_78 rfl ⟨_, _, _, _, rfl, rfl⟩ rfl (by decide) ⟨by decide, by decide⟩ (Nat.le_of_ble_eq_true rfl) (det ?_)
      refine xif_ne hk 97 dX4_read_81 (by decide) (fun h81 => ?_) (fun h81 => ?_)
      · rw [b2i_t] at h81
        refine xaload_n hk dX4_read_97 rfl ?_
        refine xgetI (ci := 4) (f := 5) hk dX4_read_98 ⟨rfl, by decide, _, rfl, rfl⟩ kX4_30 ?_
        refine xiret hk he dX4_read_101 ⟨by decide, by decide⟩ ?_
        first | (rw [hF]; simp only [h71, Bool.false_and, Bool.false_eq_true, if_false]; exact ⟨rfl, rfl⟩) | (rw [hF]; simp only [h71, h81, Bool.true_and, if_true, Bool.false_eq_true, if_false]; exact ⟨rfl, rfl⟩)
      · rw [b2i_0] at h81
        refine xaload_n hk dX4_read_84 rfl ?_
        refine xiconst (v := 1) hk dX4_read_85 (by decide) ?_
        refine xputI (ci := 4) (f := 5) hk dX4_read_86 ⟨rfl, by decide, _, rfl, rfl⟩ kX4_30 ⟨rfl, by decide +kernel⟩ ?_
        refine xaload_n hk dX4_read_89 rfl ?_
        refine xaload_n hk dX4_read_90 rfl ?_
        refine xgetI (ci := 4) (f := 4) hk dX4_read_91 ⟨rfl, by decide, _, rfl, rfl⟩ kX4_26 ?_
        refine xputI (ci := 4) (f := 6) hk dX4_read_94 ⟨rfl, by decide, _, rfl, rfl⟩ kX4_49 ⟨rfl, by decide +kernel⟩ ?_
        refine xaload_n hk dX4_read_97 rfl ?_
        refine xgetI (ci := 4) (f := 5) hk dX4_read_98 ⟨rfl, by decide, _, rfl, rfl⟩ kX4_30 ?_
        refine xiret hk he dX4_read_101 ⟨by decide, by decide⟩ ?_
        first | (rw [hF]; simp only [h71, Bool.false_and, Bool.false_eq_true, if_false]; exact ⟨rfl, rfl⟩) | (rw [hF]; simp only [h71, h81, Bool.true_and, if_true, Bool.false_eq_true, if_false]; exact ⟨rfl, rfl⟩)
  have stop0 : ∀ (y : XS) (v : Int32), P = (false, y) → Wx k 0 0 LF a y 21 [(0, .ref (a 34)), (1, .int 0), (2, .int v)] [] := by
    intro y v hI
    refine xiload_n hk dX4_read_21 rfl ?_
    refine xsipush (v := 400) hk dX4_read_22 (by decide) ?_
    refine xicmp_ge hk 70 dX4_read_25 (by decide) (fun _ => ?_) (fun _ => ?_)
    · refine xsub [(0, _), (1, _)] rfl ?_
      exact tail false _ hI
    · refine xiload_n hk dX4_read_28 rfl ?_
      refine xif_eq hk 70 dX4_read_29 (by decide) (fun _ => ?_) (fun z => absurd rfl z)
      refine xsub [(0, _), (1, _)] rfl ?_
      exact tail false _ hI
  have loop : ∀ (n r j : Nat) (v : Int32) (y : XS), r < n → v = nI j → r + j = 400 → planL r y = P → Wx k 0 0 LF a y 21 [(0, .ref (a 34)), (1, .int 1), (2, .int v)] [] := by
    intro n
    induction n with
    | zero => intros; omega
    | succ n ih =>
      intro r j v y hn hv hj hI
      subst hv
      refine xiload_n hk dX4_read_21 rfl ?_
      refine xsipush (v := 400) hk dX4_read_22 (by decide) ?_
      refine xicmp_ge hk 70 dX4_read_25 (by decide) (fun h25 => ?_) (fun h25 => ?_)
      · rw [lt400 (by omega)] at h25
        obtain rfl : r = 0 := by omega
        rw [planL] at hI
        refine xsub [(0, _), (1, _)] rfl ?_
        exact tail true _ hI.symm
      · rw [lt400 (by omega)] at h25
        obtain ⟨r, rfl⟩ : ∃ r2, r = r2 + 1 := ⟨r - 1, by omega⟩
        rw [planL] at hI
        refine xiload_n hk dX4_read_28 rfl ?_
        refine xif_eq hk 70 dX4_read_29 (by decide) (fun h29 => ?_) (fun h29 => ?_)
        · exact absurd h29 (by decide)
        · refine xaload_n hk dX4_read_32 rfl ?_
          refine xsipush (v := 260) hk dX4_read_33 (by decide) ?_
          refine xcallV hk c_X4_isNext bX4_isNext kX4_38 dX4_read_36 rfl ⟨_, _, _, _, rfl, rfl⟩ rfl (by decide) ⟨by decide, by decide⟩ (Nat.le_of_ble_eq_true rfl) (det ?_)
          refine xif_ne hk 70 dX4_read_39 (by decide) (fun h39 => ?_) (fun h39 => ?_)
          · rw [b2i_t] at h39
            rw [if_pos h39] at hI
            refine xsub [(0, _), (1, _)] rfl ?_
            exact tail true _ hI.symm
          · rw [b2i_0] at h39
            rw [h39, if_neg Bool.false_ne_true] at hI
            refine xaload_n hk dX4_read_42 rfl ?_
            refine xcallV hk c_X4_readLine bX4_readLine kX4_42 dX4_read_43 rfl ⟨_, _, _, _, rfl, rfl⟩ rfl (by decide) ⟨by decide, by decide⟩ (Nat.le_of_ble_eq_true rfl) (det ?_)
            refine xif_eq hk 62 dX4_read_46 (by decide) (fun h46 => ?_) (fun h46 => ?_)
            · rw [b2i_0] at h46
              simp only [h46, if_false, Bool.false_eq_true] at hI
              refine xiconst (v := 0) hk dX4_read_62 (by decide) ?_
              refine xistore_n hk dX4_read_63 (by decide) ?_
              refine xiinc hk dX4_read_64 rfl (by decide) rfl ?_
              refine xgoto hk 21 dX4_read_67 (by decide) ?_
              first | (refine xsub [(0, _), (1, _), (2, _)] rfl ?_; exact ih r (j + 1) _ _ (by omega) (nI_inc j) (by omega) hI) | (refine xsub [(0, _), (1, _), (2, _)] rfl ?_; exact stop0 _ _ hI.symm)
            · rw [b2i_t] at h46
              simp only [h46, if_true] at hI
              refine xaload_n hk dX4_read_49 rfl ?_
              refine xbipush (v := 59) hk dX4_read_50 (by decide) ?_
              refine xcallV hk c_X4_take bX4_take kX4_46 dX4_read_52 rfl ⟨_, _, _, _, rfl, rfl⟩ rfl (by decide) ⟨by decide, by decide⟩ (Nat.le_of_ble_eq_true rfl) (det ?_)
              refine xif_eq hk 62 dX4_read_55 (by decide) (fun h55 => ?_) (fun h55 => ?_)
              · rw [b2i_0] at h55
                simp only [h55, if_false, Bool.false_eq_true] at hI
                refine xiconst (v := 0) hk dX4_read_62 (by decide) ?_
                refine xistore_n hk dX4_read_63 (by decide) ?_
                refine xiinc hk dX4_read_64 rfl (by decide) rfl ?_
                refine xgoto hk 21 dX4_read_67 (by decide) ?_
                first | (refine xsub [(0, _), (1, _), (2, _)] rfl ?_; exact ih r (j + 1) _ _ (by omega) (nI_inc j) (by omega) hI) | (refine xsub [(0, _), (1, _), (2, _)] rfl ?_; exact stop0 _ _ hI.symm)
              · rw [b2i_t] at h55
                simp only [h55, if_true] at hI
                refine xiconst (v := 1) hk dX4_read_58 (by decide) ?_
                refine xgoto hk 63 dX4_read_59 (by decide) ?_
                refine xistore_n hk dX4_read_63 (by decide) ?_
                refine xiinc hk dX4_read_64 rfl (by decide) rfl ?_
                refine xgoto hk 21 dX4_read_67 (by decide) ?_
                first | (refine xsub [(0, _), (1, _), (2, _)] rfl ?_; exact ih r (j + 1) _ _ (by omega) (nI_inc j) (by omega) hI) | (refine xsub [(0, _), (1, _), (2, _)] rfl ?_; exact stop0 _ _ hI.symm)
  refine xaload_n hk dX4_read_0 rfl ?_
  refine xiconst (v := 0) hk dX4_read_1 (by decide) ?_
  refine xputI (ci := 4) (f := 4) hk dX4_read_2 ⟨rfl, by decide, _, rfl, rfl⟩ kX4_26 ⟨rfl, by decide +kernel⟩ ?_
  refine xaload_n hk dX4_read_5 rfl ?_
  refine xiconst (v := 0) hk dX4_read_6 (by decide) ?_
  refine xputI (ci := 4) (f := 5) hk dX4_read_7 ⟨rfl, by decide, _, rfl, rfl⟩ kX4_30 ⟨rfl, by decide +kernel⟩ ?_
  refine xaload_n hk dX4_read_10 rfl ?_
  refine xgetR (ci := 4) (f := 1) hk dX4_read_11 ⟨rfl, by decide, _, rfl, rfl⟩ kX4_22 ?_
  refine xcallV hk c_X0_clear bX0_clear kX4_33 dX4_read_14 rfl ⟨_, _, _, _, rfl, rfl⟩ rfl (by decide) ⟨by decide, by decide⟩ (Nat.le_of_ble_eq_true rfl) (det ?_)
  refine xiconst (v := 1) hk dX4_read_17 (by decide) ?_
  refine xistore_n hk dX4_read_18 (by decide) ?_
  refine xiconst (v := 0) hk dX4_read_19 (by decide) ?_
  refine xistore_n hk dX4_read_20 (by decide) ?_
  exact loop 401 400 0 _ _ (by omega) rfl (by omega) hP
def startF (x : XS) : XS := beginF (prepF (setI (copyF x) 37 5 (-1))) ((prepF (setI (copyF x) 37 5 (-1))).1 21 1)
def teachF (x : XS) : XS :=
  let x1 := setI (scanF x) 1 1 0
  let x2 := readF x1
  let e := x2.1 34 5
  let x3 := setI x2 0 10 (errPosF x2)
  if e = 0 then startF x3 else x3
set_option maxHeartbeats 4000000 in
set_option maxRecDepth 100000 in
theorem c_X8_begin {g : Gx} {a : Nat → Nat} {x : XS}  : Mx g yX8_begin cX8_begin 1 none 4 0 0 LF a x [.ref (a 0)] (pr none (startF x)) := by
  refine Mx_of (by decide +kernel) (Nat.le_of_ble_eq_true rfl) ?_
  intro k hk he hg
  subst hg

  refine xaload_n hk dX8_begin_0 rfl ?_
  refine xgetR (ci := 8) (f := 3) hk dX8_begin_1 ⟨rfl, by decide, _, rfl, rfl⟩ kX8_30 ?_
  refine xaload_n hk dX8_begin_4 rfl ?_
  refine xgetR (ci := 8) (f := 2) hk dX8_begin_5 ⟨rfl, by decide, _, rfl, rfl⟩ kX8_26 ?_
  refine xcallV hk c_X0_copyFrom bX0_copyFrom kX8_235 dX8_begin_8 rfl ⟨_, _, _, _, rfl, rfl⟩ rfl (by decide) ⟨by decide, by decide⟩ (Nat.le_of_ble_eq_true rfl) (det ?_)
  refine xaload_n hk dX8_begin_11 rfl ?_
  refine xgetR (ci := 8) (f := 5) hk dX8_begin_12 ⟨rfl, by decide, _, rfl, rfl⟩ kX8_47 ?_
  refine xcallV hk c_X7_forget bX7_forget kX8_237 dX8_begin_15 rfl ⟨_, _, _, _, rfl, rfl⟩ rfl (by decide) ⟨by decide, by decide⟩ (Nat.le_of_ble_eq_true rfl) (det ?_)
  refine xaload_n hk dX8_begin_18 rfl ?_
  refine xgetR (ci := 8) (f := 6) hk dX8_begin_19 ⟨rfl, by decide, _, rfl, rfl⟩ kX8_54 ?_
  refine xcallV hk c_X3_prepare bX3_prepare kX8_240 dX8_begin_22 rfl ⟨_, _, _, _, rfl, rfl⟩ rfl (by decide) ⟨by decide, by decide⟩ (Nat.le_of_ble_eq_true rfl) (det ?_)
  refine xaload_n hk dX8_begin_25 rfl ?_
  refine xgetR (ci := 8) (f := 8) hk dX8_begin_26 ⟨rfl, by decide, _, rfl, rfl⟩ kX8_70 ?_
  refine xaload_n hk dX8_begin_29 rfl ?_
  refine xgetR (ci := 8) (f := 3) hk dX8_begin_30 ⟨rfl, by decide, _, rfl, rfl⟩ kX8_30 ?_
  refine xgetNI (ci := 0) (f := 1) hk dX8_begin_33 ⟨rfl, by decide, _, rfl, rfl⟩ kX8_116 ?_
  refine xcallV hk c_X1_begin bX1_begin kX8_243 dX8_begin_36 rfl ⟨_, _, _, _, rfl, rfl⟩ rfl (by decide) ⟨by decide, by decide⟩ (Nat.le_of_ble_eq_true rfl) (det ?_)
  refine xvret hk he dX8_begin_39 ⟨by decide, by decide⟩ ?_
  exact ⟨rfl, rfl⟩
set_option maxHeartbeats 4000000 in
set_option maxRecDepth 100000 in
theorem c_X8_teach {g : Gx} {a : Nat → Nat} {x : XS}  : Mx g yX8_teach cX8_teach 2 (some .int) 84 0 0 LF a x [.ref (a 0)] (pr (some (.int ((readF (setI (scanF x) 1 1 0)).1 34 5))) (teachF x)) := by
  refine Mx_of (by decide +kernel) (Nat.le_of_ble_eq_true rfl) ?_
  intro k hk he hg
  subst hg

  refine xaload_n hk dX8_teach_0 rfl ?_
  refine xgetR (ci := 8) (f := 1) hk dX8_teach_1 ⟨rfl, by decide, _, rfl, rfl⟩ kX8_19 ?_
  refine xaload_n hk dX8_teach_4 rfl ?_
  refine xgetR (ci := 8) (f := 0) hk dX8_teach_5 ⟨rfl, by decide, _, rfl, rfl⟩ kX8_12 ?_
  refine xcallV hk c_X6_scan bX6_scan kX8_100 dX8_teach_8 rfl ⟨_, _, _, _, rfl, rfl⟩ rfl (by decide) ⟨by decide, by decide⟩ (Nat.le_of_ble_eq_true rfl) (det ?_)
  refine xaload_n hk dX8_teach_11 rfl ?_
  refine xgetR (ci := 8) (f := 0) hk dX8_teach_12 ⟨rfl, by decide, _, rfl, rfl⟩ kX8_12 ?_
  refine xiconst (v := 0) hk dX8_teach_15 (by decide) ?_
  refine xputIN (ci := 5) (f := 1) hk dX8_teach_16 ⟨rfl, by decide, _, rfl, rfl⟩ kX8_81 ⟨rfl, by decide +kernel⟩ ?_
  refine xaload_n hk dX8_teach_19 rfl ?_
  refine xgetR (ci := 8) (f := 4) hk dX8_teach_20 ⟨rfl, by decide, _, rfl, rfl⟩ kX8_38 ?_
  refine xcallV hk c_X4_read bX4_read kX8_104 dX8_teach_23 rfl ⟨_, _, _, _, rfl, rfl⟩ rfl (by decide) ⟨by decide, by decide⟩ (Nat.le_of_ble_eq_true rfl) (det ?_)
  refine xistore_n hk dX8_teach_26 (by decide) ?_
  refine xaload_n hk dX8_teach_27 rfl ?_
  refine xaload_n hk dX8_teach_28 rfl ?_
  refine xgetR (ci := 8) (f := 4) hk dX8_teach_29 ⟨rfl, by decide, _, rfl, rfl⟩ kX8_38 ?_
  refine xcallV hk c_X4_errorPosition bX4_errorPosition kX8_108 dX8_teach_32 rfl ⟨_, _, _, _, rfl, rfl⟩ rfl (by decide) ⟨by decide, by decide⟩ (Nat.le_of_ble_eq_true rfl) (det ?_)
  refine xputI (ci := 8) (f := 10) hk dX8_teach_35 ⟨rfl, by decide, _, rfl, rfl⟩ kX8_77 ⟨rfl, by decide +kernel⟩ ?_
  refine xiload_n hk dX8_teach_38 rfl ?_
  refine xif_ne hk 46 dX8_teach_39 (by decide) (fun h39 => ?_) (fun h39 => ?_)
  · refine xiload_n hk dX8_teach_46 rfl ?_
    refine xiret hk he dX8_teach_47 ⟨by decide, by decide⟩ ?_
    exact ⟨rfl, by simp only [teachF, *, if_true, if_false]⟩
  · refine xaload_n hk dX8_teach_42 rfl ?_
    refine xcallV hk c_X8_begin bX8_begin kX8_110 dX8_teach_43 rfl ⟨_, _, _, _, rfl, rfl⟩ rfl (by decide) ⟨by decide, by decide⟩ (Nat.le_of_ble_eq_true rfl) (det ?_)
    refine xiload_n hk dX8_teach_46 rfl ?_
    refine xiret hk he dX8_teach_47 ⟨by decide, by decide⟩ ?_
    exact ⟨rfl, by simp only [teachF, *, if_true, if_false]⟩
