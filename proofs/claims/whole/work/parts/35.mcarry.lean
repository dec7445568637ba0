theorem kX10_42 : Cond.fieldLink RX10 42 "FeudBookModel" "stack" "[I" ∈ GW := gw_mem 1207 (by decide +kernel) (by decide +kernel)
theorem kX10_169 : Cond.methodLink RX10 169 yX10_taken ∈ GW := gw_mem 1758 (by decide +kernel) (by decide +kernel)
theorem bX10_taken : CBs yX10_taken cX10_taken 1 (some .int) 1 := ⟨⟨gw_mem 1760 (by decide +kernel) (by decide +kernel), gw_mem 14 (by decide +kernel) (by decide +kernel), by decide +kernel, by decide⟩, gw_mem 1759 (by decide +kernel) (by decide +kernel)⟩
theorem kX10_175 : Cond.methodLink RX10 175 yX10_both ∈ GW := gw_mem 1769 (by decide +kernel) (by decide +kernel)
theorem bX10_both : CBs yX10_both cX10_both 3 (some .int) 3 := ⟨⟨gw_mem 1771 (by decide +kernel) (by decide +kernel), gw_mem 14 (by decide +kernel) (by decide +kernel), by decide +kernel, by decide⟩, gw_mem 1770 (by decide +kernel) (by decide +kernel)⟩
theorem kX10_172 : Cond.methodLink RX10 172 yX10_pushed ∈ GW := gw_mem 1761 (by decide +kernel) (by decide +kernel)
theorem bX10_pushed : CBv yX10_pushed cX10_pushed 3 (some .int) 2 := ⟨⟨gw_mem 1764 (by decide +kernel) (by decide +kernel), gw_mem 14 (by decide +kernel) (by decide +kernel), by decide +kernel, by decide⟩, gw_mem 1763 (by decide +kernel) (by decide +kernel), gw_sel 110 (by decide +kernel) (by decide +kernel)⟩
theorem kX10_140 : Cond.fieldLinkNest RX10 140 "FeudBookModel$Plan" "test" "[I" "FeudBookModel" ∈ NW := nw_mem 1151 (by decide +kernel) rfl
theorem kX10_143 : Cond.fieldLinkNest RX10 143 "FeudBookModel$Plan" "testEnd" "[I" "FeudBookModel" ∈ NW := nw_mem 1153 (by decide +kernel) rfl
theorem kX10_146 : Cond.methodLink RX10 146 yX10_carryOut ∈ GW := gw_mem 1754 (by decide +kernel) (by decide +kernel)
theorem bX10_carryOut : CBv yX10_carryOut cX10_carryOut 7 (some .int) 2 := ⟨⟨gw_mem 1757 (by decide +kernel) (by decide +kernel), gw_mem 14 (by decide +kernel) (by decide +kernel), by decide +kernel, by decide⟩, gw_mem 1756 (by decide +kernel) (by decide +kernel), gw_sel 109 (by decide +kernel) (by decide +kernel)⟩
theorem kX10_134 : Cond.fieldLinkNest RX10 134 "FeudBookModel$Plan" "what" "[I" "FeudBookModel" ∈ NW := nw_mem 1149 (by decide +kernel) rfl
theorem kX10_137 : Cond.fieldLinkNest RX10 137 "FeudBookModel$Plan" "does" "[I" "FeudBookModel" ∈ NW := nw_mem 1147 (by decide +kernel) rfl
set_option maxHeartbeats 4000000 in
set_option maxRecDepth 100000 in
theorem c_X10_carryOut {g : Gx} {a : Nat → Nat} {x : XS} {b e : Int32} {f : Nat} {y : XS} (hM : MOK x) (hc : coL e f b (-1) x = some y) : Mx g yX10_carryOut cX10_carryOut 7 (some .int) 8 0 0 LM a x [.ref (a 0), .int b, .int e] (pr (some (.int (y.1 7 0))) y) := by
  refine Mx_of (by decide +kernel) (Nat.le_of_ble_eq_true rfl) ?_
  intro k hk he hg
  subst hg

  have loop : ∀ (f : Nat) (nx tp : Int32) (z : XS), MOK z → coL e f nx tp z = some y → Wx k 0 0 LM a z 5 [(0, .ref (a 0)), (1, .int b), (2, .int e), (3, .int tp), (4, .int nx)] [] := by
    intro f
    induction f with
    | zero => intro nx tp z hM hc; exact absurd hc (by simp [coL])
    | succ f ih =>
      intro nx tp z hM hc
      rw [coL] at hc
      refine xiload hk dX10_carryOut_5 rfl ?_
      refine xiload_n hk dX10_carryOut_7 rfl ?_
      refine xicmp_ge hk 144 dX10_carryOut_8 (by decide) (fun h8 => ?_) (fun h8 => ?_)
      · rw [if_pos h8] at hc
        obtain rfl := Option.some.inj hc
        refine xaload_n hk dX10_carryOut_144 rfl ?_
        refine xgetR (ci := 10) (f := 16) hk dX10_carryOut_145 ⟨rfl, by decide, _, rfl, rfl⟩ kX10_42 ?_
        refine xiconst (v := 0) hk dX10_carryOut_148 (by decide) ?_
        refine xiald hk dX10_carryOut_149 rfl (show vp_in (nI 0) 400 from vp_in_nI (by decide) (by decide)) ?_
        refine xiret hk he dX10_carryOut_150 ⟨by decide, by decide⟩ ?_
        exact ⟨rfl, rfl⟩
      · rw [if_neg h8] at hc
        split at hc
        rotate_left
        · exact absurd hc (by simp)
        rename_i hin
        refine xaload_n hk dX10_carryOut_11 rfl ?_
        refine xgetR (ci := 10) (f := 11) hk dX10_carryOut_12 ⟨rfl, by decide, _, rfl, rfl⟩ kX10_35 ?_
        refine xgetNR (ci := 9) (f := 11) hk dX10_carryOut_15 ⟨rfl, by decide, _, rfl, rfl⟩ kX10_166 ?_
        refine xiload hk dX10_carryOut_18 rfl ?_
        refine xiald hk dX10_carryOut_20 rfl (inB_v hin) ?_
        refine xistore hk dX10_carryOut_21 (by decide) ?_
        refine xiinc hk dX10_carryOut_23 rfl (by decide) rfl ?_
        refine xiload hk dX10_carryOut_26 rfl ?_
        refine xcallS hk c_X10_taken bX10_taken kX10_169 dX10_carryOut_28 rfl rfl (by decide) ⟨by decide, by decide⟩ (Nat.le_of_ble_eq_true rfl) (det ?_)
        refine xistore hk dX10_carryOut_31 (by decide) ?_
        refine xiload hk dX10_carryOut_33 rfl ?_
        refine xif_lt hk 65 dX10_carryOut_35 (by decide) (fun h35 => ?_) (fun h35 => ?_)
        · rw [if_pos h35] at hc
          refine xiload hk dX10_carryOut_65 rfl ?_
          refine xbipush (v := 33) hk dX10_carryOut_67 (by decide) ?_
          refine xicmp_eq hk 79 dX10_carryOut_69 (by decide) (fun h69 => ?_) (fun h69 => ?_)
          · by_cases hm : z.1 19 nx.toNatClampNeg = 33
            · rw [if_pos hm] at hc
              split at hc
              rotate_left
              · exact absurd hc (by simp)
              rename_i ht
              refine xaload_n hk dX10_carryOut_79 rfl ?_
              refine xgetR (ci := 10) (f := 16) hk dX10_carryOut_80 ⟨rfl, by decide, _, rfl, rfl⟩ kX10_42 ?_
              refine xiload_n hk dX10_carryOut_83 rfl ?_
              refine xiload hk dX10_carryOut_84 rfl ?_
              refine xbipush (v := 33) hk dX10_carryOut_86 (by decide) ?_
              refine xicmp_ne hk 101 dX10_carryOut_88 (by decide) (fun h88 => ?_) (fun h88 => ?_)
              · exact absurd hm h88
              · refine xaload_n hk dX10_carryOut_91 rfl ?_
                refine xgetR (ci := 10) (f := 16) hk dX10_carryOut_92 ⟨rfl, by decide, _, rfl, rfl⟩ kX10_42 ?_
                refine xiload_n hk dX10_carryOut_95 rfl ?_
                refine xiald hk dX10_carryOut_96 rfl (inB_v ht) ?_
                refine xineg hk dX10_carryOut_97 ?_
                refine xgoto hk 109 dX10_carryOut_98 (by decide) ?_
                refine xiast hk dX10_carryOut_109 rfl (inB_v ht) ?_
                refine xgoto hk 141 dX10_carryOut_110 (by decide) ?_
                refine xgoto hk 5 dX10_carryOut_141 (by decide) ?_
                refine xsub [(0, _), (1, _), (2, _), (3, _), (4, _)] rfl ?_
                first | exact ih _ _ _ (setI_MOK (by decide) (push_MOK hu hM)) hc | exact ih _ _ _ (setI_MOK (by decide) hM) hc
            · have hm2 : z.1 19 nx.toNatClampNeg = 23 := by first | exact absurd h69 hm | exact h76
              rw [if_neg hm, if_pos hm2] at hc
              split at hc
              rotate_left
              · exact absurd hc (by simp)
              rename_i ht
              refine xaload_n hk dX10_carryOut_79 rfl ?_
              refine xgetR (ci := 10) (f := 16) hk dX10_carryOut_80 ⟨rfl, by decide, _, rfl, rfl⟩ kX10_42 ?_
              refine xiload_n hk dX10_carryOut_83 rfl ?_
              refine xiload hk dX10_carryOut_84 rfl ?_
              refine xbipush (v := 33) hk dX10_carryOut_86 (by decide) ?_
              refine xicmp_ne hk 101 dX10_carryOut_88 (by decide) (fun h88 => ?_) (fun h88 => ?_)
              · refine xiconst (v := 1) hk dX10_carryOut_101 (by decide) ?_
                refine xaload_n hk dX10_carryOut_102 rfl ?_
                refine xgetR (ci := 10) (f := 16) hk dX10_carryOut_103 ⟨rfl, by decide, _, rfl, rfl⟩ kX10_42 ?_
                refine xiload_n hk dX10_carryOut_106 rfl ?_
                refine xiald hk dX10_carryOut_107 rfl (inB_v ht) ?_
                refine xisub hk dX10_carryOut_108 ?_
                refine xiast hk dX10_carryOut_109 rfl (inB_v ht) ?_
                refine xgoto hk 141 dX10_carryOut_110 (by decide) ?_
                refine xgoto hk 5 dX10_carryOut_141 (by decide) ?_
                refine xsub [(0, _), (1, _), (2, _), (3, _), (4, _)] rfl ?_
                first | exact ih _ _ _ (setI_MOK (by decide) (push_MOK hu hM)) hc | exact ih _ _ _ (setI_MOK (by decide) hM) hc
              · exact absurd h88 hm
          · refine xiload hk dX10_carryOut_72 rfl ?_
            refine xbipush (v := 23) hk dX10_carryOut_74 (by decide) ?_
            refine xicmp_ne hk 113 dX10_carryOut_76 (by decide) (fun h76 => ?_) (fun h76 => ?_)
            · rw [if_neg h69, if_neg h76] at hc
              split at hc
              rotate_left
              · exact absurd hc (by simp)
              rename_i ht
              split at hc
              rotate_left
              · exact absurd hc (by simp)
              rename_i ht2
              refine xiinc hk dX10_carryOut_113 rfl (by decide) rfl ?_
              refine xaload_n hk dX10_carryOut_116 rfl ?_
              refine xgetR (ci := 10) (f := 16) hk dX10_carryOut_117 ⟨rfl, by decide, _, rfl, rfl⟩ kX10_42 ?_
              refine xiload_n hk dX10_carryOut_120 rfl ?_
              refine xiload hk dX10_carryOut_121 rfl ?_
              refine xaload_n hk dX10_carryOut_123 rfl ?_
              refine xgetR (ci := 10) (f := 16) hk dX10_carryOut_124 ⟨rfl, by decide, _, rfl, rfl⟩ kX10_42 ?_
              refine xiload_n hk dX10_carryOut_127 rfl ?_
              refine xiald hk dX10_carryOut_128 rfl (inB_v ht) ?_
              refine xaload_n hk dX10_carryOut_129 rfl ?_
              refine xgetR (ci := 10) (f := 16) hk dX10_carryOut_130 ⟨rfl, by decide, _, rfl, rfl⟩ kX10_42 ?_
              refine xiload_n hk dX10_carryOut_133 rfl ?_
              refine xiconst (v := 1) hk dX10_carryOut_134 (by decide) ?_
              refine xiadd hk dX10_carryOut_135 ?_
              refine xiald hk dX10_carryOut_136 rfl (inB_v ht2) ?_
              refine xcallS hk c_X10_both bX10_both kX10_175 dX10_carryOut_137 rfl rfl (by decide) ⟨by decide, by decide⟩ (Nat.le_of_ble_eq_true rfl) (det ?_)
              refine xiast hk dX10_carryOut_140 rfl (inB_v ht) ?_
              refine xgoto hk 5 dX10_carryOut_141 (by decide) ?_
              refine xsub [(0, _), (1, _), (2, _), (3, _), (4, _)] rfl ?_
              first | exact ih _ _ _ (setI_MOK (by decide) (push_MOK hu hM)) hc | exact ih _ _ _ (setI_MOK (by decide) hM) hc
            · by_cases hm : z.1 19 nx.toNatClampNeg = 33
              · rw [if_pos hm] at hc
                split at hc
                rotate_left
                · exact absurd hc (by simp)
                rename_i ht
                refine xaload_n hk dX10_carryOut_79 rfl ?_
                refine xgetR (ci := 10) (f := 16) hk dX10_carryOut_80 ⟨rfl, by decide, _, rfl, rfl⟩ kX10_42 ?_
                refine xiload_n hk dX10_carryOut_83 rfl ?_
                refine xiload hk dX10_carryOut_84 rfl ?_
                refine xbipush (v := 33) hk dX10_carryOut_86 (by decide) ?_
                refine xicmp_ne hk 101 dX10_carryOut_88 (by decide) (fun h88 => ?_) (fun h88 => ?_)
                · exact absurd hm h88
                · refine xaload_n hk dX10_carryOut_91 rfl ?_
                  refine xgetR (ci := 10) (f := 16) hk dX10_carryOut_92 ⟨rfl, by decide, _, rfl, rfl⟩ kX10_42 ?_
                  refine xiload_n hk dX10_carryOut_95 rfl ?_
                  refine xiald hk dX10_carryOut_96 rfl (inB_v ht) ?_
                  refine xineg hk dX10_carryOut_97 ?_
                  refine xgoto hk 109 dX10_carryOut_98 (by decide) ?_
                  refine xiast hk dX10_carryOut_109 rfl (inB_v ht) ?_
                  refine xgoto hk 141 dX10_carryOut_110 (by decide) ?_
                  refine xgoto hk 5 dX10_carryOut_141 (by decide) ?_
                  refine xsub [(0, _), (1, _), (2, _), (3, _), (4, _)] rfl ?_
                  first | exact ih _ _ _ (setI_MOK (by decide) (push_MOK hu hM)) hc | exact ih _ _ _ (setI_MOK (by decide) hM) hc
              · have hm2 : z.1 19 nx.toNatClampNeg = 23 := by first | exact absurd h69 hm | exact h76
                rw [if_neg hm, if_pos hm2] at hc
                split at hc
                rotate_left
                · exact absurd hc (by simp)
                rename_i ht
                refine xaload_n hk dX10_carryOut_79 rfl ?_
                refine xgetR (ci := 10) (f := 16) hk dX10_carryOut_80 ⟨rfl, by decide, _, rfl, rfl⟩ kX10_42 ?_
                refine xiload_n hk dX10_carryOut_83 rfl ?_
                refine xiload hk dX10_carryOut_84 rfl ?_
                refine xbipush (v := 33) hk dX10_carryOut_86 (by decide) ?_
                refine xicmp_ne hk 101 dX10_carryOut_88 (by decide) (fun h88 => ?_) (fun h88 => ?_)
                · refine xiconst (v := 1) hk dX10_carryOut_101 (by decide) ?_
                  refine xaload_n hk dX10_carryOut_102 rfl ?_
                  refine xgetR (ci := 10) (f := 16) hk dX10_carryOut_103 ⟨rfl, by decide, _, rfl, rfl⟩ kX10_42 ?_
                  refine xiload_n hk dX10_carryOut_106 rfl ?_
                  refine xiald hk dX10_carryOut_107 rfl (inB_v ht) ?_
                  refine xisub hk dX10_carryOut_108 ?_
                  refine xiast hk dX10_carryOut_109 rfl (inB_v ht) ?_
                  refine xgoto hk 141 dX10_carryOut_110 (by decide) ?_
                  refine xgoto hk 5 dX10_carryOut_141 (by decide) ?_
                  refine xsub [(0, _), (1, _), (2, _), (3, _), (4, _)] rfl ?_
                  first | exact ih _ _ _ (setI_MOK (by decide) (push_MOK hu hM)) hc | exact ih _ _ _ (setI_MOK (by decide) hM) hc
                · exact absurd h88 hm
        · rw [if_neg h35] at hc
          split at hc
          rotate_left
          · exact absurd hc (by simp)
          rename_i ht
          split at hc
          · exact absurd hc (by simp)
          rename_i _ u hu
          refine xiinc hk dX10_carryOut_38 rfl (by decide) rfl ?_
          refine xaload_n hk dX10_carryOut_41 rfl ?_
          refine xgetR (ci := 10) (f := 16) hk dX10_carryOut_42 ⟨rfl, by decide, _, rfl, rfl⟩ kX10_42 ?_
          refine xiload_n hk dX10_carryOut_45 rfl ?_
          refine xaload_n hk dX10_carryOut_46 rfl ?_
          refine xiload hk dX10_carryOut_47 rfl ?_
          refine xiload hk dX10_carryOut_49 rfl ?_
          refine xcallV hk (c_X10_pushed hM hu) bX10_pushed kX10_172 dX10_carryOut_51 rfl ⟨_, _, _, _, rfl, rfl⟩ rfl (by decide) ⟨by decide, by decide⟩ (Nat.le_of_ble_eq_true rfl) (det ?_)
          refine xiast hk dX10_carryOut_54 rfl (inB_v ht) ?_
          refine xiload hk dX10_carryOut_55 rfl ?_
          refine xiload hk dX10_carryOut_57 rfl ?_
          refine xiadd hk dX10_carryOut_59 ?_
          refine xistore hk dX10_carryOut_60 (by decide) ?_
          refine xgoto hk 141 dX10_carryOut_62 (by decide) ?_
          refine xgoto hk 5 dX10_carryOut_141 (by decide) ?_
          refine xsub [(0, _), (1, _), (2, _), (3, _), (4, _)] rfl ?_
          first | exact ih _ _ _ (setI_MOK (by decide) (push_MOK hu hM)) hc | exact ih _ _ _ (setI_MOK (by decide) hM) hc
  refine xiconst (v := (-1)) hk dX10_carryOut_0 (by decide) ?_
  refine xistore_n hk dX10_carryOut_1 (by decide) ?_
  refine xiload_n hk dX10_carryOut_2 rfl ?_
  refine xistore hk dX10_carryOut_3 (by decide) ?_
  exact loop f _ _ _ hM hc
/-- whether an order is due; none where its code does not go through -/
def mdueO (j : Int32) (x : XS) : Option (Bool × XS) := if inB j 17 then (if x.1 17 j.toNatClampNeg = x.1 18 j.toNatClampNeg then some (true, x) else
  match coL (x.1 18 j.toNatClampNeg) 801 (x.1 17 j.toNatClampNeg) (-1) x with
  | none => none
  | some y => some (decide (y.1 7 0 = 1), y)) else none
def mordF (j : Int32) (x : XS) : Bool × XS :=
  let y := setI x 0 15 (if x.1 15 j.toNatClampNeg = 12 then x.1 0 15 &&& (((1 : Int32) <<< (x.1 16 j.toNatClampNeg &&& 31)) ^^^ (-1)) else x.1 0 15 ||| ((1 : Int32) <<< (x.1 16 j.toNatClampNeg &&& 31)))
  (decide (¬ y.1 0 15 = x.1 0 15), y)
set_option maxHeartbeats 4000000 in
set_option maxRecDepth 100000 in
theorem c_X10_isDue {g : Gx} {a : Nat → Nat} {x : XS} {j : Int32} {u : Bool × XS} (hM : MOK x) (hd : mdueO j x = some u) : Mx g yX10_isDue cX10_isDue 2 (some .boolean) 9 0 0 LM a x [.ref (a 0), .int j] (pr (some (.int (b2i u.1))) u.2) := by
  refine Mx_of (by decide +kernel) (Nat.le_of_ble_eq_true rfl) ?_
  intro k hk he hg
  subst hg

  rw [mdueO] at hd
  split at hd
  rotate_left
  · exact absurd hd (by simp)
  rename_i hj
  refine xaload_n hk dX10_isDue_0 rfl ?_
  refine xgetR (ci := 10) (f := 11) hk dX10_isDue_1 ⟨rfl, by decide, _, rfl, rfl⟩ kX10_35 ?_
  refine xgetNR (ci := 9) (f := 9) hk dX10_isDue_4 ⟨rfl, by decide, _, rfl, rfl⟩ kX10_140 ?_
  refine xiload_n hk dX10_isDue_7 rfl ?_
  refine xiald hk dX10_isDue_8 rfl (inB_v hj) ?_
  refine xaload_n hk dX10_isDue_9 rfl ?_
  refine xgetR (ci := 10) (f := 11) hk dX10_isDue_10 ⟨rfl, by decide, _, rfl, rfl⟩ kX10_35 ?_
  refine xgetNR (ci := 9) (f := 10) hk dX10_isDue_13 ⟨rfl, by decide, _, rfl, rfl⟩ kX10_143 ?_
  refine xiload_n hk dX10_isDue_16 rfl ?_
  refine xiald hk dX10_isDue_17 rfl (inB_v hj) ?_
  refine xicmp_eq hk 47 dX10_isDue_18 (by decide) (fun h18 => ?_) (fun h18 => ?_)
  · rw [if_pos h18] at hd
    obtain rfl := Option.some.inj hd
    refine xiconst (v := 1) hk dX10_isDue_47 (by decide) ?_
    refine xgoto hk 52 dX10_isDue_48 (by decide) ?_
    refine xzret hk he dX10_isDue_52 ⟨by decide, by decide⟩ (by first | with_reducible exact nar_b _ | rfl) ?_
    exact ⟨by first | (simp only [h44]; rfl) | rfl, rfl⟩
  · rw [if_neg h18] at hd
    split at hd
    · exact absurd hd (by simp)
    rename_i _ y hc
    obtain rfl := Option.some.inj hd
    refine xaload_n hk dX10_isDue_21 rfl ?_
    refine xaload_n hk dX10_isDue_22 rfl ?_
    refine xgetR (ci := 10) (f := 11) hk dX10_isDue_23 ⟨rfl, by decide, _, rfl, rfl⟩ kX10_35 ?_
    refine xgetNR (ci := 9) (f := 9) hk dX10_isDue_26 ⟨rfl, by decide, _, rfl, rfl⟩ kX10_140 ?_
    refine xiload_n hk dX10_isDue_29 rfl ?_
    refine xiald hk dX10_isDue_30 rfl (inB_v hj) ?_
    refine xaload_n hk dX10_isDue_31 rfl ?_
    refine xgetR (ci := 10) (f := 11) hk dX10_isDue_32 ⟨rfl, by decide, _, rfl, rfl⟩ kX10_35 ?_
    refine xgetNR (ci := 9) (f := 10) hk dX10_isDue_35 ⟨rfl, by decide, _, rfl, rfl⟩ kX10_143 ?_
    refine xiload_n hk dX10_isDue_38 rfl ?_
    refine xiald hk dX10_isDue_39 rfl (inB_v hj) ?_
    refine xcallV hk (c_X10_carryOut hM hc) bX10_carryOut kX10_146 dX10_isDue_40 rfl ⟨_, _, _, _, rfl, rfl⟩ rfl (by decide) ⟨by decide, by decide⟩ (Nat.le_of_ble_eq_true rfl) (det ?_)
    refine xiconst (v := 1) hk dX10_isDue_43 (by decide) ?_
    refine xicmp_ne hk 51 dX10_isDue_44 (by decide) (fun h44 => ?_) (fun h44 => ?_)
    · refine xiconst (v := 0) hk dX10_isDue_51 (by decide) ?_
      refine xzret hk he dX10_isDue_52 ⟨by decide, by decide⟩ (by first | with_reducible exact nar_b _ | rfl) ?_
      exact ⟨by first | (simp only [h44]; rfl) | rfl, rfl⟩
    · refine xiconst (v := 1) hk dX10_isDue_47 (by decide) ?_
      refine xgoto hk 52 dX10_isDue_48 (by decide) ?_
      refine xzret hk he dX10_isDue_52 ⟨by decide, by decide⟩ (by first | with_reducible exact nar_b _ | rfl) ?_
      exact ⟨by first | (simp only [h44]; rfl) | rfl, rfl⟩
set_option maxHeartbeats 4000000 in
set_option maxRecDepth 100000 in
theorem c_X10_order {g : Gx} {a : Nat → Nat} {x : XS} {j : Int32} (hj : inB j 16 = true) : Mx g yX10_order cX10_order 4 (some .boolean) 1 0 0 LM a x [.ref (a 0), .int j] (pr (some (.int (b2i (mordF j x).1))) (mordF j x).2) := by
  refine Mx_of (by decide +kernel) (Nat.le_of_ble_eq_true rfl) ?_
  intro k hk he hg
  subst hg

  refine xaload_n hk dX10_order_0 rfl ?_
  refine xgetI (ci := 10) (f := 15) hk dX10_order_1 ⟨rfl, by decide, _, rfl, rfl⟩ kX10_115 ?_
  refine xistore_n hk dX10_order_4 (by decide) ?_
  refine xiconst (v := 1) hk dX10_order_5 (by decide) ?_
  refine xaload_n hk dX10_order_6 rfl ?_
  refine xgetR (ci := 10) (f := 11) hk dX10_order_7 ⟨rfl, by decide, _, rfl, rfl⟩ kX10_35 ?_
  refine xgetNR (ci := 9) (f := 8) hk dX10_order_10 ⟨rfl, by decide, _, rfl, rfl⟩ kX10_134 ?_
  refine xiload_n hk dX10_order_13 rfl ?_
  refine xiald hk dX10_order_14 rfl (inB_v hj) ?_
  refine xishl hk dX10_order_15 ?_
  refine xistore_n hk dX10_order_16 (by decide) ?_
  refine xaload_n hk dX10_order_17 rfl ?_
  refine xaload_n hk dX10_order_18 rfl ?_
  refine xgetR (ci := 10) (f := 11) hk dX10_order_19 ⟨rfl, by decide, _, rfl, rfl⟩ kX10_35 ?_
  refine xgetNR (ci := 9) (f := 7) hk dX10_order_22 ⟨rfl, by decide, _, rfl, rfl⟩ kX10_137 ?_
  refine xiload_n hk dX10_order_25 rfl ?_
  refine xiald hk dX10_order_26 rfl (inB_v hj) ?_
  refine xbipush (v := 12) hk dX10_order_27 (by decide) ?_
  refine xicmp_ne hk 43 dX10_order_29 (by decide) (fun h29 => ?_) (fun h29 => ?_)
  · refine xaload_n hk dX10_order_43 rfl ?_
    refine xgetI (ci := 10) (f := 15) hk dX10_order_44 ⟨rfl, by decide, _, rfl, rfl⟩ kX10_115 ?_
    refine xiload_n hk dX10_order_47 rfl ?_
    refine xior hk dX10_order_48 ?_
    refine xputI (ci := 10) (f := 15) hk dX10_order_49 ⟨rfl, by decide, _, rfl, rfl⟩ kX10_115 ⟨rfl, by decide +kernel⟩ ?_
    refine xaload_n hk dX10_order_52 rfl ?_
    refine xgetI (ci := 10) (f := 15) hk dX10_order_53 ⟨rfl, by decide, _, rfl, rfl⟩ kX10_115 ?_
    refine xiload_n hk dX10_order_56 rfl ?_
    refine xicmp_eq hk 64 dX10_order_57 (by decide) (fun h57 => ?_) (fun h57 => ?_)
    · refine xiconst (v := 0) hk dX10_order_64 (by decide) ?_
      refine xzret hk he dX10_order_65 ⟨by decide, by decide⟩ (by first | with_reducible exact nar_b _ | rfl) ?_
      exact ⟨by first | (simp only [mordF, h29, if_true, if_false]; rw [decide_eq_false (fun z => z h57)]; rfl) | (simp only [mordF, h29, if_true, if_false]; rw [decide_eq_true h57]; rfl), by simp only [mordF, h29, if_true, if_false]⟩
    · refine xiconst (v := 1) hk dX10_order_60 (by decide) ?_
      refine xgoto hk 65 dX10_order_61 (by decide) ?_
      refine xzret hk he dX10_order_65 ⟨by decide, by decide⟩ (by first | with_reducible exact nar_b _ | rfl) ?_
      exact ⟨by first | (simp only [mordF, h29, if_true, if_false]; rw [decide_eq_false (fun z => z h57)]; rfl) | (simp only [mordF, h29, if_true, if_false]; rw [decide_eq_true h57]; rfl), by simp only [mordF, h29, if_true, if_false]⟩
  · refine xaload_n hk dX10_order_32 rfl ?_
    refine xgetI (ci := 10) (f := 15) hk dX10_order_33 ⟨rfl, by decide, _, rfl, rfl⟩ kX10_115 ?_
    refine xiload_n hk dX10_order_36 rfl ?_
    refine xiconst (v := (-1)) hk dX10_order_37 (by decide) ?_
    refine xixor hk dX10_order_38 ?_
    refine xiand hk dX10_order_39 ?_
    refine xgoto hk 49 dX10_order_40 (by decide) ?_
    refine xputI (ci := 10) (f := 15) hk dX10_order_49 ⟨rfl, by decide, _, rfl, rfl⟩ kX10_115 ⟨rfl, by decide +kernel⟩ ?_
    refine xaload_n hk dX10_order_52 rfl ?_
    refine xgetI (ci := 10) (f := 15) hk dX10_order_53 ⟨rfl, by decide, _, rfl, rfl⟩ kX10_115 ?_
    refine xiload_n hk dX10_order_56 rfl ?_
    refine xicmp_eq hk 64 dX10_order_57 (by decide) (fun h57 => ?_) (fun h57 => ?_)
    · refine xiconst (v := 0) hk dX10_order_64 (by decide) ?_
      refine xzret hk he dX10_order_65 ⟨by decide, by decide⟩ (by first | with_reducible exact nar_b _ | rfl) ?_
      exact ⟨by first | (simp only [mordF, h29, if_true, if_false]; rw [decide_eq_false (fun z => z h57)]; rfl) | (simp only [mordF, h29, if_true, if_false]; rw [decide_eq_true h57]; rfl), by simp only [mordF, h29, if_true, if_false]⟩
    · refine xiconst (v := 1) hk dX10_order_60 (by decide) ?_
      refine xgoto hk 65 dX10_order_61 (by decide) ?_
      refine xzret hk he dX10_order_65 ⟨by decide, by decide⟩ (by first | with_reducible exact nar_b _ | rfl) ?_
      exact ⟨by first | (simp only [mordF, h29, if_true, if_false]; rw [decide_eq_false (fun z => z h57)]; rfl) | (simp only [mordF, h29, if_true, if_false]; rw [decide_eq_true h57]; rfl), by simp only [mordF, h29, if_true, if_false]⟩
