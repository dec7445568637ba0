theorem kX2_117 : Cond.methodLink RX2 117 Lib.Math.min.name ∈ GW := gw_mem 773 (by decide +kernel) (by decide +kernel)
theorem kX2_122 : Cond.methodLink RX2 122 Lib.Math.max.name ∈ GW := gw_mem 774 (by decide +kernel) (by decide +kernel)
theorem kX2_125 : Cond.methodLink RX2 125 yX2_compare ∈ GW := gw_mem 777 (by decide +kernel) (by decide +kernel)
theorem bX2_compare : CBs yX2_compare cX2_compare 3 (some .boolean) 3 := ⟨⟨gw_mem 779 (by decide +kernel) (by decide +kernel), gw_mem 20 (by decide +kernel) (by decide +kernel), by decide +kernel, by decide⟩, gw_mem 778 (by decide +kernel) (by decide +kernel)⟩
theorem kX2_77 : Cond.methodLink RX2 77 yX2_push ∈ GW := gw_mem 752 (by decide +kernel) (by decide +kernel)
theorem bX2_push : CBv yX2_push cX2_push 2 none 1 := ⟨⟨gw_mem 755 (by decide +kernel) (by decide +kernel), gw_mem 20 (by decide +kernel) (by decide +kernel), by decide +kernel, by decide⟩, gw_mem 754 (by decide +kernel) (by decide +kernel), gw_sel 17 (by decide +kernel) (by decide +kernel)⟩
theorem kX2_67 : Cond.methodLink RX2 67 yX2_pop ∈ GW := gw_mem 766 (by decide +kernel) (by decide +kernel)
theorem bX2_pop : CBv yX2_pop cX2_pop 1 (some .int) 0 := ⟨⟨gw_mem 769 (by decide +kernel) (by decide +kernel), gw_mem 20 (by decide +kernel) (by decide +kernel), by decide +kernel, by decide⟩, gw_mem 768 (by decide +kernel) (by decide +kernel), gw_sel 18 (by decide +kernel) (by decide +kernel)⟩
theorem kX2_51 : Cond.fieldLinkNest RX2 51 "FeudBook$Course" "day" "I" "FeudBook" ∈ NW := nw_mem 318 (by decide +kernel) rfl
theorem kX2_81 : Cond.fieldLinkNest RX2 81 "FeudBook$Course" "standing" "I" "FeudBook" ∈ NW := nw_mem 321 (by decide +kernel) rfl
theorem kX2_84 : Cond.methodLink RX2 84 yJ6_bitCount_0f7a4 ∈ GW := gw_mem 756 (by decide +kernel) (by decide +kernel)
theorem bJ6_bitCount_0f7a4 : CBs yJ6_bitCount_0f7a4 cJ6_bitCount_0f7a4 1 (some .int) 1 := ⟨⟨gw_mem 388 (by decide +kernel) (by decide +kernel), gw_mem 12 (by decide +kernel) (by decide +kernel), by decide +kernel, by decide⟩, gw_mem 387 (by decide +kernel) (by decide +kernel)⟩
theorem kX2_19 : Cond.fieldLink RX2 19 "FeudBook$Judge" "web" "LFeudBook$Web;" ∈ GW := gw_mem 296 (by decide +kernel) (by decide +kernel)
theorem kX2_89 : Cond.methodLink RX2 89 yX7_countParts ∈ GW := gw_mem 757 (by decide +kernel) (by decide +kernel)
theorem bX7_countParts : CBv yX7_countParts cX7_countParts 2 (some .int) 1 := ⟨⟨gw_mem 619 (by decide +kernel) (by decide +kernel), gw_mem 18 (by decide +kernel) (by decide +kernel), by decide +kernel, by decide⟩, gw_mem 617 (by decide +kernel) (by decide +kernel), gw_mem 618 (by decide +kernel) (by decide +kernel)⟩
theorem kX2_23 : Cond.fieldLink RX2 23 "FeudBook$Judge" "land" "LFeudBook$Peaces;" ∈ GW := gw_mem 297 (by decide +kernel) (by decide +kernel)
theorem kX2_94 : Cond.methodLink RX2 94 yX3_count ∈ GW := gw_mem 758 (by decide +kernel) (by decide +kernel)
theorem bX3_count : CBv yX3_count cX3_count 2 (some .int) 1 := ⟨⟨gw_mem 524 (by decide +kernel) (by decide +kernel), gw_mem 19 (by decide +kernel) (by decide +kernel), by decide +kernel, by decide⟩, gw_mem 522 (by decide +kernel) (by decide +kernel), gw_mem 523 (by decide +kernel) (by decide +kernel)⟩
theorem kX2_99 : Cond.methodLink RX2 99 yX3_countWith ∈ GW := gw_mem 759 (by decide +kernel) (by decide +kernel)
theorem bX3_countWith : CBv yX3_countWith cX3_countWith 5 (some .int) 2 := ⟨⟨gw_mem 648 (by decide +kernel) (by decide +kernel), gw_mem 19 (by decide +kernel) (by decide +kernel), by decide +kernel, by decide⟩, gw_mem 646 (by decide +kernel) (by decide +kernel), gw_mem 647 (by decide +kernel) (by decide +kernel)⟩
theorem kX2_103 : Cond.methodLinkNest RX2 103 yX8_has "FeudBook" ∈ NW := nw_mem 760 (by decide +kernel) rfl
theorem kX2_15 : Cond.fieldLink RX2 15 "FeudBook$Judge" "book" "LFeudBook$Book;" ∈ GW := gw_mem 295 (by decide +kernel) (by decide +kernel)
theorem kX2_107 : Cond.methodLink RX2 107 yX0_secondNumber ∈ GW := gw_mem 761 (by decide +kernel) (by decide +kernel)
theorem bX0_secondNumber : CBv yX0_secondNumber cX0_secondNumber 2 (some .int) 1 := ⟨⟨gw_mem 764 (by decide +kernel) (by decide +kernel), gw_mem 16 (by decide +kernel) (by decide +kernel), by decide +kernel, by decide⟩, gw_mem 762 (by decide +kernel) (by decide +kernel), gw_mem 763 (by decide +kernel) (by decide +kernel)⟩
theorem kX2_110 : Cond.methodLink RX2 110 yX7_reach ∈ GW := gw_mem 765 (by decide +kernel) (by decide +kernel)
theorem bX7_reach : CBv yX7_reach cX7_reach 3 (some .int) 2 := ⟨⟨gw_mem 560 (by decide +kernel) (by decide +kernel), gw_mem 18 (by decide +kernel) (by decide +kernel), by decide +kernel, by decide⟩, gw_mem 558 (by decide +kernel) (by decide +kernel), gw_mem 559 (by decide +kernel) (by decide +kernel)⟩
theorem kX2_113 : Cond.methodLink RX2 113 yX2_combine ∈ GW := gw_mem 770 (by decide +kernel) (by decide +kernel)
theorem bX2_combine : CBs yX2_combine cX2_combine 3 (some .int) 3 := ⟨⟨gw_mem 772 (by decide +kernel) (by decide +kernel), gw_mem 20 (by decide +kernel) (by decide +kernel), by decide +kernel, by decide⟩, gw_mem 771 (by decide +kernel) (by decide +kernel)⟩
theorem kX2_71 : Cond.methodLink RX2 71 yX0_operation ∈ GW := gw_mem 744 (by decide +kernel) (by decide +kernel)
theorem bX0_operation : CBv yX0_operation cX0_operation 2 (some .int) 1 := ⟨⟨gw_mem 747 (by decide +kernel) (by decide +kernel), gw_mem 16 (by decide +kernel) (by decide +kernel), by decide +kernel, by decide⟩, gw_mem 745 (by decide +kernel) (by decide +kernel), gw_mem 746 (by decide +kernel) (by decide +kernel)⟩
theorem kX2_74 : Cond.methodLink RX2 74 yX0_firstNumber ∈ GW := gw_mem 748 (by decide +kernel) (by decide +kernel)
theorem bX0_firstNumber : CBv yX0_firstNumber cX0_firstNumber 2 (some .int) 1 := ⟨⟨gw_mem 751 (by decide +kernel) (by decide +kernel), gw_mem 16 (by decide +kernel) (by decide +kernel), by decide +kernel, by decide⟩, gw_mem 749 (by decide +kernel) (by decide +kernel), gw_mem 750 (by decide +kernel) (by decide +kernel)⟩
def cmpB (op l r : Int32) : Bool := if op = 60 then (if r ≤ l then false else true) else if op = 62 then (if l ≤ r then false else true) else if op = 256 then (if r < l then false else true) else if op = 257 then (if l < r then false else true) else (if l = r then true else false)
def combF (op l r : Int32) : Int32 := if op = 42 then l * r else if op = 43 then l + r else if op = 45 then l - r else if op = 47 then (if r = 0 then 0 else l / r) else if op = 306 then l ||| r else if op = 324 then l &&& r else if op = 325 then minI l r else if op = 326 then maxI l r else b2i (cmpB op l r)
/-- one place of the code is reckoned; c: the course -/
def recF (c : Nat) (pl : Int32) (x : XS) : XS :=
  let op := entI x 31 400 pl
  let f := entI x 32 400 pl
  let s := x.1 c 1
  if op = 259 then pushF x f else
  if op = 262 then pushF (popF x).2 (-(popF x).1) else
  if op = 315 then pushF x (x.1 c 0) else
  if op = 316 then pushF x (bcI s) else
  if op = 317 then pushF (webLook s x) ((webLook s x).1 37 4) else
  if op = 318 then pushF (landLook s x) (countF x s) else
  if op = 319 then pushF (landLook s x) (if countWithF x s f ≤ 0 then 0 else 1) else
  if op = 320 then pushF x (b2i (hasB s f)) else
  if op = 321 then pushF (webLook s x) (b2i (hasB (reachF x s (entI x 33 400 pl)) f)) else
  if op = 323 then pushF (popF x).2 (if (popF x).1 = 0 then 1 else 0) else
  pushF (popF (popF x).2).2 (combF op (popF (popF x).2).1 (popF x).1)
def recL (c : Nat) : Nat → Int32 → XS → XS
  | 0, _, y => y
  | n + 1, pl, y => recL c n (pl + 1) (recF c pl y)
def dueU (c : Nat) (j : Int32) (x : XS) : Bool × XS := if entI x 30 16 j ≤ entI x 29 16 j then (true, x) else
  let y := recL c ((entI x 30 16 j).toInt - (entI x 29 16 j).toInt).toNat (entI x 29 16 j) (setI x 44 4 0)
  (decide (¬ (popF y).1 = 0), (popF y).2)

set_option maxHeartbeats 4000000 in
set_option maxRecDepth 100000 in
theorem c_X2_compare {g : Gx} {a : Nat → Nat} {x : XS} {lay : List Kd} {op l r : Int32} : Mx g yX2_compare cX2_compare 3 (some .boolean) 1 0 0 lay a x [.int op, .int l, .int r] (pr (some (.int (b2i (cmpB op l r)))) x) := by
  refine Mx_of (by decide +kernel) (Nat.le_of_ble_eq_true rfl) ?_
  intro k hk he hg
  subst hg

  refine xiload_n hk dX2_compare_0 rfl ?_
  by_cases hs1_0 : op = 60
  · refine xlookup hk 44 dX2_compare_1 (by decide) (off := 43) (by rw [hs1_0]; decide +kernel) (by decide) ?_
    refine xiload_n hk dX2_compare_44 rfl ?_
    refine xiload_n hk dX2_compare_45 rfl ?_
    refine xicmp_ge hk 53 dX2_compare_46 (by decide) (fun h46 => ?_) (fun h46 => ?_)
    · refine xiconst (v := 0) hk dX2_compare_53 (by decide) ?_
      refine xzret hk he dX2_compare_54 ⟨by decide, by decide⟩ (by first | with_reducible exact nar_b _ | rfl) ?_
      exact ⟨by simp [cmpB, b2i, *], rfl⟩
    · refine xiconst (v := 1) hk dX2_compare_49 (by decide) ?_
      refine xgoto hk 54 dX2_compare_50 (by decide) ?_
      refine xzret hk he dX2_compare_54 ⟨by decide, by decide⟩ (by first | with_reducible exact nar_b _ | rfl) ?_
      exact ⟨by simp [cmpB, b2i, *], rfl⟩
  by_cases hs1_1 : op = 62
  · refine xlookup hk 55 dX2_compare_1 (by decide) (off := 54) (by rw [hs1_1]; decide +kernel) (by decide) ?_
    refine xiload_n hk dX2_compare_55 rfl ?_
    refine xiload_n hk dX2_compare_56 rfl ?_
    refine xicmp_le hk 64 dX2_compare_57 (by decide) (fun h57 => ?_) (fun h57 => ?_)
    · refine xiconst (v := 0) hk dX2_compare_64 (by decide) ?_
      refine xzret hk he dX2_compare_65 ⟨by decide, by decide⟩ (by first | with_reducible exact nar_b _ | rfl) ?_
      exact ⟨by simp [cmpB, b2i, *], rfl⟩
    · refine xiconst (v := 1) hk dX2_compare_60 (by decide) ?_
      refine xgoto hk 65 dX2_compare_61 (by decide) ?_
      refine xzret hk he dX2_compare_65 ⟨by decide, by decide⟩ (by first | with_reducible exact nar_b _ | rfl) ?_
      exact ⟨by simp [cmpB, b2i, *], rfl⟩
  by_cases hs1_2 : op = 256
  · refine xlookup hk 66 dX2_compare_1 (by decide) (off := 65) (by rw [hs1_2]; decide +kernel) (by decide) ?_
    refine xiload_n hk dX2_compare_66 rfl ?_
    refine xiload_n hk dX2_compare_67 rfl ?_
    refine xicmp_gt hk 75 dX2_compare_68 (by decide) (fun h68 => ?_) (fun h68 => ?_)
    · refine xiconst (v := 0) hk dX2_compare_75 (by decide) ?_
      refine xzret hk he dX2_compare_76 ⟨by decide, by decide⟩ (by first | with_reducible exact nar_b _ | rfl) ?_
      exact ⟨by simp [cmpB, b2i, *], rfl⟩
    · refine xiconst (v := 1) hk dX2_compare_71 (by decide) ?_
      refine xgoto hk 76 dX2_compare_72 (by decide) ?_
      refine xzret hk he dX2_compare_76 ⟨by decide, by decide⟩ (by first | with_reducible exact nar_b _ | rfl) ?_
      exact ⟨by simp [cmpB, b2i, *], rfl⟩
  by_cases hs1_3 : op = 257
  · refine xlookup hk 77 dX2_compare_1 (by decide) (off := 76) (by rw [hs1_3]; decide +kernel) (by decide) ?_
    refine xiload_n hk dX2_compare_77 rfl ?_
    refine xiload_n hk dX2_compare_78 rfl ?_
    refine xicmp_lt hk 86 dX2_compare_79 (by decide) (fun h79 => ?_) (fun h79 => ?_)
    · refine xiconst (v := 0) hk dX2_compare_86 (by decide) ?_
      refine xzret hk he dX2_compare_87 ⟨by decide, by decide⟩ (by first | with_reducible exact nar_b _ | rfl) ?_
      exact ⟨by simp [cmpB, b2i, *], rfl⟩
    · refine xiconst (v := 1) hk dX2_compare_82 (by decide) ?_
      refine xgoto hk 87 dX2_compare_83 (by decide) ?_
      refine xzret hk he dX2_compare_87 ⟨by decide, by decide⟩ (by first | with_reducible exact nar_b _ | rfl) ?_
      exact ⟨by simp [cmpB, b2i, *], rfl⟩
  refine xlookup hk 88 dX2_compare_1 (by decide) (off := 87) (by show Op.lookupswitch.offset [(60, 43), (62, 54), (256, 65), (257, 76)] 87 (Int32.toInt op) = 87; rw [lv_osw (a := 60) hs1_0 (by decide), lv_osw (a := 62) hs1_1 (by decide), lv_osw (a := 256) hs1_2 (by decide), lv_osw (a := 257) hs1_3 (by decide)]; rfl) (by decide) ?_
  refine xiload_n hk dX2_compare_88 rfl ?_
  refine xiload_n hk dX2_compare_89 rfl ?_
  refine xicmp_ne hk 97 dX2_compare_90 (by decide) (fun h90 => ?_) (fun h90 => ?_)
  · refine xiconst (v := 0) hk dX2_compare_97 (by decide) ?_
    refine xzret hk he dX2_compare_98 ⟨by decide, by decide⟩ (by first | with_reducible exact nar_b _ | rfl) ?_
    exact ⟨by simp [cmpB, b2i, *], rfl⟩
  · refine xiconst (v := 1) hk dX2_compare_93 (by decide) ?_
    refine xgoto hk 98 dX2_compare_94 (by decide) ?_
    refine xzret hk he dX2_compare_98 ⟨by decide, by decide⟩ (by first | with_reducible exact nar_b _ | rfl) ?_
    exact ⟨by simp [cmpB, b2i, *], rfl⟩
set_option maxHeartbeats 4000000 in
set_option maxRecDepth 100000 in
theorem c_X2_combine {g : Gx} {a : Nat → Nat} {x : XS} {lay : List Kd} {op l r : Int32} : Mx g yX2_combine cX2_combine 3 (some .int) 2 0 0 lay a x [.int op, .int l, .int r] (pr (some (.int (combF op l r))) x) := by
  refine Mx_of (by decide +kernel) (Nat.le_of_ble_eq_true rfl) ?_
  intro k hk he hg
  subst hg

  refine xiload_n hk dX2_combine_0 rfl ?_
  by_cases hs1_0 : op = 42
  · refine xlookup hk 84 dX2_combine_1 (by decide) (off := 83) (by rw [hs1_0]; decide +kernel) (by decide) ?_
    refine xiload_n hk dX2_combine_84 rfl ?_
    refine xiload_n hk dX2_combine_85 rfl ?_
    refine ximul hk dX2_combine_86 ?_
    refine xiret hk he dX2_combine_87 ⟨by decide, by decide⟩ ?_
    exact ⟨by simp [combF, b2i, *], rfl⟩
  by_cases hs1_1 : op = 43
  · refine xlookup hk 76 dX2_combine_1 (by decide) (off := 75) (by rw [hs1_1]; decide +kernel) (by decide) ?_
    refine xiload_n hk dX2_combine_76 rfl ?_
    refine xiload_n hk dX2_combine_77 rfl ?_
    refine xiadd hk dX2_combine_78 ?_
    refine xiret hk he dX2_combine_79 ⟨by decide, by decide⟩ ?_
    exact ⟨by simp [combF, b2i, *], rfl⟩
  by_cases hs1_2 : op = 45
  · refine xlookup hk 80 dX2_combine_1 (by decide) (off := 79) (by rw [hs1_2]; decide +kernel) (by decide) ?_
    refine xiload_n hk dX2_combine_80 rfl ?_
    refine xiload_n hk dX2_combine_81 rfl ?_
    refine xisub hk dX2_combine_82 ?_
    refine xiret hk he dX2_combine_83 ⟨by decide, by decide⟩ ?_
    exact ⟨by simp [combF, b2i, *], rfl⟩
  by_cases hs1_3 : op = 47
  · refine xlookup hk 88 dX2_combine_1 (by decide) (off := 87) (by rw [hs1_3]; decide +kernel) (by decide) ?_
    refine xiload_n hk dX2_combine_88 rfl ?_
    refine xif_ne hk 96 dX2_combine_89 (by decide) (fun h89 => ?_) (fun h89 => ?_)
    · refine xiload_n hk dX2_combine_96 rfl ?_
      refine xiload_n hk dX2_combine_97 rfl ?_
      refine xidiv hk dX2_combine_98 (by assumption) ?_
      refine xiret hk he dX2_combine_99 ⟨by decide, by decide⟩ ?_
      exact ⟨by simp [combF, b2i, *], rfl⟩
    · refine xiconst (v := 0) hk dX2_combine_92 (by decide) ?_
      refine xgoto hk 99 dX2_combine_93 (by decide) ?_
      refine xiret hk he dX2_combine_99 ⟨by decide, by decide⟩ ?_
      exact ⟨by simp [combF, b2i, *], rfl⟩
  by_cases hs1_4 : op = 306
  · refine xlookup hk 116 dX2_combine_1 (by decide) (off := 115) (by rw [hs1_4]; decide +kernel) (by decide) ?_
    refine xiload_n hk dX2_combine_116 rfl ?_
    refine xiload_n hk dX2_combine_117 rfl ?_
    refine xior hk dX2_combine_118 ?_
    refine xiret hk he dX2_combine_119 ⟨by decide, by decide⟩ ?_
    exact ⟨by simp [combF, b2i, *], rfl⟩
  by_cases hs1_5 : op = 324
  · refine xlookup hk 112 dX2_combine_1 (by decide) (off := 111) (by rw [hs1_5]; decide +kernel) (by decide) ?_
    refine xiload_n hk dX2_combine_112 rfl ?_
    refine xiload_n hk dX2_combine_113 rfl ?_
    refine xiand hk dX2_combine_114 ?_
    refine xiret hk he dX2_combine_115 ⟨by decide, by decide⟩ ?_
    exact ⟨by simp [combF, b2i, *], rfl⟩
  by_cases hs1_6 : op = 325
  · refine xlookup hk 100 dX2_combine_1 (by decide) (off := 99) (by rw [hs1_6]; decide +kernel) (by decide) ?_
    refine xiload_n hk dX2_combine_100 rfl ?_
    refine xiload_n hk dX2_combine_101 rfl ?_
    refine xmmin hk dX2_combine_102 kX2_117 mw_min (by decide) ⟨by decide, by decide⟩ (Nat.le_of_ble_eq_true rfl) ?_
    refine xiret hk he dX2_combine_105 ⟨by decide, by decide⟩ ?_
    exact ⟨by simp [combF, b2i, *], rfl⟩
  by_cases hs1_7 : op = 326
  · refine xlookup hk 106 dX2_combine_1 (by decide) (off := 105) (by rw [hs1_7]; decide +kernel) (by decide) ?_
    refine xiload_n hk dX2_combine_106 rfl ?_
    refine xiload_n hk dX2_combine_107 rfl ?_
    refine xmmax hk dX2_combine_108 kX2_122 mw_max (by decide) ⟨by decide, by decide⟩ (Nat.le_of_ble_eq_true rfl) ?_
    refine xiret hk he dX2_combine_111 ⟨by decide, by decide⟩ ?_
    exact ⟨by simp [combF, b2i, *], rfl⟩
  refine xlookup hk 120 dX2_combine_1 (by decide) (off := 119) (by show Op.lookupswitch.offset [(42, 83), (43, 75), (45, 79), (47, 87), (306, 115), (324, 111), (325, 99), (326, 105)] 119 (Int32.toInt op) = 119; rw [lv_osw (a := 42) hs1_0 (by decide), lv_osw (a := 43) hs1_1 (by decide), lv_osw (a := 45) hs1_2 (by decide), lv_osw (a := 47) hs1_3 (by decide), lv_osw (a := 306) hs1_4 (by decide), lv_osw (a := 324) hs1_5 (by decide), lv_osw (a := 325) hs1_6 (by decide), lv_osw (a := 326) hs1_7 (by decide)]; rfl) (by decide) ?_
  refine xiload_n hk dX2_combine_120 rfl ?_
  refine xiload_n hk dX2_combine_121 rfl ?_
  refine xiload_n hk dX2_combine_122 rfl ?_
  refine xcallS hk c_X2_compare bX2_compare kX2_125 dX2_combine_123 rfl rfl (by decide) ⟨by decide, by decide⟩ (Nat.le_of_ble_eq_true rfl) (det ?_)
  refine xif_eq hk 133 dX2_combine_126 (by decide) (fun h126 => ?_) (fun h126 => ?_)
  · rw [b2i_0] at h126
    refine xiconst (v := 0) hk dX2_combine_133 (by decide) ?_
    refine xiret hk he dX2_combine_134 ⟨by decide, by decide⟩ ?_
    exact ⟨by simp [combF, b2i, *], rfl⟩
  · rw [b2i_t] at h126
    refine xiconst (v := 1) hk dX2_combine_129 (by decide) ?_
    refine xgoto hk 134 dX2_combine_130 (by decide) ?_
    refine xiret hk he dX2_combine_134 ⟨by decide, by decide⟩ ?_
    exact ⟨by simp [combF, b2i, *], rfl⟩
set_option maxHeartbeats 4000000 in
set_option maxRecDepth 100000 in
theorem c_X2_reckon46 {g : Gx} {a : Nat → Nat} {x : XS} {pl : Int32} : Mx g yX2_reckon cX2_reckon 6 none 5 0 0 LF a x [.ref (a 44), .int pl, .ref (a 46)] (pr none (recF 46 pl x)) := by
  refine Mx_of (by decide +kernel) (Nat.le_of_ble_eq_true rfl) ?_
  intro k hk he hg
  subst hg

  refine xaload_n hk dX2_reckon_0 rfl ?_
  refine xgetR (ci := 2) (f := 0) hk dX2_reckon_1 ⟨rfl, by decide, _, rfl, rfl⟩ kX2_15 ?_
  refine xiload_n hk dX2_reckon_4 rfl ?_
  refine xcallV hk c_X0_operation bX0_operation kX2_71 dX2_reckon_5 rfl ⟨_, _, _, _, rfl, rfl⟩ rfl (by decide) ⟨by decide, by decide⟩ (Nat.le_of_ble_eq_true rfl) (det ?_)
  refine xistore_n hk dX2_reckon_8 (by decide) ?_
  refine xaload_n hk dX2_reckon_9 rfl ?_
  refine xgetR (ci := 2) (f := 0) hk dX2_reckon_10 ⟨rfl, by decide, _, rfl, rfl⟩ kX2_15 ?_
  refine xiload_n hk dX2_reckon_13 rfl ?_
  refine xcallV hk c_X0_firstNumber bX0_firstNumber kX2_74 dX2_reckon_14 rfl ⟨_, _, _, _, rfl, rfl⟩ rfl (by decide) ⟨by decide, by decide⟩ (Nat.le_of_ble_eq_true rfl) (det ?_)
  refine xistore hk dX2_reckon_17 (by decide) ?_
  generalize hop : entI x 31 400 pl = op
  generalize hf : entI x 32 400 pl = f
  refine xiload_n hk dX2_reckon_19 rfl ?_
  by_cases hs20_0 : op = 259
  · refine xlookup hk 112 dX2_reckon_20 (by decide) (off := 92) (by rw [hs20_0]; decide +kernel) (by decide) ?_
    refine xaload_n hk dX2_reckon_112 rfl ?_
    refine xiload hk dX2_reckon_113 rfl ?_
    refine xcallV hk c_X2_push bX2_push kX2_77 dX2_reckon_115 rfl ⟨_, _, _, _, rfl, rfl⟩ rfl (by decide) ⟨by decide, by decide⟩ (Nat.le_of_ble_eq_true rfl) (det ?_)
    refine xgoto hk 324 dX2_reckon_118 (by decide) ?_
    refine xvret hk he dX2_reckon_324 ⟨by decide, by decide⟩ ?_
    exact ⟨rfl, by simp [recF, b2i, *]⟩
  by_cases hs20_1 : op = 262
  · refine xlookup hk 273 dX2_reckon_20 (by decide) (off := 253) (by rw [hs20_1]; decide +kernel) (by decide) ?_
    refine xaload_n hk dX2_reckon_273 rfl ?_
    refine xaload_n hk dX2_reckon_274 rfl ?_
    refine xcallV hk c_X2_pop bX2_pop kX2_67 dX2_reckon_275 rfl ⟨_, _, _, _, rfl, rfl⟩ rfl (by decide) ⟨by decide, by decide⟩ (Nat.le_of_ble_eq_true rfl) (det ?_)
    refine xineg hk dX2_reckon_278 ?_
    refine xcallV hk c_X2_push bX2_push kX2_77 dX2_reckon_279 rfl ⟨_, _, _, _, rfl, rfl⟩ rfl (by decide) ⟨by decide, by decide⟩ (Nat.le_of_ble_eq_true rfl) (det ?_)
    refine xgoto hk 324 dX2_reckon_282 (by decide) ?_
    refine xvret hk he dX2_reckon_324 ⟨by decide, by decide⟩ ?_
    exact ⟨rfl, by simp [recF, b2i, *]⟩
  by_cases hs20_2 : op = 315
  · refine xlookup hk 121 dX2_reckon_20 (by decide) (off := 101) (by rw [hs20_2]; decide +kernel) (by decide) ?_
    refine xaload_n hk dX2_reckon_121 rfl ?_
    refine xaload_n hk dX2_reckon_122 rfl ?_
    refine xgetNI (ci := 1) (f := 0) hk dX2_reckon_123 ⟨rfl, by decide, _, rfl, rfl⟩ kX2_51 ?_
    refine xcallV hk c_X2_push bX2_push kX2_77 dX2_reckon_126 rfl ⟨_, _, _, _, rfl, rfl⟩ rfl (by decide) ⟨by decide, by decide⟩ (Nat.le_of_ble_eq_true rfl) (det ?_)
    refine xgoto hk 324 dX2_reckon_129 (by decide) ?_
    refine xvret hk he dX2_reckon_324 ⟨by decide, by decide⟩ ?_
    exact ⟨rfl, by simp [recF, b2i, *]⟩
  by_cases hs20_3 : op = 316
  · refine xlookup hk 132 dX2_reckon_20 (by decide) (off := 112) (by rw [hs20_3]; decide +kernel) (by decide) ?_
    refine xaload_n hk dX2_reckon_132 rfl ?_
    refine xaload_n hk dX2_reckon_133 rfl ?_
    refine xgetNI (ci := 1) (f := 1) hk dX2_reckon_134 ⟨rfl, by decide, _, rfl, rfl⟩ kX2_81 ?_
    refine xcallS hk c_J6_bitCount_0f7a4 bJ6_bitCount_0f7a4 kX2_84 dX2_reckon_137 rfl rfl (by decide) ⟨by decide, by decide⟩ (Nat.le_of_ble_eq_true rfl) (det ?_)
    refine xcallV hk c_X2_push bX2_push kX2_77 dX2_reckon_140 rfl ⟨_, _, _, _, rfl, rfl⟩ rfl (by decide) ⟨by decide, by decide⟩ (Nat.le_of_ble_eq_true rfl) (det ?_)
    refine xgoto hk 324 dX2_reckon_143 (by decide) ?_
    refine xvret hk he dX2_reckon_324 ⟨by decide, by decide⟩ ?_
    exact ⟨rfl, by simp [recF, b2i, *]⟩
  by_cases hs20_4 : op = 317
  · refine xlookup hk 146 dX2_reckon_20 (by decide) (off := 126) (by rw [hs20_4]; decide +kernel) (by decide) ?_
    refine xaload_n hk dX2_reckon_146 rfl ?_
    refine xaload_n hk dX2_reckon_147 rfl ?_
    refine xgetR (ci := 2) (f := 1) hk dX2_reckon_148 ⟨rfl, by decide, _, rfl, rfl⟩ kX2_19 ?_
    refine xaload_n hk dX2_reckon_151 rfl ?_
    refine xgetNI (ci := 1) (f := 1) hk dX2_reckon_152 ⟨rfl, by decide, _, rfl, rfl⟩ kX2_81 ?_
    refine xcallV hk c_X7_countParts bX7_countParts kX2_89 dX2_reckon_155 rfl ⟨_, _, _, _, rfl, rfl⟩ rfl (by decide) ⟨by decide, by decide⟩ (Nat.le_of_ble_eq_true rfl) (det ?_)
    refine xcallV hk c_X2_push bX2_push kX2_77 dX2_reckon_158 rfl ⟨_, _, _, _, rfl, rfl⟩ rfl (by decide) ⟨by decide, by decide⟩ (Nat.le_of_ble_eq_true rfl) (det ?_)
    refine xgoto hk 324 dX2_reckon_161 (by decide) ?_
    refine xvret hk he dX2_reckon_324 ⟨by decide, by decide⟩ ?_
    exact ⟨rfl, by simp [recF, b2i, *]⟩
  by_cases hs20_5 : op = 318
  · refine xlookup hk 164 dX2_reckon_20 (by decide) (off := 144) (by rw [hs20_5]; decide +kernel) (by decide) ?_
    refine xaload_n hk dX2_reckon_164 rfl ?_
    refine xaload_n hk dX2_reckon_165 rfl ?_
    refine xgetR (ci := 2) (f := 2) hk dX2_reckon_166 ⟨rfl, by decide, _, rfl, rfl⟩ kX2_23 ?_
    refine xaload_n hk dX2_reckon_169 rfl ?_
    refine xgetNI (ci := 1) (f := 1) hk dX2_reckon_170 ⟨rfl, by decide, _, rfl, rfl⟩ kX2_81 ?_
    refine xcallV hk c_X3_count bX3_count kX2_94 dX2_reckon_173 rfl ⟨_, _, _, _, rfl, rfl⟩ rfl (by decide) ⟨by decide, by decide⟩ (Nat.le_of_ble_eq_true rfl) (det ?_)
    refine xcallV hk c_X2_push bX2_push kX2_77 dX2_reckon_176 rfl ⟨_, _, _, _, rfl, rfl⟩ rfl (by decide) ⟨by decide, by decide⟩ (Nat.le_of_ble_eq_true rfl) (det ?_)
    refine xgoto hk 324 dX2_reckon_179 (by decide) ?_
    refine xvret hk he dX2_reckon_324 ⟨by decide, by decide⟩ ?_
    exact ⟨rfl, by simp [recF, b2i, *]⟩
  by_cases hs20_6 : op = 319
  · refine xlookup hk 182 dX2_reckon_20 (by decide) (off := 162) (by rw [hs20_6]; decide +kernel) (by decide) ?_
    refine xaload_n hk dX2_reckon_182 rfl ?_
    refine xaload_n hk dX2_reckon_183 rfl ?_
    refine xgetR (ci := 2) (f := 2) hk dX2_reckon_184 ⟨rfl, by decide, _, rfl, rfl⟩ kX2_23 ?_
    refine xaload_n hk dX2_reckon_187 rfl ?_
    refine xgetNI (ci := 1) (f := 1) hk dX2_reckon_188 ⟨rfl, by decide, _, rfl, rfl⟩ kX2_81 ?_
    refine xiload hk dX2_reckon_191 rfl ?_
    refine xcallV hk c_X3_countWith bX3_countWith kX2_99 dX2_reckon_193 rfl ⟨_, _, _, _, rfl, rfl⟩ rfl (by decide) ⟨by decide, by decide⟩ (Nat.le_of_ble_eq_true rfl) (det ?_)
    refine xif_le hk 203 dX2_reckon_196 (by decide) (fun h196 => ?_) (fun h196 => ?_)
    · refine xiconst (v := 0) hk dX2_reckon_203 (by decide) ?_
      refine xcallV hk c_X2_push bX2_push kX2_77 dX2_reckon_204 rfl ⟨_, _, _, _, rfl, rfl⟩ rfl (by decide) ⟨by decide, by decide⟩ (Nat.le_of_ble_eq_true rfl) (det ?_)
      refine xgoto hk 324 dX2_reckon_207 (by decide) ?_
      refine xvret hk he dX2_reckon_324 ⟨by decide, by decide⟩ ?_
      exact ⟨rfl, by simp [recF, b2i, *]⟩
    · refine xiconst (v := 1) hk dX2_reckon_199 (by decide) ?_
      refine xgoto hk 204 dX2_reckon_200 (by decide) ?_
      refine xcallV hk c_X2_push bX2_push kX2_77 dX2_reckon_204 rfl ⟨_, _, _, _, rfl, rfl⟩ rfl (by decide) ⟨by decide, by decide⟩ (Nat.le_of_ble_eq_true rfl) (det ?_)
      refine xgoto hk 324 dX2_reckon_207 (by decide) ?_
      refine xvret hk he dX2_reckon_324 ⟨by decide, by decide⟩ ?_
      exact ⟨rfl, by simp [recF, b2i, *]⟩
  by_cases hs20_7 : op = 320
  · refine xlookup hk 210 dX2_reckon_20 (by decide) (off := 190) (by rw [hs20_7]; decide +kernel) (by decide) ?_
    refine xaload_n hk dX2_reckon_210 rfl ?_
    refine xaload_n hk dX2_reckon_211 rfl ?_
    refine xgetNI (ci := 1) (f := 1) hk dX2_reckon_212 ⟨rfl, by decide, _, rfl, rfl⟩ kX2_81 ?_
    refine xiload hk dX2_reckon_215 rfl ?_
    refine xcallSN hk c_X8_has bX8_has kX2_103 dX2_reckon_217 rfl rfl (by decide) ⟨by decide, by decide⟩ (Nat.le_of_ble_eq_true rfl) (det ?_)
    refine xif_eq hk 227 dX2_reckon_220 (by decide) (fun h220 => ?_) (fun h220 => ?_)
    · rw [b2i_0] at h220
      refine xiconst (v := 0) hk dX2_reckon_227 (by decide) ?_
      refine xcallV hk c_X2_push bX2_push kX2_77 dX2_reckon_228 rfl ⟨_, _, _, _, rfl, rfl⟩ rfl (by decide) ⟨by decide, by decide⟩ (Nat.le_of_ble_eq_true rfl) (det ?_)
      refine xgoto hk 324 dX2_reckon_231 (by decide) ?_
      refine xvret hk he dX2_reckon_324 ⟨by decide, by decide⟩ ?_
      exact ⟨rfl, by simp [recF, b2i, *]⟩
    · rw [b2i_t] at h220
      refine xiconst (v := 1) hk dX2_reckon_223 (by decide) ?_
      refine xgoto hk 228 dX2_reckon_224 (by decide) ?_
      refine xcallV hk c_X2_push bX2_push kX2_77 dX2_reckon_228 rfl ⟨_, _, _, _, rfl, rfl⟩ rfl (by decide) ⟨by decide, by decide⟩ (Nat.le_of_ble_eq_true rfl) (det ?_)
      refine xgoto hk 324 dX2_reckon_231 (by decide) ?_
      refine xvret hk he dX2_reckon_324 ⟨by decide, by decide⟩ ?_
      exact ⟨rfl, by simp [recF, b2i, *]⟩
  by_cases hs20_8 : op = 321
  · refine xlookup hk 234 dX2_reckon_20 (by decide) (off := 214) (by rw [hs20_8]; decide +kernel) (by decide) ?_
    refine xaload_n hk dX2_reckon_234 rfl ?_
    refine xaload_n hk dX2_reckon_235 rfl ?_
    refine xgetR (ci := 2) (f := 1) hk dX2_reckon_236 ⟨rfl, by decide, _, rfl, rfl⟩ kX2_19 ?_
    refine xaload_n hk dX2_reckon_239 rfl ?_
    refine xgetNI (ci := 1) (f := 1) hk dX2_reckon_240 ⟨rfl, by decide, _, rfl, rfl⟩ kX2_81 ?_
    refine xaload_n hk dX2_reckon_243 rfl ?_
    refine xgetR (ci := 2) (f := 0) hk dX2_reckon_244 ⟨rfl, by decide, _, rfl, rfl⟩ kX2_15 ?_
    refine xiload_n hk dX2_reckon_247 rfl ?_
    refine xcallV hk c_X0_secondNumber bX0_secondNumber kX2_107 dX2_reckon_248 rfl ⟨_, _, _, _, rfl, rfl⟩ rfl (by decide) ⟨by decide, by decide⟩ (Nat.le_of_ble_eq_true rfl) (det ?_)
    refine xcallV hk c_X7_reach bX7_reach kX2_110 dX2_reckon_251 rfl ⟨_, _, _, _, rfl, rfl⟩ rfl (by decide) ⟨by decide, by decide⟩ (Nat.le_of_ble_eq_true rfl) (det ?_)
    refine xiload hk dX2_reckon_254 rfl ?_
    refine xcallSN hk c_X8_has bX8_has kX2_103 dX2_reckon_256 rfl rfl (by decide) ⟨by decide, by decide⟩ (Nat.le_of_ble_eq_true rfl) (det ?_)
    refine xif_eq hk 266 dX2_reckon_259 (by decide) (fun h259 => ?_) (fun h259 => ?_)
    · rw [b2i_0] at h259
      refine xiconst (v := 0) hk dX2_reckon_266 (by decide) ?_
      refine xcallV hk c_X2_push bX2_push kX2_77 dX2_reckon_267 rfl ⟨_, _, _, _, rfl, rfl⟩ rfl (by decide) ⟨by decide, by decide⟩ (Nat.le_of_ble_eq_true rfl) (det ?_)
      refine xgoto hk 324 dX2_reckon_270 (by decide) ?_
      refine xvret hk he dX2_reckon_324 ⟨by decide, by decide⟩ ?_
      exact ⟨rfl, by simp [recF, b2i, *]⟩
    · rw [b2i_t] at h259
      refine xiconst (v := 1) hk dX2_reckon_262 (by decide) ?_
      refine xgoto hk 267 dX2_reckon_263 (by decide) ?_
      refine xcallV hk c_X2_push bX2_push kX2_77 dX2_reckon_267 rfl ⟨_, _, _, _, rfl, rfl⟩ rfl (by decide) ⟨by decide, by decide⟩ (Nat.le_of_ble_eq_true rfl) (det ?_)
      refine xgoto hk 324 dX2_reckon_270 (by decide) ?_
      refine xvret hk he dX2_reckon_324 ⟨by decide, by decide⟩ ?_
      exact ⟨rfl, by simp [recF, b2i, *]⟩
  by_cases hs20_9 : op = 323
  · refine xlookup hk 285 dX2_reckon_20 (by decide) (off := 265) (by rw [hs20_9]; decide +kernel) (by decide) ?_
    refine xaload_n hk dX2_reckon_285 rfl ?_
    refine xaload_n hk dX2_reckon_286 rfl ?_
    refine xcallV hk c_X2_pop bX2_pop kX2_67 dX2_reckon_287 rfl ⟨_, _, _, _, rfl, rfl⟩ rfl (by decide) ⟨by decide, by decide⟩ (Nat.le_of_ble_eq_true rfl) (det ?_)
    refine xif_ne hk 297 dX2_reckon_290 (by decide) (fun h290 => ?_) (fun h290 => ?_)
    · refine xiconst (v := 0) hk dX2_reckon_297 (by decide) ?_
      refine xcallV hk c_X2_push bX2_push kX2_77 dX2_reckon_298 rfl ⟨_, _, _, _, rfl, rfl⟩ rfl (by decide) ⟨by decide, by decide⟩ (Nat.le_of_ble_eq_true rfl) (det ?_)
      refine xgoto hk 324 dX2_reckon_301 (by decide) ?_
      refine xvret hk he dX2_reckon_324 ⟨by decide, by decide⟩ ?_
      exact ⟨rfl, by simp [recF, b2i, *]⟩
    · refine xiconst (v := 1) hk dX2_reckon_293 (by decide) ?_
      refine xgoto hk 298 dX2_reckon_294 (by decide) ?_
      refine xcallV hk c_X2_push bX2_push kX2_77 dX2_reckon_298 rfl ⟨_, _, _, _, rfl, rfl⟩ rfl (by decide) ⟨by decide, by decide⟩ (Nat.le_of_ble_eq_true rfl) (det ?_)
      refine xgoto hk 324 dX2_reckon_301 (by decide) ?_
      refine xvret hk he dX2_reckon_324 ⟨by decide, by decide⟩ ?_
      exact ⟨rfl, by simp [recF, b2i, *]⟩
  refine xlookup hk 304 dX2_reckon_20 (by decide) (off := 284) (by show Op.lookupswitch.offset [(259, 92), (262, 253), (315, 101), (316, 112), (317, 126), (318, 144), (319, 162), (320, 190), (321, 214), (323, 265)] 284 (Int32.toInt op) = 284; rw [lv_osw (a := 259) hs20_0 (by decide), lv_osw (a := 262) hs20_1 (by decide), lv_osw (a := 315) hs20_2 (by decide), lv_osw (a := 316) hs20_3 (by decide), lv_osw (a := 317) hs20_4 (by decide), lv_osw (a := 318) hs20_5 (by decide), lv_osw (a := 319) hs20_6 (by decide), lv_osw (a := 320) hs20_7 (by decide), lv_osw (a := 321) hs20_8 (by decide), lv_osw (a := 323) hs20_9 (by decide)]; rfl) (by decide) ?_
  refine xaload_n hk dX2_reckon_304 rfl ?_
  refine xcallV hk c_X2_pop bX2_pop kX2_67 dX2_reckon_305 rfl ⟨_, _, _, _, rfl, rfl⟩ rfl (by decide) ⟨by decide, by decide⟩ (Nat.le_of_ble_eq_true rfl) (det ?_)
  refine xistore hk dX2_reckon_308 (by decide) ?_
  refine xaload_n hk dX2_reckon_310 rfl ?_
  refine xiload_n hk dX2_reckon_311 rfl ?_
  refine xaload_n hk dX2_reckon_312 rfl ?_
  refine xcallV hk c_X2_pop bX2_pop kX2_67 dX2_reckon_313 rfl ⟨_, _, _, _, rfl, rfl⟩ rfl (by decide) ⟨by decide, by decide⟩ (Nat.le_of_ble_eq_true rfl) (det ?_)
  refine xiload hk dX2_reckon_316 rfl ?_
  refine xcallS hk c_X2_combine bX2_combine kX2_113 dX2_reckon_318 rfl rfl (by decide) ⟨by decide, by decide⟩ (Nat.le_of_ble_eq_true rfl) (det ?_)
  refine xcallV hk c_X2_push bX2_push kX2_77 dX2_reckon_321 rfl ⟨_, _, _, _, rfl, rfl⟩ rfl (by decide) ⟨by decide, by decide⟩ (Nat.le_of_ble_eq_true rfl) (det ?_)
  refine xvret hk he dX2_reckon_324 ⟨by decide, by decide⟩ ?_
  exact ⟨rfl, by simp [recF, b2i, *]⟩
set_option maxHeartbeats 4000000 in
set_option maxRecDepth 100000 in
theorem c_X2_reckon47 {g : Gx} {a : Nat → Nat} {x : XS} {pl : Int32} : Mx g yX2_reckon cX2_reckon 6 none 5 0 0 LF a x [.ref (a 44), .int pl, .ref (a 47)] (pr none (recF 47 pl x)) := by
  refine Mx_of (by decide +kernel) (Nat.le_of_ble_eq_true rfl) ?_
  intro k hk he hg
  subst hg

  refine xaload_n hk dX2_reckon_0 rfl ?_
  refine xgetR (ci := 2) (f := 0) hk dX2_reckon_1 ⟨rfl, by decide, _, rfl, rfl⟩ kX2_15 ?_
  refine xiload_n hk dX2_reckon_4 rfl ?_
  refine xcallV hk c_X0_operation bX0_operation kX2_71 dX2_reckon_5 rfl ⟨_, _, _, _, rfl, rfl⟩ rfl (by decide) ⟨by decide, by decide⟩ (Nat.le_of_ble_eq_true rfl) (det ?_)
  refine xistore_n hk dX2_reckon_8 (by decide) ?_
  refine xaload_n hk dX2_reckon_9 rfl ?_
  refine xgetR (ci := 2) (f := 0) hk dX2_reckon_10 ⟨rfl, by decide, _, rfl, rfl⟩ kX2_15 ?_
  refine xiload_n hk dX2_reckon_13 rfl ?_
  refine xcallV hk c_X0_firstNumber bX0_firstNumber kX2_74 dX2_reckon_14 rfl ⟨_, _, _, _, rfl, rfl⟩ rfl (by decide) ⟨by decide, by decide⟩ (Nat.le_of_ble_eq_true rfl) (det ?_)
  refine xistore hk dX2_reckon_17 (by decide) ?_
  generalize hop : entI x 31 400 pl = op
  generalize hf : entI x 32 400 pl = f
  refine xiload_n hk dX2_reckon_19 rfl ?_
  by_cases hs20_0 : op = 259
  · refine xlookup hk 112 dX2_reckon_20 (by decide) (off := 92) (by rw [hs20_0]; decide +kernel) (by decide) ?_
    refine xaload_n hk dX2_reckon_112 rfl ?_
    refine xiload hk dX2_reckon_113 rfl ?_
    refine xcallV hk c_X2_push bX2_push kX2_77 dX2_reckon_115 rfl ⟨_, _, _, _, rfl, rfl⟩ rfl (by decide) ⟨by decide, by decide⟩ (Nat.le_of_ble_eq_true rfl) (det ?_)
    refine xgoto hk 324 dX2_reckon_118 (by decide) ?_
    refine xvret hk he dX2_reckon_324 ⟨by decide, by decide⟩ ?_
    exact ⟨rfl, by simp [recF, b2i, *]⟩
  by_cases hs20_1 : op = 262
  · refine xlookup hk 273 dX2_reckon_20 (by decide) (off := 253) (by rw [hs20_1]; decide +kernel) (by decide) ?_
    refine xaload_n hk dX2_reckon_273 rfl ?_
    refine xaload_n hk dX2_reckon_274 rfl ?_
    refine xcallV hk c_X2_pop bX2_pop kX2_67 dX2_reckon_275 rfl ⟨_, _, _, _, rfl, rfl⟩ rfl (by decide) ⟨by decide, by decide⟩ (Nat.le_of_ble_eq_true rfl) (det ?_)
    refine xineg hk dX2_reckon_278 ?_
    refine xcallV hk c_X2_push bX2_push kX2_77 dX2_reckon_279 rfl ⟨_, _, _, _, rfl, rfl⟩ rfl (by decide) ⟨by decide, by decide⟩ (Nat.le_of_ble_eq_true rfl) (det ?_)
    refine xgoto hk 324 dX2_reckon_282 (by decide) ?_
    refine xvret hk he dX2_reckon_324 ⟨by decide, by decide⟩ ?_
    exact ⟨rfl, by simp [recF, b2i, *]⟩
  by_cases hs20_2 : op = 315
  · refine xlookup hk 121 dX2_reckon_20 (by decide) (off := 101) (by rw [hs20_2]; decide +kernel) (by decide) ?_
    refine xaload_n hk dX2_reckon_121 rfl ?_
    refine xaload_n hk dX2_reckon_122 rfl ?_
    refine xgetNI (ci := 1) (f := 0) hk dX2_reckon_123 ⟨rfl, by decide, _, rfl, rfl⟩ kX2_51 ?_
    refine xcallV hk c_X2_push bX2_push kX2_77 dX2_reckon_126 rfl ⟨_, _, _, _, rfl, rfl⟩ rfl (by decide) ⟨by decide, by decide⟩ (Nat.le_of_ble_eq_true rfl) (det ?_)
    refine xgoto hk 324 dX2_reckon_129 (by decide) ?_
    refine xvret hk he dX2_reckon_324 ⟨by decide, by decide⟩ ?_
    exact ⟨rfl, by simp [recF, b2i, *]⟩
  by_cases hs20_3 : op = 316
  · refine xlookup hk 132 dX2_reckon_20 (by decide) (off := 112) (by rw [hs20_3]; decide +kernel) (by decide) ?_
    refine xaload_n hk dX2_reckon_132 rfl ?_
    refine xaload_n hk dX2_reckon_133 rfl ?_
    refine xgetNI (ci := 1) (f := 1) hk dX2_reckon_134 ⟨rfl, by decide, _, rfl, rfl⟩ kX2_81 ?_
    refine xcallS hk c_J6_bitCount_0f7a4 bJ6_bitCount_0f7a4 kX2_84 dX2_reckon_137 rfl rfl (by decide) ⟨by decide, by decide⟩ (Nat.le_of_ble_eq_true rfl) (det ?_)
    refine xcallV hk c_X2_push bX2_push kX2_77 dX2_reckon_140 rfl ⟨_, _, _, _, rfl, rfl⟩ rfl (by decide) ⟨by decide, by decide⟩ (Nat.le_of_ble_eq_true rfl) (det ?_)
    refine xgoto hk 324 dX2_reckon_143 (by decide) ?_
    refine xvret hk he dX2_reckon_324 ⟨by decide, by decide⟩ ?_
    exact ⟨rfl, by simp [recF, b2i, *]⟩
  by_cases hs20_4 : op = 317
  · refine xlookup hk 146 dX2_reckon_20 (by decide) (off := 126) (by rw [hs20_4]; decide +kernel) (by decide) ?_
    refine xaload_n hk dX2_reckon_146 rfl ?_
    refine xaload_n hk dX2_reckon_147 rfl ?_
    refine xgetR (ci := 2) (f := 1) hk dX2_reckon_148 ⟨rfl, by decide, _, rfl, rfl⟩ kX2_19 ?_
    refine xaload_n hk dX2_reckon_151 rfl ?_
    refine xgetNI (ci := 1) (f := 1) hk dX2_reckon_152 ⟨rfl, by decide, _, rfl, rfl⟩ kX2_81 ?_
    refine xcallV hk c_X7_countParts bX7_countParts kX2_89 dX2_reckon_155 rfl ⟨_, _, _, _, rfl, rfl⟩ rfl (by decide) ⟨by decide, by decide⟩ (Nat.le_of_ble_eq_true rfl) (det ?_)
    refine xcallV hk c_X2_push bX2_push kX2_77 dX2_reckon_158 rfl ⟨_, _, _, _, rfl, rfl⟩ rfl (by decide) ⟨by decide, by decide⟩ (Nat.le_of_ble_eq_true rfl) (det ?_)
    refine xgoto hk 324 dX2_reckon_161 (by decide) ?_
    refine xvret hk he dX2_reckon_324 ⟨by decide, by decide⟩ ?_
    exact ⟨rfl, by simp [recF, b2i, *]⟩
  by_cases hs20_5 : op = 318
  · refine xlookup hk 164 dX2_reckon_20 (by decide) (off := 144) (by rw [hs20_5]; decide +kernel) (by decide) ?_
    refine xaload_n hk dX2_reckon_164 rfl ?_
    refine xaload_n hk dX2_reckon_165 rfl ?_
    refine xgetR (ci := 2) (f := 2) hk dX2_reckon_166 ⟨rfl, by decide, _, rfl, rfl⟩ kX2_23 ?_
    refine xaload_n hk dX2_reckon_169 rfl ?_
    refine xgetNI (ci := 1) (f := 1) hk dX2_reckon_170 ⟨rfl, by decide, _, rfl, rfl⟩ kX2_81 ?_
    refine xcallV hk c_X3_count bX3_count kX2_94 dX2_reckon_173 rfl ⟨_, _, _, _, rfl, rfl⟩ rfl (by decide) ⟨by decide, by decide⟩ (Nat.le_of_ble_eq_true rfl) (det ?_)
    refine xcallV hk c_X2_push bX2_push kX2_77 dX2_reckon_176 rfl ⟨_, _, _, _, rfl, rfl⟩ rfl (by decide) ⟨by decide, by decide⟩ (Nat.le_of_ble_eq_true rfl) (det ?_)
    refine xgoto hk 324 dX2_reckon_179 (by decide) ?_
    refine xvret hk he dX2_reckon_324 ⟨by decide, by decide⟩ ?_
    exact ⟨rfl, by simp [recF, b2i, *]⟩
  by_cases hs20_6 : op = 319
  · refine xlookup hk 182 dX2_reckon_20 (by decide) (off := 162) (by rw [hs20_6]; decide +kernel) (by decide) ?_
    refine xaload_n hk dX2_reckon_182 rfl ?_
    refine xaload_n hk dX2_reckon_183 rfl ?_
    refine xgetR (ci := 2) (f := 2) hk dX2_reckon_184 ⟨rfl, by decide, _, rfl, rfl⟩ kX2_23 ?_
    refine xaload_n hk dX2_reckon_187 rfl ?_
    refine xgetNI (ci := 1) (f := 1) hk dX2_reckon_188 ⟨rfl, by decide, _, rfl, rfl⟩ kX2_81 ?_
    refine xiload hk dX2_reckon_191 rfl ?_
    refine xcallV hk c_X3_countWith bX3_countWith kX2_99 dX2_reckon_193 rfl ⟨_, _, _, _, rfl, rfl⟩ rfl (by decide) ⟨by decide, by decide⟩ (Nat.le_of_ble_eq_true rfl) (det ?_)
    refine xif_le hk 203 dX2_reckon_196 (by decide) (fun h196 => ?_) (fun h196 => ?_)
    · refine xiconst (v := 0) hk dX2_reckon_203 (by decide) ?_
      refine xcallV hk c_X2_push bX2_push kX2_77 dX2_reckon_204 rfl ⟨_, _, _, _, rfl, rfl⟩ rfl (by decide) ⟨by decide, by decide⟩ (Nat.le_of_ble_eq_true rfl) (det ?_)
      refine xgoto hk 324 dX2_reckon_207 (by decide) ?_
      refine xvret hk he dX2_reckon_324 ⟨by decide, by decide⟩ ?_
      exact ⟨rfl, by simp [recF, b2i, *]⟩
    · refine xiconst (v := 1) hk dX2_reckon_199 (by decide) ?_
      refine xgoto hk 204 dX2_reckon_200 (by decide) ?_
      refine xcallV hk c_X2_push bX2_push kX2_77 dX2_reckon_204 rfl ⟨_, _, _, _, rfl, rfl⟩ rfl (by decide) ⟨by decide, by decide⟩ (Nat.le_of_ble_eq_true rfl) (det ?_)
      refine xgoto hk 324 dX2_reckon_207 (by decide) ?_
      refine xvret hk he dX2_reckon_324 ⟨by decide, by decide⟩ ?_
      exact ⟨rfl, by simp [recF, b2i, *]⟩
  by_cases hs20_7 : op = 320
  · refine xlookup hk 210 dX2_reckon_20 (by decide) (off := 190) (by rw [hs20_7]; decide +kernel) (by decide) ?_
    refine xaload_n hk dX2_reckon_210 rfl ?_
    refine xaload_n hk dX2_reckon_211 rfl ?_
    refine xgetNI (ci := 1) (f := 1) hk dX2_reckon_212 ⟨rfl, by decide, _, rfl, rfl⟩ kX2_81 ?_
    refine xiload hk dX2_reckon_215 rfl ?_
    refine xcallSN hk c_X8_has bX8_has kX2_103 dX2_reckon_217 rfl rfl (by decide) ⟨by decide, by decide⟩ (Nat.le_of_ble_eq_true rfl) (det ?_)
    refine xif_eq hk 227 dX2_reckon_220 (by decide) (fun h220 => ?_) (fun h220 => ?_)
    · rw [b2i_0] at h220
      refine xiconst (v := 0) hk dX2_reckon_227 (by decide) ?_
      refine xcallV hk c_X2_push bX2_push kX2_77 dX2_reckon_228 rfl ⟨_, _, _, _, rfl, rfl⟩ rfl (by decide) ⟨by decide, by decide⟩ (Nat.le_of_ble_eq_true rfl) (det ?_)
      refine xgoto hk 324 dX2_reckon_231 (by decide) ?_
      refine xvret hk he dX2_reckon_324 ⟨by decide, by decide⟩ ?_
      exact ⟨rfl, by simp [recF, b2i, *]⟩
    · rw [b2i_t] at h220
      refine xiconst (v := 1) hk dX2_reckon_223 (by decide) ?_
      refine xgoto hk 228 dX2_reckon_224 (by decide) ?_
      refine xcallV hk c_X2_push bX2_push kX2_77 dX2_reckon_228 rfl ⟨_, _, _, _, rfl, rfl⟩ rfl (by decide) ⟨by decide, by decide⟩ (Nat.le_of_ble_eq_true rfl) (det ?_)
      refine xgoto hk 324 dX2_reckon_231 (by decide) ?_
      refine xvret hk he dX2_reckon_324 ⟨by decide, by decide⟩ ?_
      exact ⟨rfl, by simp [recF, b2i, *]⟩
  by_cases hs20_8 : op = 321
  · refine xlookup hk 234 dX2_reckon_20 (by decide) (off := 214) (by rw [hs20_8]; decide +kernel) (by decide) ?_
    refine xaload_n hk dX2_reckon_234 rfl ?_
    refine xaload_n hk dX2_reckon_235 rfl ?_
    refine xgetR (ci := 2) (f := 1) hk dX2_reckon_236 ⟨rfl, by decide, _, rfl, rfl⟩ kX2_19 ?_
    refine xaload_n hk dX2_reckon_239 rfl ?_
    refine xgetNI (ci := 1) (f := 1) hk dX2_reckon_240 ⟨rfl, by decide, _, rfl, rfl⟩ kX2_81 ?_
    refine xaload_n hk dX2_reckon_243 rfl ?_
    refine xgetR (ci := 2) (f := 0) hk dX2_reckon_244 ⟨rfl, by decide, _, rfl, rfl⟩ kX2_15 ?_
    refine xiload_n hk dX2_reckon_247 rfl ?_
    refine xcallV hk c_X0_secondNumber bX0_secondNumber kX2_107 dX2_reckon_248 rfl ⟨_, _, _, _, rfl, rfl⟩ rfl (by decide) ⟨by decide, by decide⟩ (Nat.le_of_ble_eq_true rfl) (det ?_)
    refine xcallV hk c_X7_reach bX7_reach kX2_110 dX2_reckon_251 rfl ⟨_, _, _, _, rfl, rfl⟩ rfl (by decide) ⟨by decide, by decide⟩ (Nat.le_of_ble_eq_true rfl) (det ?_)
    refine xiload hk dX2_reckon_254 rfl ?_
    refine xcallSN hk c_X8_has bX8_has kX2_103 dX2_reckon_256 rfl rfl (by decide) ⟨by decide, by decide⟩ (Nat.le_of_ble_eq_true rfl) (det ?_)
    refine xif_eq hk 266 dX2_reckon_259 (by decide) (fun h259 => ?_) (fun h259 => ?_)
    · rw [b2i_0] at h259
      refine xiconst (v := 0) hk dX2_reckon_266 (by decide) ?_
      refine xcallV hk c_X2_push bX2_push kX2_77 dX2_reckon_267 rfl ⟨_, _, _, _, rfl, rfl⟩ rfl (by decide) ⟨by decide, by decide⟩ (Nat.le_of_ble_eq_true rfl) (det ?_)
      refine xgoto hk 324 dX2_reckon_270 (by decide) ?_
      refine xvret hk he dX2_reckon_324 ⟨by decide, by decide⟩ ?_
      exact ⟨rfl, by simp [recF, b2i, *]⟩
    · rw [b2i_t] at h259
      refine xiconst (v := 1) hk dX2_reckon_262 (by decide) ?_
      refine xgoto hk 267 dX2_reckon_263 (by decide) ?_
      refine xcallV hk c_X2_push bX2_push kX2_77 dX2_reckon_267 rfl ⟨_, _, _, _, rfl, rfl⟩ rfl (by decide) ⟨by decide, by decide⟩ (Nat.le_of_ble_eq_true rfl) (det ?_)
      refine xgoto hk 324 dX2_reckon_270 (by decide) ?_
      refine xvret hk he dX2_reckon_324 ⟨by decide, by decide⟩ ?_
      exact ⟨rfl, by simp [recF, b2i, *]⟩
  by_cases hs20_9 : op = 323
  · refine xlookup hk 285 dX2_reckon_20 (by decide) (off := 265) (by rw [hs20_9]; decide +kernel) (by decide) ?_
    refine xaload_n hk dX2_reckon_285 rfl ?_
    refine xaload_n hk dX2_reckon_286 rfl ?_
    refine xcallV hk c_X2_pop bX2_pop kX2_67 dX2_reckon_287 rfl ⟨_, _, _, _, rfl, rfl⟩ rfl (by decide) ⟨by decide, by decide⟩ (Nat.le_of_ble_eq_true rfl) (det ?_)
    refine xif_ne hk 297 dX2_reckon_290 (by decide) (fun h290 => ?_) (fun h290 => ?_)
    · refine xiconst (v := 0) hk dX2_reckon_297 (by decide) ?_
      refine xcallV hk c_X2_push bX2_push kX2_77 dX2_reckon_298 rfl ⟨_, _, _, _, rfl, rfl⟩ rfl (by decide) ⟨by decide, by decide⟩ (Nat.le_of_ble_eq_true rfl) (det ?_)
      refine xgoto hk 324 dX2_reckon_301 (by decide) ?_
      refine xvret hk he dX2_reckon_324 ⟨by decide, by decide⟩ ?_
      exact ⟨rfl, by simp [recF, b2i, *]⟩
    · refine xiconst (v := 1) hk dX2_reckon_293 (by decide) ?_
      refine xgoto hk 298 dX2_reckon_294 (by decide) ?_
      refine xcallV hk c_X2_push bX2_push kX2_77 dX2_reckon_298 rfl ⟨_, _, _, _, rfl, rfl⟩ rfl (by decide) ⟨by decide, by decide⟩ (Nat.le_of_ble_eq_true rfl) (det ?_)
      refine xgoto hk 324 dX2_reckon_301 (by decide) ?_
      refine xvret hk he dX2_reckon_324 ⟨by decide, by decide⟩ ?_
      exact ⟨rfl, by simp [recF, b2i, *]⟩
  refine xlookup hk 304 dX2_reckon_20 (by decide) (off := 284) (by show Op.lookupswitch.offset [(259, 92), (262, 253), (315, 101), (316, 112), (317, 126), (318, 144), (319, 162), (320, 190), (321, 214), (323, 265)] 284 (Int32.toInt op) = 284; rw [lv_osw (a := 259) hs20_0 (by decide), lv_osw (a := 262) hs20_1 (by decide), lv_osw (a := 315) hs20_2 (by decide), lv_osw (a := 316) hs20_3 (by decide), lv_osw (a := 317) hs20_4 (by decide), lv_osw (a := 318) hs20_5 (by decide), lv_osw (a := 319) hs20_6 (by decide), lv_osw (a := 320) hs20_7 (by decide), lv_osw (a := 321) hs20_8 (by decide), lv_osw (a := 323) hs20_9 (by decide)]; rfl) (by decide) ?_
  refine xaload_n hk dX2_reckon_304 rfl ?_
  refine xcallV hk c_X2_pop bX2_pop kX2_67 dX2_reckon_305 rfl ⟨_, _, _, _, rfl, rfl⟩ rfl (by decide) ⟨by decide, by decide⟩ (Nat.le_of_ble_eq_true rfl) (det ?_)
  refine xistore hk dX2_reckon_308 (by decide) ?_
  refine xaload_n hk dX2_reckon_310 rfl ?_
  refine xiload_n hk dX2_reckon_311 rfl ?_
  refine xaload_n hk dX2_reckon_312 rfl ?_
  refine xcallV hk c_X2_pop bX2_pop kX2_67 dX2_reckon_313 rfl ⟨_, _, _, _, rfl, rfl⟩ rfl (by decide) ⟨by decide, by decide⟩ (Nat.le_of_ble_eq_true rfl) (det ?_)
  refine xiload hk dX2_reckon_316 rfl ?_
  refine xcallS hk c_X2_combine bX2_combine kX2_113 dX2_reckon_318 rfl rfl (by decide) ⟨by decide, by decide⟩ (Nat.le_of_ble_eq_true rfl) (det ?_)
  refine xcallV hk c_X2_push bX2_push kX2_77 dX2_reckon_321 rfl ⟨_, _, _, _, rfl, rfl⟩ rfl (by decide) ⟨by decide, by decide⟩ (Nat.le_of_ble_eq_true rfl) (det ?_)
  refine xvret hk he dX2_reckon_324 ⟨by decide, by decide⟩ ?_
  exact ⟨rfl, by simp [recF, b2i, *]⟩
