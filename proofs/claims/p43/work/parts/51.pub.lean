theorem kX8_113 : Cond.fieldLinkNest RX8 113 "FeudBook$Book" "families" "I" "FeudBook" ∈ NW := nw_mem 149 (by decide +kernel) rfl
theorem kX8_119 : Cond.fieldLinkNest RX8 119 "FeudBook$Book" "orders" "I" "FeudBook" ∈ NW := nw_mem 164 (by decide +kernel) rfl
theorem kX8_122 : Cond.fieldLinkNest RX8 122 "FeudBook$Course" "day" "I" "FeudBook" ∈ NW := nw_mem 319 (by decide +kernel) rfl
theorem kX8_125 : Cond.fieldLinkNest RX8 125 "FeudBook$Course" "carriedOut" "I" "FeudBook" ∈ NW := nw_mem 324 (by decide +kernel) rfl
theorem kX8_128 : Cond.fieldLinkNest RX8 128 "FeudBook$Course" "standing" "I" "FeudBook" ∈ NW := nw_mem 322 (by decide +kernel) rfl
theorem kX8_131 : Cond.methodLink RX8 131 yJ6_bitCount_0f7a4 ∈ GW := gw_mem 386 (by decide +kernel) (by decide +kernel)
theorem kX8_175 : Cond.methodLink RX8 175 yX7_countParts ∈ GW := gw_mem 616 (by decide +kernel) (by decide +kernel)
theorem kX8_156 : Cond.methodLink RX8 156 yX3_count ∈ GW := gw_mem 521 (by decide +kernel) (by decide +kernel)
theorem kX8_216 : Cond.methodLink RX8 216 yX3_fewestNotHolding ∈ GW := gw_mem 815 (by decide +kernel) (by decide +kernel)
theorem bX3_fewestNotHolding : CBv yX3_fewestNotHolding cX3_fewestNotHolding 4 (some .int) 1 := ⟨⟨gw_mem 818 (by decide +kernel) (by decide +kernel), gw_mem 19 (by decide +kernel) (by decide +kernel), by decide +kernel, by decide⟩, gw_mem 816 (by decide +kernel) (by decide +kernel), gw_mem 817 (by decide +kernel) (by decide +kernel)⟩
theorem kX8_137 : Cond.methodLink RX8 137 yX8_needStatement ∈ GW := gw_mem 396 (by decide +kernel) (by decide +kernel)
theorem bX8_needStatement : CBv yX8_needStatement cX8_needStatement 2 none 1 := ⟨⟨gw_mem 399 (by decide +kernel) (by decide +kernel), gw_mem 13 (by decide +kernel) (by decide +kernel), by decide +kernel, by decide⟩, gw_mem 398 (by decide +kernel) (by decide +kernel), gw_sel 0 (by decide +kernel) (by decide +kernel)⟩
theorem kX8_140 : Cond.methodLink RX8 140 yX0_kind ∈ GW := gw_mem 467 (by decide +kernel) (by decide +kernel)
theorem bX0_kind : CBv yX0_kind cX0_kind 2 (some .int) 1 := ⟨⟨gw_mem 470 (by decide +kernel) (by decide +kernel), gw_mem 16 (by decide +kernel) (by decide +kernel), by decide +kernel, by decide⟩, gw_mem 468 (by decide +kernel) (by decide +kernel), gw_mem 469 (by decide +kernel) (by decide +kernel)⟩
theorem kX8_143 : Cond.methodLink RX8 143 yX0_first ∈ GW := gw_mem 478 (by decide +kernel) (by decide +kernel)
theorem bX0_first : CBv yX0_first cX0_first 2 (some .int) 1 := ⟨⟨gw_mem 481 (by decide +kernel) (by decide +kernel), gw_mem 16 (by decide +kernel) (by decide +kernel), by decide +kernel, by decide⟩, gw_mem 479 (by decide +kernel) (by decide +kernel), gw_mem 480 (by decide +kernel) (by decide +kernel)⟩
theorem kX8_146 : Cond.methodLink RX8 146 yX0_second ∈ GW := gw_mem 486 (by decide +kernel) (by decide +kernel)
theorem bX0_second : CBv yX0_second cX0_second 2 (some .int) 1 := ⟨⟨gw_mem 489 (by decide +kernel) (by decide +kernel), gw_mem 16 (by decide +kernel) (by decide +kernel), by decide +kernel, by decide⟩, gw_mem 487 (by decide +kernel) (by decide +kernel), gw_mem 488 (by decide +kernel) (by decide +kernel)⟩
theorem kX8_153 : Cond.methodLink RX8 153 yX8_needStanding ∈ GW := gw_mem 501 (by decide +kernel) (by decide +kernel)
theorem bX8_needStanding : CBv yX8_needStanding cX8_needStanding 2 none 1 := ⟨⟨gw_mem 504 (by decide +kernel) (by decide +kernel), gw_mem 13 (by decide +kernel) (by decide +kernel), by decide +kernel, by decide⟩, gw_mem 503 (by decide +kernel) (by decide +kernel), gw_sel 2 (by decide +kernel) (by decide +kernel)⟩
theorem kX8_159 : Cond.methodLink RX8 159 yX8_without ∈ GW := gw_mem 545 (by decide +kernel) (by decide +kernel)
theorem kX8_163 : Cond.methodLink RX8 163 yX8_needClaim ∈ GW := gw_mem 552 (by decide +kernel) (by decide +kernel)
theorem bX8_needClaim : CBv yX8_needClaim cX8_needClaim 2 none 1 := ⟨⟨gw_mem 555 (by decide +kernel) (by decide +kernel), gw_mem 13 (by decide +kernel) (by decide +kernel), by decide +kernel, by decide⟩, gw_mem 554 (by decide +kernel) (by decide +kernel), gw_sel 6 (by decide +kernel) (by decide +kernel)⟩
theorem kX8_166 : Cond.methodLink RX8 166 yX7_reach ∈ GW := gw_mem 557 (by decide +kernel) (by decide +kernel)
theorem kX8_169 : Cond.methodLink RX8 169 yX7_distance ∈ GW := gw_mem 603 (by decide +kernel) (by decide +kernel)
theorem bX7_distance : CBv yX7_distance cX7_distance 6 (some .int) 3 := ⟨⟨gw_mem 606 (by decide +kernel) (by decide +kernel), gw_mem 18 (by decide +kernel) (by decide +kernel), by decide +kernel, by decide⟩, gw_mem 604 (by decide +kernel) (by decide +kernel), gw_mem 605 (by decide +kernel) (by decide +kernel)⟩
theorem kX8_178 : Cond.methodLink RX8 178 yX7_part ∈ GW := gw_mem 624 (by decide +kernel) (by decide +kernel)
theorem bX7_part : CBv yX7_part cX7_part 3 (some .int) 2 := ⟨⟨gw_mem 627 (by decide +kernel) (by decide +kernel), gw_mem 18 (by decide +kernel) (by decide +kernel), by decide +kernel, by decide⟩, gw_mem 625 (by decide +kernel) (by decide +kernel), gw_mem 626 (by decide +kernel) (by decide +kernel)⟩
theorem kX8_181 : Cond.methodLink RX8 181 yX8_lowest ∈ GW := gw_mem 628 (by decide +kernel) (by decide +kernel)
theorem kX8_184 : Cond.methodLink RX8 184 yX3_countWith ∈ GW := gw_mem 645 (by decide +kernel) (by decide +kernel)
theorem kX8_187 : Cond.methodLink RX8 187 yX8_needPeace ∈ GW := gw_mem 662 (by decide +kernel) (by decide +kernel)
theorem bX8_needPeace : CBv yX8_needPeace cX8_needPeace 1 none 0 := ⟨⟨gw_mem 665 (by decide +kernel) (by decide +kernel), gw_mem 13 (by decide +kernel) (by decide +kernel), by decide +kernel, by decide⟩, gw_mem 664 (by decide +kernel) (by decide +kernel), gw_sel 12 (by decide +kernel) (by decide +kernel)⟩
theorem kX8_195 : Cond.methodLink RX8 195 yX3_riders ∈ GW := gw_mem 672 (by decide +kernel) (by decide +kernel)
theorem bX3_riders : CBv yX3_riders cX3_riders 4 (some .int) 1 := ⟨⟨gw_mem 675 (by decide +kernel) (by decide +kernel), gw_mem 19 (by decide +kernel) (by decide +kernel), by decide +kernel, by decide⟩, gw_mem 673 (by decide +kernel) (by decide +kernel), gw_mem 674 (by decide +kernel) (by decide +kernel)⟩
theorem kX8_202 : Cond.methodLink RX8 202 yX8_with ∈ GW := gw_mem 699 (by decide +kernel) (by decide +kernel)
theorem kX8_205 : Cond.methodLink RX8 205 yX8_needDays ∈ GW := gw_mem 704 (by decide +kernel) (by decide +kernel)
theorem bX8_needDays : CBv yX8_needDays cX8_needDays 2 none 1 := ⟨⟨gw_mem 707 (by decide +kernel) (by decide +kernel), gw_mem 13 (by decide +kernel) (by decide +kernel), by decide +kernel, by decide⟩, gw_mem 706 (by decide +kernel) (by decide +kernel), gw_sel 14 (by decide +kernel) (by decide +kernel)⟩
theorem kX8_208 : Cond.methodLink RX8 208 yX2_letPass ∈ GW := gw_mem 724 (by decide +kernel) (by decide +kernel)
theorem bX2_letPass : CBv yX2_letPass cX2_letPass 5 none 2 := ⟨⟨gw_mem 727 (by decide +kernel) (by decide +kernel), gw_mem 20 (by decide +kernel) (by decide +kernel), by decide +kernel, by decide⟩, gw_mem 725 (by decide +kernel) (by decide +kernel), gw_mem 726 (by decide +kernel) (by decide +kernel)⟩
theorem kX8_212 : Cond.methodLink RX8 212 yX1_copyFrom ∈ GW := gw_mem 799 (by decide +kernel) (by decide +kernel)
theorem bX1_copyFrom : CBv yX1_copyFrom cX1_copyFrom 2 none 1 := ⟨⟨gw_mem 802 (by decide +kernel) (by decide +kernel), gw_mem 21 (by decide +kernel) (by decide +kernel), by decide +kernel, by decide⟩, gw_mem 800 (by decide +kernel) (by decide +kernel), gw_mem 801 (by decide +kernel) (by decide +kernel)⟩
theorem kX8_91 : Cond.methodLink RX8 91 yX5_append ∈ GW := gw_mem 957 (by decide +kernel) (by decide +kernel)
theorem bX5_append : CBv yX5_append cX5_append 3 none 1 := ⟨⟨gw_mem 960 (by decide +kernel) (by decide +kernel), gw_mem 14 (by decide +kernel) (by decide +kernel), by decide +kernel, by decide⟩, gw_mem 958 (by decide +kernel) (by decide +kernel), gw_mem 959 (by decide +kernel) (by decide +kernel)⟩
theorem kX8_223 : Cond.constantLong RX8 223 (31) ∈ GW := gw_mem 838 (by decide +kernel) (by decide +kernel)
theorem kX8_221 : Cond.constantLong RX8 221 (947) ∈ GW := gw_mem 837 (by decide +kernel) (by decide +kernel)
theorem kX8_225 : Cond.methodLink RX8 225 yX8_digestStatements ∈ GW := gw_mem 839 (by decide +kernel) (by decide +kernel)
theorem bX8_digestStatements : CBv yX8_digestStatements cX8_digestStatements 6 (some .long) 1 := ⟨⟨gw_mem 842 (by decide +kernel) (by decide +kernel), gw_mem 13 (by decide +kernel) (by decide +kernel), by decide +kernel, by decide⟩, gw_mem 841 (by decide +kernel) (by decide +kernel), gw_sel 20 (by decide +kernel) (by decide +kernel)⟩
theorem kX8_229 : Cond.methodLink RX8 229 yX8_digestClaims ∈ GW := gw_mem 843 (by decide +kernel) (by decide +kernel)
theorem bX8_digestClaims : CBv yX8_digestClaims cX8_digestClaims 6 (some .long) 1 := ⟨⟨gw_mem 846 (by decide +kernel) (by decide +kernel), gw_mem 13 (by decide +kernel) (by decide +kernel), by decide +kernel, by decide⟩, gw_mem 845 (by decide +kernel) (by decide +kernel), gw_sel 21 (by decide +kernel) (by decide +kernel)⟩
theorem kX8_232 : Cond.methodLink RX8 232 yX8_digestPeace ∈ GW := gw_mem 847 (by decide +kernel) (by decide +kernel)
theorem bX8_digestPeace : CBv yX8_digestPeace cX8_digestPeace 7 (some .long) 1 := ⟨⟨gw_mem 850 (by decide +kernel) (by decide +kernel), gw_mem 13 (by decide +kernel) (by decide +kernel), by decide +kernel, by decide⟩, gw_mem 849 (by decide +kernel) (by decide +kernel), gw_sel 22 (by decide +kernel) (by decide +kernel)⟩
def f_X8_families   (x : XS) : Option (Int32 × XS) := some ((x.1 21 0), x)

set_option maxHeartbeats 4000000 in
set_option maxRecDepth 100000 in
theorem c_X8_families {g : Gx} {a : Nat → Nat} {x : XS}    {u : Int32 × XS}  (h : f_X8_families   x = some u) : Mx g yX8_families cX8_families 1 (some .int) 9 0 0 LF a x [.ref (a 0)] (pr (some (.int u.1)) u.2) := by
  refine Mx_of (by decide +kernel) (Nat.le_of_ble_eq_true rfl) ?_
  intro k hk he hg
  subst hg
  rw [f_X8_families] at h
  refine xaload_n hk dX8_families_0 rfl ?_
  refine xgetR (ci := 8) (f := 3) hk dX8_families_1 ⟨rfl, by decide, _, rfl, rfl⟩ kX8_30 ?_
  refine xgetNI (ci := 0) (f := 0) hk dX8_families_4 ⟨rfl, by decide, _, rfl, rfl⟩ kX8_113 ?_
  refine xiret hk he dX8_families_7 ⟨by decide, by decide⟩ ?_
  obtain rfl := Option.some.inj h
  exact ⟨rfl, rfl⟩

def f_X8_statements   (x : XS) : Option (Int32 × XS) := some ((x.1 21 1), x)

set_option maxHeartbeats 4000000 in
set_option maxRecDepth 100000 in
theorem c_X8_statements {g : Gx} {a : Nat → Nat} {x : XS}    {u : Int32 × XS}  (h : f_X8_statements   x = some u) : Mx g yX8_statements cX8_statements 1 (some .int) 9 0 0 LF a x [.ref (a 0)] (pr (some (.int u.1)) u.2) := by
  refine Mx_of (by decide +kernel) (Nat.le_of_ble_eq_true rfl) ?_
  intro k hk he hg
  subst hg
  rw [f_X8_statements] at h
  refine xaload_n hk dX8_statements_0 rfl ?_
  refine xgetR (ci := 8) (f := 3) hk dX8_statements_1 ⟨rfl, by decide, _, rfl, rfl⟩ kX8_30 ?_
  refine xgetNI (ci := 0) (f := 1) hk dX8_statements_4 ⟨rfl, by decide, _, rfl, rfl⟩ kX8_116 ?_
  refine xiret hk he dX8_statements_7 ⟨by decide, by decide⟩ ?_
  obtain rfl := Option.some.inj h
  exact ⟨rfl, rfl⟩

def f_X8_orders   (x : XS) : Option (Int32 × XS) := some ((x.1 21 7), x)

set_option maxHeartbeats 4000000 in
set_option maxRecDepth 100000 in
theorem c_X8_orders {g : Gx} {a : Nat → Nat} {x : XS}    {u : Int32 × XS}  (h : f_X8_orders   x = some u) : Mx g yX8_orders cX8_orders 1 (some .int) 9 0 0 LF a x [.ref (a 0)] (pr (some (.int u.1)) u.2) := by
  refine Mx_of (by decide +kernel) (Nat.le_of_ble_eq_true rfl) ?_
  intro k hk he hg
  subst hg
  rw [f_X8_orders] at h
  refine xaload_n hk dX8_orders_0 rfl ?_
  refine xgetR (ci := 8) (f := 3) hk dX8_orders_1 ⟨rfl, by decide, _, rfl, rfl⟩ kX8_30 ?_
  refine xgetNI (ci := 0) (f := 7) hk dX8_orders_4 ⟨rfl, by decide, _, rfl, rfl⟩ kX8_119 ?_
  refine xiret hk he dX8_orders_7 ⟨by decide, by decide⟩ ?_
  obtain rfl := Option.some.inj h
  exact ⟨rfl, rfl⟩

def f_X8_days   (x : XS) : Option (Int32 × XS) := some ((x.1 46 0), x)

set_option maxHeartbeats 4000000 in
set_option maxRecDepth 100000 in
theorem c_X8_days {g : Gx} {a : Nat → Nat} {x : XS}    {u : Int32 × XS}  (h : f_X8_days   x = some u) : Mx g yX8_days cX8_days 1 (some .int) 9 0 0 LF a x [.ref (a 0)] (pr (some (.int u.1)) u.2) := by
  refine Mx_of (by decide +kernel) (Nat.le_of_ble_eq_true rfl) ?_
  intro k hk he hg
  subst hg
  rw [f_X8_days] at h
  refine xaload_n hk dX8_days_0 rfl ?_
  refine xgetR (ci := 8) (f := 8) hk dX8_days_1 ⟨rfl, by decide, _, rfl, rfl⟩ kX8_70 ?_
  refine xgetNI (ci := 1) (f := 0) hk dX8_days_4 ⟨rfl, by decide, _, rfl, rfl⟩ kX8_122 ?_
  refine xiret hk he dX8_days_7 ⟨by decide, by decide⟩ ?_
  obtain rfl := Option.some.inj h
  exact ⟨rfl, rfl⟩

def f_X8_ordersCarriedOut   (x : XS) : Option (Int32 × XS) := some ((x.1 46 2), x)

set_option maxHeartbeats 4000000 in
set_option maxRecDepth 100000 in
theorem c_X8_ordersCarriedOut {g : Gx} {a : Nat → Nat} {x : XS}    {u : Int32 × XS}  (h : f_X8_ordersCarriedOut   x = some u) : Mx g yX8_ordersCarriedOut cX8_ordersCarriedOut 1 (some .int) 9 0 0 LF a x [.ref (a 0)] (pr (some (.int u.1)) u.2) := by
  refine Mx_of (by decide +kernel) (Nat.le_of_ble_eq_true rfl) ?_
  intro k hk he hg
  subst hg
  rw [f_X8_ordersCarriedOut] at h
  refine xaload_n hk dX8_ordersCarriedOut_0 rfl ?_
  refine xgetR (ci := 8) (f := 8) hk dX8_ordersCarriedOut_1 ⟨rfl, by decide, _, rfl, rfl⟩ kX8_70 ?_
  refine xgetNI (ci := 1) (f := 2) hk dX8_ordersCarriedOut_4 ⟨rfl, by decide, _, rfl, rfl⟩ kX8_125 ?_
  refine xiret hk he dX8_ordersCarriedOut_7 ⟨by decide, by decide⟩ ?_
  obtain rfl := Option.some.inj h
  exact ⟨rfl, rfl⟩

def f_X8_standing   (x : XS) : Option (Int32 × XS) := some ((bcI (x.1 46 1)), x)

set_option maxHeartbeats 4000000 in
set_option maxRecDepth 100000 in
theorem c_X8_standing {g : Gx} {a : Nat → Nat} {x : XS}    {u : Int32 × XS}  (h : f_X8_standing   x = some u) : Mx g yX8_standing cX8_standing 1 (some .int) 9 0 0 LF a x [.ref (a 0)] (pr (some (.int u.1)) u.2) := by
  refine Mx_of (by decide +kernel) (Nat.le_of_ble_eq_true rfl) ?_
  intro k hk he hg
  subst hg
  rw [f_X8_standing] at h
  refine xaload_n hk dX8_standing_0 rfl ?_
  refine xgetR (ci := 8) (f := 8) hk dX8_standing_1 ⟨rfl, by decide, _, rfl, rfl⟩ kX8_70 ?_
  refine xgetNI (ci := 1) (f := 1) hk dX8_standing_4 ⟨rfl, by decide, _, rfl, rfl⟩ kX8_128 ?_
  refine xcallS hk c_J6_bitCount_0f7a4 bJ6_bitCount_0f7a4 kX8_131 dX8_standing_7 rfl rfl (by first | decide | omega) ⟨by decide, by decide⟩ (Nat.le_of_ble_eq_true rfl) (det ?_)
  refine xiret hk he dX8_standing_10 ⟨by decide, by decide⟩ ?_
  obtain rfl := Option.some.inj h
  exact ⟨rfl, rfl⟩

def f_X8_parts   (x : XS) : Option (Int32 × XS) := some (((webLook (x.1 46 1) x).1 37 4), (webLook (x.1 46 1) x))

set_option maxHeartbeats 4000000 in
set_option maxRecDepth 100000 in
theorem c_X8_parts {g : Gx} {a : Nat → Nat} {x : XS}    {u : Int32 × XS}  (h : f_X8_parts   x = some u) : Mx g yX8_parts cX8_parts 1 (some .int) 9 0 0 LF a x [.ref (a 0)] (pr (some (.int u.1)) u.2) := by
  refine Mx_of (by decide +kernel) (Nat.le_of_ble_eq_true rfl) ?_
  intro k hk he hg
  subst hg
  rw [f_X8_parts] at h
  refine xaload_n hk dX8_parts_0 rfl ?_
  refine xgetR (ci := 8) (f := 5) hk dX8_parts_1 ⟨rfl, by decide, _, rfl, rfl⟩ kX8_47 ?_
  refine xaload_n hk dX8_parts_4 rfl ?_
  refine xgetR (ci := 8) (f := 8) hk dX8_parts_5 ⟨rfl, by decide, _, rfl, rfl⟩ kX8_70 ?_
  refine xgetNI (ci := 1) (f := 1) hk dX8_parts_8 ⟨rfl, by decide, _, rfl, rfl⟩ kX8_128 ?_
  refine xcallV hk c_X7_countParts bX7_countParts kX8_175 dX8_parts_11 rfl ⟨_, _, _, _, rfl, rfl⟩ rfl (by first | decide | omega) ⟨by decide, by decide⟩ (Nat.le_of_ble_eq_true rfl) (det ?_)
  refine xiret hk he dX8_parts_14 ⟨by decide, by decide⟩ ?_
  obtain rfl := Option.some.inj h
  exact ⟨rfl, rfl⟩

def f_X8_isPeacePossible   (x : XS) : Option (Bool × XS) := (if (countF x (x.1 46 1)) ≤ 0 then some (false, (landLook (x.1 46 1) x)) else some (true, (landLook (x.1 46 1) x)))

set_option maxHeartbeats 4000000 in
set_option maxRecDepth 100000 in
theorem c_X8_isPeacePossible {g : Gx} {a : Nat → Nat} {x : XS}    {u : Bool × XS}  (h : f_X8_isPeacePossible   x = some u) : Mx g yX8_isPeacePossible cX8_isPeacePossible 1 (some .boolean) 9 0 0 LF a x [.ref (a 0)] (pr (some (.int (b2i u.1))) u.2) := by
  refine Mx_of (by decide +kernel) (Nat.le_of_ble_eq_true rfl) ?_
  intro k hk he hg
  subst hg
  rw [f_X8_isPeacePossible] at h
  refine xaload_n hk dX8_isPeacePossible_0 rfl ?_
  refine xgetR (ci := 8) (f := 6) hk dX8_isPeacePossible_1 ⟨rfl, by decide, _, rfl, rfl⟩ kX8_54 ?_
  refine xaload_n hk dX8_isPeacePossible_4 rfl ?_
  refine xgetR (ci := 8) (f := 8) hk dX8_isPeacePossible_5 ⟨rfl, by decide, _, rfl, rfl⟩ kX8_70 ?_
  refine xgetNI (ci := 1) (f := 1) hk dX8_isPeacePossible_8 ⟨rfl, by decide, _, rfl, rfl⟩ kX8_128 ?_
  refine xcallV hk c_X3_count bX3_count kX8_156 dX8_isPeacePossible_11 rfl ⟨_, _, _, _, rfl, rfl⟩ rfl (by first | decide | omega) ⟨by decide, by decide⟩ (Nat.le_of_ble_eq_true rfl) (det ?_)
  refine xif_le hk 21 dX8_isPeacePossible_14 (by decide) (fun h14 => ?_) (fun h14 => ?_)
  · rw [if_pos h14] at h
    refine xiconst (v := 0) hk dX8_isPeacePossible_21 (by decide) ?_
    refine xzret hk he dX8_isPeacePossible_22 ⟨by decide, by decide⟩ (by first | with_reducible exact nar_b _ | rfl) ?_
    obtain rfl := Option.some.inj h
    exact ⟨rfl, rfl⟩
  · rw [if_neg h14] at h
    refine xiconst (v := 1) hk dX8_isPeacePossible_17 (by decide) ?_
    refine xgoto hk 22 dX8_isPeacePossible_18 (by decide) ?_
    refine xzret hk he dX8_isPeacePossible_22 ⟨by decide, by decide⟩ (by first | with_reducible exact nar_b _ | rfl) ?_
    obtain rfl := Option.some.inj h
    exact ⟨rfl, rfl⟩

def f_X8_peaces   (x : XS) : Option (Int32 × XS) := some ((countF x (x.1 46 1)), (landLook (x.1 46 1) x))

set_option maxHeartbeats 4000000 in
set_option maxRecDepth 100000 in
theorem c_X8_peaces {g : Gx} {a : Nat → Nat} {x : XS}    {u : Int32 × XS}  (h : f_X8_peaces   x = some u) : Mx g yX8_peaces cX8_peaces 1 (some .int) 9 0 0 LF a x [.ref (a 0)] (pr (some (.int u.1)) u.2) := by
  refine Mx_of (by decide +kernel) (Nat.le_of_ble_eq_true rfl) ?_
  intro k hk he hg
  subst hg
  rw [f_X8_peaces] at h
  refine xaload_n hk dX8_peaces_0 rfl ?_
  refine xgetR (ci := 8) (f := 6) hk dX8_peaces_1 ⟨rfl, by decide, _, rfl, rfl⟩ kX8_54 ?_
  refine xaload_n hk dX8_peaces_4 rfl ?_
  refine xgetR (ci := 8) (f := 8) hk dX8_peaces_5 ⟨rfl, by decide, _, rfl, rfl⟩ kX8_70 ?_
  refine xgetNI (ci := 1) (f := 1) hk dX8_peaces_8 ⟨rfl, by decide, _, rfl, rfl⟩ kX8_128 ?_
  refine xcallV hk c_X3_count bX3_count kX8_156 dX8_peaces_11 rfl ⟨_, _, _, _, rfl, rfl⟩ rfl (by first | decide | omega) ⟨by decide, by decide⟩ (Nat.le_of_ble_eq_true rfl) (det ?_)
  refine xiret hk he dX8_peaces_14 ⟨by decide, by decide⟩ ?_
  obtain rfl := Option.some.inj h
  exact ⟨rfl, rfl⟩

def f_X8_fewestToBreak   (x : XS) : Option (Int32 × XS) := some ((fewF x (x.1 46 1)), x)

set_option maxHeartbeats 4000000 in
set_option maxRecDepth 100000 in
theorem c_X8_fewestToBreak {g : Gx} {a : Nat → Nat} {x : XS}    {u : Int32 × XS}  (h : f_X8_fewestToBreak   x = some u) : Mx g yX8_fewestToBreak cX8_fewestToBreak 1 (some .int) 9 0 0 LF a x [.ref (a 0)] (pr (some (.int u.1)) u.2) := by
  refine Mx_of (by decide +kernel) (Nat.le_of_ble_eq_true rfl) ?_
  intro k hk he hg
  subst hg
  rw [f_X8_fewestToBreak] at h
  refine xaload_n hk dX8_fewestToBreak_0 rfl ?_
  refine xgetR (ci := 8) (f := 6) hk dX8_fewestToBreak_1 ⟨rfl, by decide, _, rfl, rfl⟩ kX8_54 ?_
  refine xaload_n hk dX8_fewestToBreak_4 rfl ?_
  refine xgetR (ci := 8) (f := 8) hk dX8_fewestToBreak_5 ⟨rfl, by decide, _, rfl, rfl⟩ kX8_70 ?_
  refine xgetNI (ci := 1) (f := 1) hk dX8_fewestToBreak_8 ⟨rfl, by decide, _, rfl, rfl⟩ kX8_128 ?_
  refine xcallV hk c_X3_fewestNotHolding bX3_fewestNotHolding kX8_216 dX8_fewestToBreak_11 rfl ⟨_, _, _, _, rfl, rfl⟩ rfl (by first | decide | omega) ⟨by decide, by decide⟩ (Nat.le_of_ble_eq_true rfl) (det ?_)
  refine xiret hk he dX8_fewestToBreak_14 ⟨by decide, by decide⟩ ?_
  obtain rfl := Option.some.inj h
  exact ⟨rfl, rfl⟩

def f_X8_needStatement  (p : Int32) (x : XS) : Option RT := (if p < 0 then some (.inl ("java/lang/IndexOutOfBoundsException", x)) else (if p < (x.1 21 1) then some (.inr (none, x)) else some (.inl ("java/lang/IndexOutOfBoundsException", x))))
set_option maxHeartbeats 4000000 in
set_option maxRecDepth 100000 in
theorem c_X8_needStatement {g : Gx} {a : Nat → Nat} {x : XS} {p : Int32} {u : RT} (hfl : g.1.stackTraces = false) (h : f_X8_needStatement p x = some u) : Tx g yX8_needStatement cX8_needStatement 2 none 6 1 6 LF a x [.ref (a 0), .int p] u := by
  refine Tx_of (by decide +kernel) (Nat.le_of_ble_eq_true rfl) ?_
  intro k hk he hg
  subst hg
  rw [f_X8_needStatement] at h
  refine xiload_n hk dX8_needStatement_0 rfl ?_
  refine xif_lt hk 15 dX8_needStatement_1 (by decide) (fun h1 => ?_) (fun h1 => ?_)
  · rw [if_pos h1] at h
    refine xthrow (E := "java/lang/IndexOutOfBoundsException") hk he hfl 37 ⟨by decide +kernel, rfl⟩ okIOB dX8_needStatement_15 dX8_needStatement_18 dX8_needStatement_19 dX8_needStatement_21 dX8_needStatement_24 ⟨by decide, by decide⟩ ⟨Nat.le_of_ble_eq_true rfl, Nat.le_of_ble_eq_true rfl⟩ (Option.some.inj h).symm
  · rw [if_neg h1] at h
    refine xiload_n hk dX8_needStatement_4 rfl ?_
    refine xaload_n hk dX8_needStatement_5 rfl ?_
    refine xgetR (ci := 8) (f := 3) hk dX8_needStatement_6 ⟨rfl, by decide, _, rfl, rfl⟩ kX8_30 ?_
    refine xgetNI (ci := 0) (f := 1) hk dX8_needStatement_9 ⟨rfl, by decide, _, rfl, rfl⟩ kX8_116 ?_
    refine xicmp_lt hk 25 dX8_needStatement_12 (by decide) (fun h12 => ?_) (fun h12 => ?_)
    · rw [if_pos h12] at h
      exact xvretT hk he dX8_needStatement_25 ⟨Nat.le_of_ble_eq_true rfl, Nat.le_of_ble_eq_true rfl⟩ (Option.some.inj h).symm
    · rw [if_neg h12] at h
      refine xthrow (E := "java/lang/IndexOutOfBoundsException") hk he hfl 37 ⟨by decide +kernel, rfl⟩ okIOB dX8_needStatement_15 dX8_needStatement_18 dX8_needStatement_19 dX8_needStatement_21 dX8_needStatement_24 ⟨by decide, by decide⟩ ⟨Nat.le_of_ble_eq_true rfl, Nat.le_of_ble_eq_true rfl⟩ (Option.some.inj h).symm
theorem n_X8_needStatement {x y : XS} {p : Int32} {v : Option Value} (h : f_X8_needStatement p x = some (.inr (v, y))) : v = none := by
  unfold f_X8_needStatement at h
  repeat' (split at h)
  all_goals first | (cases h; rfl) | cases h

def f_X8_needStanding  (p : Int32) (x : XS) : Option RT := (if (b2i (hasB (x.1 46 1) p)) = 0 then some (.inl ("java/lang/IllegalStateException", x)) else some (.inr (none, x)))
set_option maxHeartbeats 4000000 in
set_option maxRecDepth 100000 in
theorem c_X8_needStanding {g : Gx} {a : Nat → Nat} {x : XS} {p : Int32} {u : RT} (hfl : g.1.stackTraces = false) (h : f_X8_needStanding p x = some u) : Tx g yX8_needStanding cX8_needStanding 2 none 6 1 6 LF a x [.ref (a 0), .int p] u := by
  refine Tx_of (by decide +kernel) (Nat.le_of_ble_eq_true rfl) ?_
  intro k hk he hg
  subst hg
  rw [f_X8_needStanding] at h
  refine xaload_n hk dX8_needStanding_0 rfl ?_
  refine xgetR (ci := 8) (f := 8) hk dX8_needStanding_1 ⟨rfl, by decide, _, rfl, rfl⟩ kX8_70 ?_
  refine xgetNI (ci := 1) (f := 1) hk dX8_needStanding_4 ⟨rfl, by decide, _, rfl, rfl⟩ kX8_128 ?_
  refine xiload_n hk dX8_needStanding_7 rfl ?_
  refine xcallS hk c_X8_has bX8_has kX8_149 dX8_needStanding_8 rfl rfl (by first | decide | omega) ⟨by decide, by decide⟩ (Nat.le_of_ble_eq_true rfl) (det ?_)
  refine xif_ne hk 24 dX8_needStanding_11 (by decide) (fun h11 => ?_) (fun h11 => ?_)
  · rw [if_neg h11] at h
    exact xvretT hk he dX8_needStanding_24 ⟨Nat.le_of_ble_eq_true rfl, Nat.le_of_ble_eq_true rfl⟩ (Option.some.inj h).symm
  · rw [if_pos h11] at h
    refine xthrow (E := "java/lang/IllegalStateException") hk he hfl 38 ⟨by decide +kernel, rfl⟩ okISE dX8_needStanding_14 dX8_needStanding_17 dX8_needStanding_18 dX8_needStanding_20 dX8_needStanding_23 ⟨by decide, by decide⟩ ⟨Nat.le_of_ble_eq_true rfl, Nat.le_of_ble_eq_true rfl⟩ (Option.some.inj h).symm
theorem n_X8_needStanding {x y : XS} {p : Int32} {v : Option Value} (h : f_X8_needStanding p x = some (.inr (v, y))) : v = none := by
  unfold f_X8_needStanding at h
  repeat' (split at h)
  all_goals first | (cases h; rfl) | cases h

def f_X8_needClaim  (p : Int32) (x : XS) : Option RT := (if p < 0 then some (.inl ("java/lang/IndexOutOfBoundsException", x)) else (if p < (2 * (x.1 21 0)) then some (.inr (none, x)) else some (.inl ("java/lang/IndexOutOfBoundsException", x))))
set_option maxHeartbeats 4000000 in
set_option maxRecDepth 100000 in
theorem c_X8_needClaim {g : Gx} {a : Nat → Nat} {x : XS} {p : Int32} {u : RT} (hfl : g.1.stackTraces = false) (h : f_X8_needClaim p x = some u) : Tx g yX8_needClaim cX8_needClaim 2 none 6 1 6 LF a x [.ref (a 0), .int p] u := by
  refine Tx_of (by decide +kernel) (Nat.le_of_ble_eq_true rfl) ?_
  intro k hk he hg
  subst hg
  rw [f_X8_needClaim] at h
  refine xiload_n hk dX8_needClaim_0 rfl ?_
  refine xif_lt hk 17 dX8_needClaim_1 (by decide) (fun h1 => ?_) (fun h1 => ?_)
  · rw [if_pos h1] at h
    refine xthrow (E := "java/lang/IndexOutOfBoundsException") hk he hfl 39 ⟨by decide +kernel, rfl⟩ okIOB dX8_needClaim_17 dX8_needClaim_20 dX8_needClaim_21 dX8_needClaim_23 dX8_needClaim_26 ⟨by decide, by decide⟩ ⟨Nat.le_of_ble_eq_true rfl, Nat.le_of_ble_eq_true rfl⟩ (Option.some.inj h).symm
  · rw [if_neg h1] at h
    refine xiload_n hk dX8_needClaim_4 rfl ?_
    refine xiconst (v := 2) hk dX8_needClaim_5 (by decide) ?_
    refine xaload_n hk dX8_needClaim_6 rfl ?_
    refine xgetR (ci := 8) (f := 3) hk dX8_needClaim_7 ⟨rfl, by decide, _, rfl, rfl⟩ kX8_30 ?_
    refine xgetNI (ci := 0) (f := 0) hk dX8_needClaim_10 ⟨rfl, by decide, _, rfl, rfl⟩ kX8_113 ?_
    refine ximul hk dX8_needClaim_13 ?_
    refine xicmp_lt hk 27 dX8_needClaim_14 (by decide) (fun h14 => ?_) (fun h14 => ?_)
    · rw [if_pos h14] at h
      exact xvretT hk he dX8_needClaim_27 ⟨Nat.le_of_ble_eq_true rfl, Nat.le_of_ble_eq_true rfl⟩ (Option.some.inj h).symm
    · rw [if_neg h14] at h
      refine xthrow (E := "java/lang/IndexOutOfBoundsException") hk he hfl 39 ⟨by decide +kernel, rfl⟩ okIOB dX8_needClaim_17 dX8_needClaim_20 dX8_needClaim_21 dX8_needClaim_23 dX8_needClaim_26 ⟨by decide, by decide⟩ ⟨Nat.le_of_ble_eq_true rfl, Nat.le_of_ble_eq_true rfl⟩ (Option.some.inj h).symm
theorem n_X8_needClaim {x y : XS} {p : Int32} {v : Option Value} (h : f_X8_needClaim p x = some (.inr (v, y))) : v = none := by
  unfold f_X8_needClaim at h
  repeat' (split at h)
  all_goals first | (cases h; rfl) | cases h

def f_X8_needPeace   (x : XS) : Option RT := (if (countF x (x.1 46 1)) = 0 then some (.inl ("java/lang/IllegalStateException", (landLook (x.1 46 1) x))) else some (.inr (none, (landLook (x.1 46 1) x))))
set_option maxHeartbeats 4000000 in
set_option maxRecDepth 100000 in
theorem c_X8_needPeace {g : Gx} {a : Nat → Nat} {x : XS}  {u : RT} (hfl : g.1.stackTraces = false) (h : f_X8_needPeace  x = some u) : Tx g yX8_needPeace cX8_needPeace 1 none 6 1 6 LF a x [.ref (a 0)] u := by
  refine Tx_of (by decide +kernel) (Nat.le_of_ble_eq_true rfl) ?_
  intro k hk he hg
  subst hg
  rw [f_X8_needPeace] at h
  refine xaload_n hk dX8_needPeace_0 rfl ?_
  refine xgetR (ci := 8) (f := 6) hk dX8_needPeace_1 ⟨rfl, by decide, _, rfl, rfl⟩ kX8_54 ?_
  refine xaload_n hk dX8_needPeace_4 rfl ?_
  refine xgetR (ci := 8) (f := 8) hk dX8_needPeace_5 ⟨rfl, by decide, _, rfl, rfl⟩ kX8_70 ?_
  refine xgetNI (ci := 1) (f := 1) hk dX8_needPeace_8 ⟨rfl, by decide, _, rfl, rfl⟩ kX8_128 ?_
  refine xcallV hk c_X3_count bX3_count kX8_156 dX8_needPeace_11 rfl ⟨_, _, _, _, rfl, rfl⟩ rfl (by first | decide | omega) ⟨by decide, by decide⟩ (Nat.le_of_ble_eq_true rfl) (det ?_)
  refine xif_ne hk 27 dX8_needPeace_14 (by decide) (fun h14 => ?_) (fun h14 => ?_)
  · rw [if_neg h14] at h
    exact xvretT hk he dX8_needPeace_27 ⟨Nat.le_of_ble_eq_true rfl, Nat.le_of_ble_eq_true rfl⟩ (Option.some.inj h).symm
  · rw [if_pos h14] at h
    refine xthrow (E := "java/lang/IllegalStateException") hk he hfl 40 ⟨by decide +kernel, rfl⟩ okISE dX8_needPeace_17 dX8_needPeace_20 dX8_needPeace_21 dX8_needPeace_23 dX8_needPeace_26 ⟨by decide, by decide⟩ ⟨Nat.le_of_ble_eq_true rfl, Nat.le_of_ble_eq_true rfl⟩ (Option.some.inj h).symm
theorem n_X8_needPeace {x y : XS}  {v : Option Value} (h : f_X8_needPeace  x = some (.inr (v, y))) : v = none := by
  unfold f_X8_needPeace at h
  repeat' (split at h)
  all_goals first | (cases h; rfl) | cases h

def f_X8_needDays  (p : Int32) (x : XS) : Option RT := (if p < 1 then some (.inl ("java/lang/IllegalArgumentException", x)) else (if p ≤ 30 then some (.inr (none, x)) else some (.inl ("java/lang/IllegalArgumentException", x))))
set_option maxHeartbeats 4000000 in
set_option maxRecDepth 100000 in
theorem c_X8_needDays {g : Gx} {a : Nat → Nat} {x : XS} {p : Int32} {u : RT} (hfl : g.1.stackTraces = false) (h : f_X8_needDays p x = some u) : Tx g yX8_needDays cX8_needDays 2 none 6 1 6 LF a x [.ref (a 0), .int p] u := by
  refine Tx_of (by decide +kernel) (Nat.le_of_ble_eq_true rfl) ?_
  intro k hk he hg
  subst hg
  rw [f_X8_needDays] at h
  refine xiload_n hk dX8_needDays_0 rfl ?_
  refine xiconst (v := 1) hk dX8_needDays_1 (by decide) ?_
  refine xicmp_lt hk 11 dX8_needDays_2 (by decide) (fun h2 => ?_) (fun h2 => ?_)
  · rw [if_pos h2] at h
    refine xthrow (E := "java/lang/IllegalArgumentException") hk he hfl 41 ⟨by decide +kernel, rfl⟩ okIAE dX8_needDays_11 dX8_needDays_14 dX8_needDays_15 dX8_needDays_17 dX8_needDays_20 ⟨by decide, by decide⟩ ⟨Nat.le_of_ble_eq_true rfl, Nat.le_of_ble_eq_true rfl⟩ (Option.some.inj h).symm
  · rw [if_neg h2] at h
    refine xiload_n hk dX8_needDays_5 rfl ?_
    refine xbipush (v := 30) hk dX8_needDays_6 (by decide) ?_
    refine xicmp_le hk 21 dX8_needDays_8 (by decide) (fun h8 => ?_) (fun h8 => ?_)
    · rw [if_pos h8] at h
      exact xvretT hk he dX8_needDays_21 ⟨Nat.le_of_ble_eq_true rfl, Nat.le_of_ble_eq_true rfl⟩ (Option.some.inj h).symm
    · rw [if_neg h8] at h
      refine xthrow (E := "java/lang/IllegalArgumentException") hk he hfl 41 ⟨by decide +kernel, rfl⟩ okIAE dX8_needDays_11 dX8_needDays_14 dX8_needDays_15 dX8_needDays_17 dX8_needDays_20 ⟨by decide, by decide⟩ ⟨Nat.le_of_ble_eq_true rfl, Nat.le_of_ble_eq_true rfl⟩ (Option.some.inj h).symm
theorem n_X8_needDays {x y : XS} {p : Int32} {v : Option Value} (h : f_X8_needDays p x = some (.inr (v, y))) : v = none := by
  unfold f_X8_needDays at h
  repeat' (split at h)
  all_goals first | (cases h; rfl) | cases h

def f_X8_kindOf  (p : Int32) (x : XS) : Option RT := ob (f_X8_needStatement p x) (fun r2 => rbo r2 (fun x2 => some (.inr (some (.int (entI x2 22 20 p)), x2))))
set_option maxHeartbeats 4000000 in
set_option maxRecDepth 100000 in
theorem c_X8_kindOf {g : Gx} {a : Nat → Nat} {x : XS} {p : Int32} {u : RT} (hfl : g.1.stackTraces = false) (h : f_X8_kindOf p x = some u) : Tx g yX8_kindOf cX8_kindOf 2 (some .int) 9 3 18 LF a x [.ref (a 0), .int p] u := by
  refine Tx_of (by decide +kernel) (Nat.le_of_ble_eq_true rfl) ?_
  intro k hk he hg
  subst hg
  rw [f_X8_kindOf] at h
  refine xaload_n hk dX8_kindOf_0 rfl ?_
  refine xiload_n hk dX8_kindOf_1 rfl ?_
  obtain ⟨r2, e2, h⟩ := ob_some h
  refine xcallVT hk he (c_X8_needStatement hfl e2) bX8_needStatement kX8_137 dX8_kindOf_2 rfl ⟨_, _, _, _, rfl, rfl⟩ rfl (by first | decide | omega) ⟨Nat.le_of_ble_eq_true rfl, Nat.le_of_ble_eq_true rfl⟩ (Nat.le_of_ble_eq_true rfl) h ?_
  intro v2 x2 hr2 h
  obtain rfl := n_X8_needStatement (e2.trans (congrArg some hr2))
  refine xaload_n hk dX8_kindOf_5 rfl ?_
  refine xgetR (ci := 8) (f := 3) hk dX8_kindOf_6 ⟨rfl, by decide, _, rfl, rfl⟩ kX8_30 ?_
  refine xiload_n hk dX8_kindOf_9 rfl ?_
  refine xcallV hk c_X0_kind bX0_kind kX8_140 dX8_kindOf_10 rfl ⟨_, _, _, _, rfl, rfl⟩ rfl (by first | decide | omega) ⟨by decide, by decide⟩ (Nat.le_of_ble_eq_true rfl) (det ?_)
  exact xiretT hk he dX8_kindOf_13 ⟨Nat.le_of_ble_eq_true rfl, Nat.le_of_ble_eq_true rfl⟩ (Option.some.inj h).symm

def f_X8_firstClaimOf  (p : Int32) (x : XS) : Option RT := ob (f_X8_needStatement p x) (fun r2 => rbo r2 (fun x2 => some (.inr (some (.int (entI x2 23 20 p)), x2))))
set_option maxHeartbeats 4000000 in
set_option maxRecDepth 100000 in
theorem c_X8_firstClaimOf {g : Gx} {a : Nat → Nat} {x : XS} {p : Int32} {u : RT} (hfl : g.1.stackTraces = false) (h : f_X8_firstClaimOf p x = some u) : Tx g yX8_firstClaimOf cX8_firstClaimOf 2 (some .int) 9 3 18 LF a x [.ref (a 0), .int p] u := by
  refine Tx_of (by decide +kernel) (Nat.le_of_ble_eq_true rfl) ?_
  intro k hk he hg
  subst hg
  rw [f_X8_firstClaimOf] at h
  refine xaload_n hk dX8_firstClaimOf_0 rfl ?_
  refine xiload_n hk dX8_firstClaimOf_1 rfl ?_
  obtain ⟨r2, e2, h⟩ := ob_some h
  refine xcallVT hk he (c_X8_needStatement hfl e2) bX8_needStatement kX8_137 dX8_firstClaimOf_2 rfl ⟨_, _, _, _, rfl, rfl⟩ rfl (by first | decide | omega) ⟨Nat.le_of_ble_eq_true rfl, Nat.le_of_ble_eq_true rfl⟩ (Nat.le_of_ble_eq_true rfl) h ?_
  intro v2 x2 hr2 h
  obtain rfl := n_X8_needStatement (e2.trans (congrArg some hr2))
  refine xaload_n hk dX8_firstClaimOf_5 rfl ?_
  refine xgetR (ci := 8) (f := 3) hk dX8_firstClaimOf_6 ⟨rfl, by decide, _, rfl, rfl⟩ kX8_30 ?_
  refine xiload_n hk dX8_firstClaimOf_9 rfl ?_
  refine xcallV hk c_X0_first bX0_first kX8_143 dX8_firstClaimOf_10 rfl ⟨_, _, _, _, rfl, rfl⟩ rfl (by first | decide | omega) ⟨by decide, by decide⟩ (Nat.le_of_ble_eq_true rfl) (det ?_)
  exact xiretT hk he dX8_firstClaimOf_13 ⟨Nat.le_of_ble_eq_true rfl, Nat.le_of_ble_eq_true rfl⟩ (Option.some.inj h).symm

def f_X8_secondClaimOf  (p : Int32) (x : XS) : Option RT := ob (f_X8_needStatement p x) (fun r2 => rbo r2 (fun x2 => some (.inr (some (.int (entI x2 24 20 p)), x2))))
set_option maxHeartbeats 4000000 in
set_option maxRecDepth 100000 in
theorem c_X8_secondClaimOf {g : Gx} {a : Nat → Nat} {x : XS} {p : Int32} {u : RT} (hfl : g.1.stackTraces = false) (h : f_X8_secondClaimOf p x = some u) : Tx g yX8_secondClaimOf cX8_secondClaimOf 2 (some .int) 9 3 18 LF a x [.ref (a 0), .int p] u := by
  refine Tx_of (by decide +kernel) (Nat.le_of_ble_eq_true rfl) ?_
  intro k hk he hg
  subst hg
  rw [f_X8_secondClaimOf] at h
  refine xaload_n hk dX8_secondClaimOf_0 rfl ?_
  refine xiload_n hk dX8_secondClaimOf_1 rfl ?_
  obtain ⟨r2, e2, h⟩ := ob_some h
  refine xcallVT hk he (c_X8_needStatement hfl e2) bX8_needStatement kX8_137 dX8_secondClaimOf_2 rfl ⟨_, _, _, _, rfl, rfl⟩ rfl (by first | decide | omega) ⟨Nat.le_of_ble_eq_true rfl, Nat.le_of_ble_eq_true rfl⟩ (Nat.le_of_ble_eq_true rfl) h ?_
  intro v2 x2 hr2 h
  obtain rfl := n_X8_needStatement (e2.trans (congrArg some hr2))
  refine xaload_n hk dX8_secondClaimOf_5 rfl ?_
  refine xgetR (ci := 8) (f := 3) hk dX8_secondClaimOf_6 ⟨rfl, by decide, _, rfl, rfl⟩ kX8_30 ?_
  refine xiload_n hk dX8_secondClaimOf_9 rfl ?_
  refine xcallV hk c_X0_second bX0_second kX8_146 dX8_secondClaimOf_10 rfl ⟨_, _, _, _, rfl, rfl⟩ rfl (by first | decide | omega) ⟨by decide, by decide⟩ (Nat.le_of_ble_eq_true rfl) (det ?_)
  exact xiretT hk he dX8_secondClaimOf_13 ⟨Nat.le_of_ble_eq_true rfl, Nat.le_of_ble_eq_true rfl⟩ (Option.some.inj h).symm

def f_X8_stands  (p : Int32) (x : XS) : Option RT := ob (f_X8_needStatement p x) (fun r2 => rbo r2 (fun x2 => some (.inr (some (.int (b2i (hasB (x2.1 46 1) p))), x2))))
set_option maxHeartbeats 4000000 in
set_option maxRecDepth 100000 in
theorem c_X8_stands {g : Gx} {a : Nat → Nat} {x : XS} {p : Int32} {u : RT} (hfl : g.1.stackTraces = false) (h : f_X8_stands p x = some u) : Tx g yX8_stands cX8_stands 2 (some .boolean) 9 3 18 LF a x [.ref (a 0), .int p] u := by
  refine Tx_of (by decide +kernel) (Nat.le_of_ble_eq_true rfl) ?_
  intro k hk he hg
  subst hg
  rw [f_X8_stands] at h
  refine xaload_n hk dX8_stands_0 rfl ?_
  refine xiload_n hk dX8_stands_1 rfl ?_
  obtain ⟨r2, e2, h⟩ := ob_some h
  refine xcallVT hk he (c_X8_needStatement hfl e2) bX8_needStatement kX8_137 dX8_stands_2 rfl ⟨_, _, _, _, rfl, rfl⟩ rfl (by first | decide | omega) ⟨Nat.le_of_ble_eq_true rfl, Nat.le_of_ble_eq_true rfl⟩ (Nat.le_of_ble_eq_true rfl) h ?_
  intro v2 x2 hr2 h
  obtain rfl := n_X8_needStatement (e2.trans (congrArg some hr2))
  refine xaload_n hk dX8_stands_5 rfl ?_
  refine xgetR (ci := 8) (f := 8) hk dX8_stands_6 ⟨rfl, by decide, _, rfl, rfl⟩ kX8_70 ?_
  refine xgetNI (ci := 1) (f := 1) hk dX8_stands_9 ⟨rfl, by decide, _, rfl, rfl⟩ kX8_128 ?_
  refine xiload_n hk dX8_stands_12 rfl ?_
  refine xcallS hk c_X8_has bX8_has kX8_149 dX8_stands_13 rfl rfl (by first | decide | omega) ⟨by decide, by decide⟩ (Nat.le_of_ble_eq_true rfl) (det ?_)
  exact xzretT hk he dX8_stands_16 ⟨Nat.le_of_ble_eq_true rfl, Nat.le_of_ble_eq_true rfl⟩ (by first | with_reducible exact nar_b _ | rfl) (Option.some.inj h).symm

def f_X8_isNeedless  (p : Int32) (x : XS) : Option RT := ob (f_X8_needStatement p x) (fun r2 => rbo r2 (fun x2 => ob (f_X8_needStanding p x2) (fun r7 => rbo r7 (fun x7 => (if (countF (landLook (x7.1 46 1) x7) (withoutI ((landLook (x7.1 46 1) x7).1 46 1) p)) = (countF x7 (x7.1 46 1)) then some (.inr (some (.int 1), (landLook (withoutI ((landLook (x7.1 46 1) x7).1 46 1) p) (landLook (x7.1 46 1) x7)))) else some (.inr (some (.int 0), (landLook (withoutI ((landLook (x7.1 46 1) x7).1 46 1) p) (landLook (x7.1 46 1) x7)))))))))
set_option maxHeartbeats 4000000 in
set_option maxRecDepth 100000 in
theorem c_X8_isNeedless {g : Gx} {a : Nat → Nat} {x : XS} {p : Int32} {u : RT} (hfl : g.1.stackTraces = false) (h : f_X8_isNeedless p x = some u) : Tx g yX8_isNeedless cX8_isNeedless 3 (some .boolean) 9 3 18 LF a x [.ref (a 0), .int p] u := by
  refine Tx_of (by decide +kernel) (Nat.le_of_ble_eq_true rfl) ?_
  intro k hk he hg
  subst hg
  rw [f_X8_isNeedless] at h
  refine xaload_n hk dX8_isNeedless_0 rfl ?_
  refine xiload_n hk dX8_isNeedless_1 rfl ?_
  obtain ⟨r2, e2, h⟩ := ob_some h
  refine xcallVT hk he (c_X8_needStatement hfl e2) bX8_needStatement kX8_137 dX8_isNeedless_2 rfl ⟨_, _, _, _, rfl, rfl⟩ rfl (by first | decide | omega) ⟨Nat.le_of_ble_eq_true rfl, Nat.le_of_ble_eq_true rfl⟩ (Nat.le_of_ble_eq_true rfl) h ?_
  intro v2 x2 hr2 h
  obtain rfl := n_X8_needStatement (e2.trans (congrArg some hr2))
  refine xaload_n hk dX8_isNeedless_5 rfl ?_
  refine xiload_n hk dX8_isNeedless_6 rfl ?_
  obtain ⟨r7, e7, h⟩ := ob_some h
  refine xcallVT hk he (c_X8_needStanding hfl e7) bX8_needStanding kX8_153 dX8_isNeedless_7 rfl ⟨_, _, _, _, rfl, rfl⟩ rfl (by first | decide | omega) ⟨Nat.le_of_ble_eq_true rfl, Nat.le_of_ble_eq_true rfl⟩ (Nat.le_of_ble_eq_true rfl) h ?_
  intro v7 x7 hr7 h
  obtain rfl := n_X8_needStanding (e7.trans (congrArg some hr7))
  refine xaload_n hk dX8_isNeedless_10 rfl ?_
  refine xgetR (ci := 8) (f := 6) hk dX8_isNeedless_11 ⟨rfl, by decide, _, rfl, rfl⟩ kX8_54 ?_
  refine xaload_n hk dX8_isNeedless_14 rfl ?_
  refine xgetR (ci := 8) (f := 8) hk dX8_isNeedless_15 ⟨rfl, by decide, _, rfl, rfl⟩ kX8_70 ?_
  refine xgetNI (ci := 1) (f := 1) hk dX8_isNeedless_18 ⟨rfl, by decide, _, rfl, rfl⟩ kX8_128 ?_
  refine xcallV hk c_X3_count bX3_count kX8_156 dX8_isNeedless_21 rfl ⟨_, _, _, _, rfl, rfl⟩ rfl (by first | decide | omega) ⟨by decide, by decide⟩ (Nat.le_of_ble_eq_true rfl) (det ?_)
  refine xistore_n hk dX8_isNeedless_24 (by decide) ?_
  refine xaload_n hk dX8_isNeedless_25 rfl ?_
  refine xgetR (ci := 8) (f := 6) hk dX8_isNeedless_26 ⟨rfl, by decide, _, rfl, rfl⟩ kX8_54 ?_
  refine xaload_n hk dX8_isNeedless_29 rfl ?_
  refine xgetR (ci := 8) (f := 8) hk dX8_isNeedless_30 ⟨rfl, by decide, _, rfl, rfl⟩ kX8_70 ?_
  refine xgetNI (ci := 1) (f := 1) hk dX8_isNeedless_33 ⟨rfl, by decide, _, rfl, rfl⟩ kX8_128 ?_
  refine xiload_n hk dX8_isNeedless_36 rfl ?_
  refine xcallS hk c_X8_without bX8_without kX8_159 dX8_isNeedless_37 rfl rfl (by first | decide | omega) ⟨by decide, by decide⟩ (Nat.le_of_ble_eq_true rfl) (det ?_)
  refine xcallV hk c_X3_count bX3_count kX8_156 dX8_isNeedless_40 rfl ⟨_, _, _, _, rfl, rfl⟩ rfl (by first | decide | omega) ⟨by decide, by decide⟩ (Nat.le_of_ble_eq_true rfl) (det ?_)
  refine xiload_n hk dX8_isNeedless_43 rfl ?_
  refine xicmp_ne hk 51 dX8_isNeedless_44 (by decide) (fun h44 => ?_) (fun h44 => ?_)
  · rw [if_neg h44] at h
    refine xiconst (v := 0) hk dX8_isNeedless_51 (by decide) ?_
    exact xzretT hk he dX8_isNeedless_52 ⟨Nat.le_of_ble_eq_true rfl, Nat.le_of_ble_eq_true rfl⟩ (by first | with_reducible exact nar_b _ | rfl) (Option.some.inj h).symm
  · rw [if_pos h44] at h
    refine xiconst (v := 1) hk dX8_isNeedless_47 (by decide) ?_
    refine xgoto hk 52 dX8_isNeedless_48 (by decide) ?_
    exact xzretT hk he dX8_isNeedless_52 ⟨Nat.le_of_ble_eq_true rfl, Nat.le_of_ble_eq_true rfl⟩ (by first | with_reducible exact nar_b _ | rfl) (Option.some.inj h).symm

def f_X8_follows  (p : Int32) (q : Int32) (x : XS) : Option RT := ob (f_X8_needClaim p x) (fun r2 => rbo r2 (fun x2 => ob (f_X8_needClaim q x2) (fun r7 => rbo r7 (fun x7 => some (.inr (some (.int (b2i (hasB (reachF x7 (x7.1 46 1) q) p))), (webLook (x7.1 46 1) x7)))))))
set_option maxHeartbeats 4000000 in
set_option maxRecDepth 100000 in
theorem c_X8_follows {g : Gx} {a : Nat → Nat} {x : XS} {p : Int32} {q : Int32} {u : RT} (hfl : g.1.stackTraces = false) (h : f_X8_follows p q x = some u) : Tx g yX8_follows cX8_follows 3 (some .boolean) 9 3 18 LF a x [.ref (a 0), .int p, .int q] u := by
  refine Tx_of (by decide +kernel) (Nat.le_of_ble_eq_true rfl) ?_
  intro k hk he hg
  subst hg
  rw [f_X8_follows] at h
  refine xaload_n hk dX8_follows_0 rfl ?_
  refine xiload_n hk dX8_follows_1 rfl ?_
  obtain ⟨r2, e2, h⟩ := ob_some h
  refine xcallVT hk he (c_X8_needClaim hfl e2) bX8_needClaim kX8_163 dX8_follows_2 rfl ⟨_, _, _, _, rfl, rfl⟩ rfl (by first | decide | omega) ⟨Nat.le_of_ble_eq_true rfl, Nat.le_of_ble_eq_true rfl⟩ (Nat.le_of_ble_eq_true rfl) h ?_
  intro v2 x2 hr2 h
  obtain rfl := n_X8_needClaim (e2.trans (congrArg some hr2))
  refine xaload_n hk dX8_follows_5 rfl ?_
  refine xiload_n hk dX8_follows_6 rfl ?_
  obtain ⟨r7, e7, h⟩ := ob_some h
  refine xcallVT hk he (c_X8_needClaim hfl e7) bX8_needClaim kX8_163 dX8_follows_7 rfl ⟨_, _, _, _, rfl, rfl⟩ rfl (by first | decide | omega) ⟨Nat.le_of_ble_eq_true rfl, Nat.le_of_ble_eq_true rfl⟩ (Nat.le_of_ble_eq_true rfl) h ?_
  intro v7 x7 hr7 h
  obtain rfl := n_X8_needClaim (e7.trans (congrArg some hr7))
  refine xaload_n hk dX8_follows_10 rfl ?_
  refine xgetR (ci := 8) (f := 5) hk dX8_follows_11 ⟨rfl, by decide, _, rfl, rfl⟩ kX8_47 ?_
  refine xaload_n hk dX8_follows_14 rfl ?_
  refine xgetR (ci := 8) (f := 8) hk dX8_follows_15 ⟨rfl, by decide, _, rfl, rfl⟩ kX8_70 ?_
  refine xgetNI (ci := 1) (f := 1) hk dX8_follows_18 ⟨rfl, by decide, _, rfl, rfl⟩ kX8_128 ?_
  refine xiload_n hk dX8_follows_21 rfl ?_
  refine xcallV hk c_X7_reach bX7_reach kX8_166 dX8_follows_22 rfl ⟨_, _, _, _, rfl, rfl⟩ rfl (by first | decide | omega) ⟨by decide, by decide⟩ (Nat.le_of_ble_eq_true rfl) (det ?_)
  refine xiload_n hk dX8_follows_25 rfl ?_
  refine xcallS hk c_X8_has bX8_has kX8_149 dX8_follows_26 rfl rfl (by first | decide | omega) ⟨by decide, by decide⟩ (Nat.le_of_ble_eq_true rfl) (det ?_)
  exact xzretT hk he dX8_follows_29 ⟨Nat.le_of_ble_eq_true rfl, Nat.le_of_ble_eq_true rfl⟩ (by first | with_reducible exact nar_b _ | rfl) (Option.some.inj h).symm

def f_X8_whatFollowsFrom  (p : Int32) (x : XS) : Option RT := ob (f_X8_needClaim p x) (fun r2 => rbo r2 (fun x2 => some (.inr (some (.int (bcI (reachF x2 (x2.1 46 1) p))), (webLook (x2.1 46 1) x2)))))
set_option maxHeartbeats 4000000 in
set_option maxRecDepth 100000 in
theorem c_X8_whatFollowsFrom {g : Gx} {a : Nat → Nat} {x : XS} {p : Int32} {u : RT} (hfl : g.1.stackTraces = false) (h : f_X8_whatFollowsFrom p x = some u) : Tx g yX8_whatFollowsFrom cX8_whatFollowsFrom 2 (some .int) 9 3 18 LF a x [.ref (a 0), .int p] u := by
  refine Tx_of (by decide +kernel) (Nat.le_of_ble_eq_true rfl) ?_
  intro k hk he hg
  subst hg
  rw [f_X8_whatFollowsFrom] at h
  refine xaload_n hk dX8_whatFollowsFrom_0 rfl ?_
  refine xiload_n hk dX8_whatFollowsFrom_1 rfl ?_
  obtain ⟨r2, e2, h⟩ := ob_some h
  refine xcallVT hk he (c_X8_needClaim hfl e2) bX8_needClaim kX8_163 dX8_whatFollowsFrom_2 rfl ⟨_, _, _, _, rfl, rfl⟩ rfl (by first | decide | omega) ⟨Nat.le_of_ble_eq_true rfl, Nat.le_of_ble_eq_true rfl⟩ (Nat.le_of_ble_eq_true rfl) h ?_
  intro v2 x2 hr2 h
  obtain rfl := n_X8_needClaim (e2.trans (congrArg some hr2))
  refine xaload_n hk dX8_whatFollowsFrom_5 rfl ?_
  refine xgetR (ci := 8) (f := 5) hk dX8_whatFollowsFrom_6 ⟨rfl, by decide, _, rfl, rfl⟩ kX8_47 ?_
  refine xaload_n hk dX8_whatFollowsFrom_9 rfl ?_
  refine xgetR (ci := 8) (f := 8) hk dX8_whatFollowsFrom_10 ⟨rfl, by decide, _, rfl, rfl⟩ kX8_70 ?_
  refine xgetNI (ci := 1) (f := 1) hk dX8_whatFollowsFrom_13 ⟨rfl, by decide, _, rfl, rfl⟩ kX8_128 ?_
  refine xiload_n hk dX8_whatFollowsFrom_16 rfl ?_
  refine xcallV hk c_X7_reach bX7_reach kX8_166 dX8_whatFollowsFrom_17 rfl ⟨_, _, _, _, rfl, rfl⟩ rfl (by first | decide | omega) ⟨by decide, by decide⟩ (Nat.le_of_ble_eq_true rfl) (det ?_)
  refine xcallS hk c_J6_bitCount_0f7a4 bJ6_bitCount_0f7a4 kX8_131 dX8_whatFollowsFrom_20 rfl rfl (by first | decide | omega) ⟨by decide, by decide⟩ (Nat.le_of_ble_eq_true rfl) (det ?_)
  exact xiretT hk he dX8_whatFollowsFrom_23 ⟨Nat.le_of_ble_eq_true rfl, Nat.le_of_ble_eq_true rfl⟩ (Option.some.inj h).symm

def f_X8_fewestStatementsBetween  (p : Int32) (q : Int32) (x : XS) : Option RT := ob (f_X8_needClaim p x) (fun r2 => rbo r2 (fun x2 => ob (f_X8_needClaim q x2) (fun r7 => rbo r7 (fun x7 => (if 0 ≤ (distF x7 (x7.1 46 1) p q) then some (.inr (some (.int (distF x7 (x7.1 46 1) p q)), (webLook (x7.1 46 1) x7))) else some (.inl ("java/lang/IllegalStateException", (webLook (x7.1 46 1) x7))))))))
set_option maxHeartbeats 4000000 in
set_option maxRecDepth 100000 in
theorem c_X8_fewestStatementsBetween {g : Gx} {a : Nat → Nat} {x : XS} {p : Int32} {q : Int32} {u : RT} (hfl : g.1.stackTraces = false) (h : f_X8_fewestStatementsBetween p q x = some u) : Tx g yX8_fewestStatementsBetween cX8_fewestStatementsBetween 4 (some .int) 9 3 18 LF a x [.ref (a 0), .int p, .int q] u := by
  refine Tx_of (by decide +kernel) (Nat.le_of_ble_eq_true rfl) ?_
  intro k hk he hg
  subst hg
  rw [f_X8_fewestStatementsBetween] at h
  refine xaload_n hk dX8_fewestStatementsBetween_0 rfl ?_
  refine xiload_n hk dX8_fewestStatementsBetween_1 rfl ?_
  obtain ⟨r2, e2, h⟩ := ob_some h
  refine xcallVT hk he (c_X8_needClaim hfl e2) bX8_needClaim kX8_163 dX8_fewestStatementsBetween_2 rfl ⟨_, _, _, _, rfl, rfl⟩ rfl (by first | decide | omega) ⟨Nat.le_of_ble_eq_true rfl, Nat.le_of_ble_eq_true rfl⟩ (Nat.le_of_ble_eq_true rfl) h ?_
  intro v2 x2 hr2 h
  obtain rfl := n_X8_needClaim (e2.trans (congrArg some hr2))
  refine xaload_n hk dX8_fewestStatementsBetween_5 rfl ?_
  refine xiload_n hk dX8_fewestStatementsBetween_6 rfl ?_
  obtain ⟨r7, e7, h⟩ := ob_some h
  refine xcallVT hk he (c_X8_needClaim hfl e7) bX8_needClaim kX8_163 dX8_fewestStatementsBetween_7 rfl ⟨_, _, _, _, rfl, rfl⟩ rfl (by first | decide | omega) ⟨Nat.le_of_ble_eq_true rfl, Nat.le_of_ble_eq_true rfl⟩ (Nat.le_of_ble_eq_true rfl) h ?_
  intro v7 x7 hr7 h
  obtain rfl := n_X8_needClaim (e7.trans (congrArg some hr7))
  refine xaload_n hk dX8_fewestStatementsBetween_10 rfl ?_
  refine xgetR (ci := 8) (f := 5) hk dX8_fewestStatementsBetween_11 ⟨rfl, by decide, _, rfl, rfl⟩ kX8_47 ?_
  refine xaload_n hk dX8_fewestStatementsBetween_14 rfl ?_
  refine xgetR (ci := 8) (f := 8) hk dX8_fewestStatementsBetween_15 ⟨rfl, by decide, _, rfl, rfl⟩ kX8_70 ?_
  refine xgetNI (ci := 1) (f := 1) hk dX8_fewestStatementsBetween_18 ⟨rfl, by decide, _, rfl, rfl⟩ kX8_128 ?_
  refine xiload_n hk dX8_fewestStatementsBetween_21 rfl ?_
  refine xiload_n hk dX8_fewestStatementsBetween_22 rfl ?_
  refine xcallV hk c_X7_distance bX7_distance kX8_169 dX8_fewestStatementsBetween_23 rfl ⟨_, _, _, _, rfl, rfl⟩ rfl (by first | decide | omega) ⟨by decide, by decide⟩ (Nat.le_of_ble_eq_true rfl) (det ?_)
  refine xistore_n hk dX8_fewestStatementsBetween_26 (by decide) ?_
  refine xiload_n hk dX8_fewestStatementsBetween_27 rfl ?_
  refine xif_ge hk 41 dX8_fewestStatementsBetween_28 (by decide) (fun h28 => ?_) (fun h28 => ?_)
  · rw [if_pos h28] at h
    refine xiload_n hk dX8_fewestStatementsBetween_41 rfl ?_
    exact xiretT hk he dX8_fewestStatementsBetween_42 ⟨Nat.le_of_ble_eq_true rfl, Nat.le_of_ble_eq_true rfl⟩ (Option.some.inj h).symm
  · rw [if_neg h28] at h
    refine xthrow (E := "java/lang/IllegalStateException") hk he hfl 32 ⟨by decide +kernel, rfl⟩ okISE dX8_fewestStatementsBetween_31 dX8_fewestStatementsBetween_34 dX8_fewestStatementsBetween_35 dX8_fewestStatementsBetween_37 dX8_fewestStatementsBetween_40 ⟨by decide, by decide⟩ ⟨Nat.le_of_ble_eq_true rfl, Nat.le_of_ble_eq_true rfl⟩ (Option.some.inj h).symm

def f_X8_partOf  (p : Int32) (x : XS) : Option RT := ob (f_X8_needClaim p x) (fun r2 => rbo r2 (fun x2 => some (.inr (some (.int (lowI (togetherF (webLook (x2.1 46 1) x2) p))), (webLook (x2.1 46 1) x2)))))
set_option maxHeartbeats 4000000 in
set_option maxRecDepth 100000 in
theorem c_X8_partOf {g : Gx} {a : Nat → Nat} {x : XS} {p : Int32} {u : RT} (hfl : g.1.stackTraces = false) (h : f_X8_partOf p x = some u) : Tx g yX8_partOf cX8_partOf 2 (some .int) 9 3 18 LF a x [.ref (a 0), .int p] u := by
  refine Tx_of (by decide +kernel) (Nat.le_of_ble_eq_true rfl) ?_
  intro k hk he hg
  subst hg
  rw [f_X8_partOf] at h
  refine xaload_n hk dX8_partOf_0 rfl ?_
  refine xiload_n hk dX8_partOf_1 rfl ?_
  obtain ⟨r2, e2, h⟩ := ob_some h
  refine xcallVT hk he (c_X8_needClaim hfl e2) bX8_needClaim kX8_163 dX8_partOf_2 rfl ⟨_, _, _, _, rfl, rfl⟩ rfl (by first | decide | omega) ⟨Nat.le_of_ble_eq_true rfl, Nat.le_of_ble_eq_true rfl⟩ (Nat.le_of_ble_eq_true rfl) h ?_
  intro v2 x2 hr2 h
  obtain rfl := n_X8_needClaim (e2.trans (congrArg some hr2))
  refine xaload_n hk dX8_partOf_5 rfl ?_
  refine xgetR (ci := 8) (f := 5) hk dX8_partOf_6 ⟨rfl, by decide, _, rfl, rfl⟩ kX8_47 ?_
  refine xaload_n hk dX8_partOf_9 rfl ?_
  refine xgetR (ci := 8) (f := 8) hk dX8_partOf_10 ⟨rfl, by decide, _, rfl, rfl⟩ kX8_70 ?_
  refine xgetNI (ci := 1) (f := 1) hk dX8_partOf_13 ⟨rfl, by decide, _, rfl, rfl⟩ kX8_128 ?_
  refine xiload_n hk dX8_partOf_16 rfl ?_
  refine xcallV hk c_X7_part bX7_part kX8_178 dX8_partOf_17 rfl ⟨_, _, _, _, rfl, rfl⟩ rfl (by first | decide | omega) ⟨by decide, by decide⟩ (Nat.le_of_ble_eq_true rfl) (det ?_)
  refine xcallS hk c_X8_lowest bX8_lowest kX8_181 dX8_partOf_20 rfl rfl (by first | decide | omega) ⟨by decide, by decide⟩ (Nat.le_of_ble_eq_true rfl) (det ?_)
  exact xiretT hk he dX8_partOf_23 ⟨Nat.le_of_ble_eq_true rfl, Nat.le_of_ble_eq_true rfl⟩ (Option.some.inj h).symm

def f_X8_partSize  (p : Int32) (x : XS) : Option RT := ob (f_X8_needClaim p x) (fun r2 => rbo r2 (fun x2 => some (.inr (some (.int (bcI (togetherF (webLook (x2.1 46 1) x2) p))), (webLook (x2.1 46 1) x2)))))
set_option maxHeartbeats 4000000 in
set_option maxRecDepth 100000 in
theorem c_X8_partSize {g : Gx} {a : Nat → Nat} {x : XS} {p : Int32} {u : RT} (hfl : g.1.stackTraces = false) (h : f_X8_partSize p x = some u) : Tx g yX8_partSize cX8_partSize 2 (some .int) 9 3 18 LF a x [.ref (a 0), .int p] u := by
  refine Tx_of (by decide +kernel) (Nat.le_of_ble_eq_true rfl) ?_
  intro k hk he hg
  subst hg
  rw [f_X8_partSize] at h
  refine xaload_n hk dX8_partSize_0 rfl ?_
  refine xiload_n hk dX8_partSize_1 rfl ?_
  obtain ⟨r2, e2, h⟩ := ob_some h
  refine xcallVT hk he (c_X8_needClaim hfl e2) bX8_needClaim kX8_163 dX8_partSize_2 rfl ⟨_, _, _, _, rfl, rfl⟩ rfl (by first | decide | omega) ⟨Nat.le_of_ble_eq_true rfl, Nat.le_of_ble_eq_true rfl⟩ (Nat.le_of_ble_eq_true rfl) h ?_
  intro v2 x2 hr2 h
  obtain rfl := n_X8_needClaim (e2.trans (congrArg some hr2))
  refine xaload_n hk dX8_partSize_5 rfl ?_
  refine xgetR (ci := 8) (f := 5) hk dX8_partSize_6 ⟨rfl, by decide, _, rfl, rfl⟩ kX8_47 ?_
  refine xaload_n hk dX8_partSize_9 rfl ?_
  refine xgetR (ci := 8) (f := 8) hk dX8_partSize_10 ⟨rfl, by decide, _, rfl, rfl⟩ kX8_70 ?_
  refine xgetNI (ci := 1) (f := 1) hk dX8_partSize_13 ⟨rfl, by decide, _, rfl, rfl⟩ kX8_128 ?_
  refine xiload_n hk dX8_partSize_16 rfl ?_
  refine xcallV hk c_X7_part bX7_part kX8_178 dX8_partSize_17 rfl ⟨_, _, _, _, rfl, rfl⟩ rfl (by first | decide | omega) ⟨by decide, by decide⟩ (Nat.le_of_ble_eq_true rfl) (det ?_)
  refine xcallS hk c_J6_bitCount_0f7a4 bJ6_bitCount_0f7a4 kX8_131 dX8_partSize_20 rfl rfl (by first | decide | omega) ⟨by decide, by decide⟩ (Nat.le_of_ble_eq_true rfl) (det ?_)
  exact xiretT hk he dX8_partSize_23 ⟨Nat.le_of_ble_eq_true rfl, Nat.le_of_ble_eq_true rfl⟩ (Option.some.inj h).symm

def f_X8_peacesWith  (p : Int32) (x : XS) : Option RT := ob (f_X8_needClaim p x) (fun r2 => rbo r2 (fun x2 => some (.inr (some (.int (countWithF x2 (x2.1 46 1) p)), (landLook (x2.1 46 1) x2)))))
set_option maxHeartbeats 4000000 in
set_option maxRecDepth 100000 in
theorem c_X8_peacesWith {g : Gx} {a : Nat → Nat} {x : XS} {p : Int32} {u : RT} (hfl : g.1.stackTraces = false) (h : f_X8_peacesWith p x = some u) : Tx g yX8_peacesWith cX8_peacesWith 2 (some .int) 9 3 18 LF a x [.ref (a 0), .int p] u := by
  refine Tx_of (by decide +kernel) (Nat.le_of_ble_eq_true rfl) ?_
  intro k hk he hg
  subst hg
  rw [f_X8_peacesWith] at h
  refine xaload_n hk dX8_peacesWith_0 rfl ?_
  refine xiload_n hk dX8_peacesWith_1 rfl ?_
  obtain ⟨r2, e2, h⟩ := ob_some h
  refine xcallVT hk he (c_X8_needClaim hfl e2) bX8_needClaim kX8_163 dX8_peacesWith_2 rfl ⟨_, _, _, _, rfl, rfl⟩ rfl (by first | decide | omega) ⟨Nat.le_of_ble_eq_true rfl, Nat.le_of_ble_eq_true rfl⟩ (Nat.le_of_ble_eq_true rfl) h ?_
  intro v2 x2 hr2 h
  obtain rfl := n_X8_needClaim (e2.trans (congrArg some hr2))
  refine xaload_n hk dX8_peacesWith_5 rfl ?_
  refine xgetR (ci := 8) (f := 6) hk dX8_peacesWith_6 ⟨rfl, by decide, _, rfl, rfl⟩ kX8_54 ?_
  refine xaload_n hk dX8_peacesWith_9 rfl ?_
  refine xgetR (ci := 8) (f := 8) hk dX8_peacesWith_10 ⟨rfl, by decide, _, rfl, rfl⟩ kX8_70 ?_
  refine xgetNI (ci := 1) (f := 1) hk dX8_peacesWith_13 ⟨rfl, by decide, _, rfl, rfl⟩ kX8_128 ?_
  refine xiload_n hk dX8_peacesWith_16 rfl ?_
  refine xcallV hk c_X3_countWith bX3_countWith kX8_184 dX8_peacesWith_17 rfl ⟨_, _, _, _, rfl, rfl⟩ rfl (by first | decide | omega) ⟨by decide, by decide⟩ (Nat.le_of_ble_eq_true rfl) (det ?_)
  exact xiretT hk he dX8_peacesWith_20 ⟨Nat.le_of_ble_eq_true rfl, Nat.le_of_ble_eq_true rfl⟩ (Option.some.inj h).symm

def f_X8_isPossible  (p : Int32) (x : XS) : Option RT := ob (f_X8_needClaim p x) (fun r2 => rbo r2 (fun x2 => (if (countWithF x2 (x2.1 46 1) p) ≤ 0 then some (.inr (some (.int 0), (landLook (x2.1 46 1) x2))) else some (.inr (some (.int 1), (landLook (x2.1 46 1) x2))))))
set_option maxHeartbeats 4000000 in
set_option maxRecDepth 100000 in
theorem c_X8_isPossible {g : Gx} {a : Nat → Nat} {x : XS} {p : Int32} {u : RT} (hfl : g.1.stackTraces = false) (h : f_X8_isPossible p x = some u) : Tx g yX8_isPossible cX8_isPossible 2 (some .boolean) 9 3 18 LF a x [.ref (a 0), .int p] u := by
  refine Tx_of (by decide +kernel) (Nat.le_of_ble_eq_true rfl) ?_
  intro k hk he hg
  subst hg
  rw [f_X8_isPossible] at h
  refine xaload_n hk dX8_isPossible_0 rfl ?_
  refine xiload_n hk dX8_isPossible_1 rfl ?_
  obtain ⟨r2, e2, h⟩ := ob_some h
  refine xcallVT hk he (c_X8_needClaim hfl e2) bX8_needClaim kX8_163 dX8_isPossible_2 rfl ⟨_, _, _, _, rfl, rfl⟩ rfl (by first | decide | omega) ⟨Nat.le_of_ble_eq_true rfl, Nat.le_of_ble_eq_true rfl⟩ (Nat.le_of_ble_eq_true rfl) h ?_
  intro v2 x2 hr2 h
  obtain rfl := n_X8_needClaim (e2.trans (congrArg some hr2))
  refine xaload_n hk dX8_isPossible_5 rfl ?_
  refine xgetR (ci := 8) (f := 6) hk dX8_isPossible_6 ⟨rfl, by decide, _, rfl, rfl⟩ kX8_54 ?_
  refine xaload_n hk dX8_isPossible_9 rfl ?_
  refine xgetR (ci := 8) (f := 8) hk dX8_isPossible_10 ⟨rfl, by decide, _, rfl, rfl⟩ kX8_70 ?_
  refine xgetNI (ci := 1) (f := 1) hk dX8_isPossible_13 ⟨rfl, by decide, _, rfl, rfl⟩ kX8_128 ?_
  refine xiload_n hk dX8_isPossible_16 rfl ?_
  refine xcallV hk c_X3_countWith bX3_countWith kX8_184 dX8_isPossible_17 rfl ⟨_, _, _, _, rfl, rfl⟩ rfl (by first | decide | omega) ⟨by decide, by decide⟩ (Nat.le_of_ble_eq_true rfl) (det ?_)
  refine xif_le hk 27 dX8_isPossible_20 (by decide) (fun h20 => ?_) (fun h20 => ?_)
  · rw [if_pos h20] at h
    refine xiconst (v := 0) hk dX8_isPossible_27 (by decide) ?_
    exact xzretT hk he dX8_isPossible_28 ⟨Nat.le_of_ble_eq_true rfl, Nat.le_of_ble_eq_true rfl⟩ (by first | with_reducible exact nar_b _ | rfl) (Option.some.inj h).symm
  · rw [if_neg h20] at h
    refine xiconst (v := 1) hk dX8_isPossible_23 (by decide) ?_
    refine xgoto hk 28 dX8_isPossible_24 (by decide) ?_
    exact xzretT hk he dX8_isPossible_28 ⟨Nat.le_of_ble_eq_true rfl, Nat.le_of_ble_eq_true rfl⟩ (by first | with_reducible exact nar_b _ | rfl) (Option.some.inj h).symm

def f_X8_isSettled  (p : Int32) (x : XS) : Option RT := ob (f_X8_needClaim p x) (fun r2 => rbo r2 (fun x2 => ob (f_X8_needPeace x2) (fun r6 => rbo r6 (fun x6 => (if (countWithF x6 (x6.1 46 1) p) = (countF (landLook (x6.1 46 1) x6) ((landLook (x6.1 46 1) x6).1 46 1)) then some (.inr (some (.int 1), (landLook ((landLook (x6.1 46 1) x6).1 46 1) (landLook (x6.1 46 1) x6)))) else some (.inr (some (.int 0), (landLook ((landLook (x6.1 46 1) x6).1 46 1) (landLook (x6.1 46 1) x6)))))))))
set_option maxHeartbeats 4000000 in
set_option maxRecDepth 100000 in
theorem c_X8_isSettled {g : Gx} {a : Nat → Nat} {x : XS} {p : Int32} {u : RT} (hfl : g.1.stackTraces = false) (h : f_X8_isSettled p x = some u) : Tx g yX8_isSettled cX8_isSettled 2 (some .boolean) 9 3 18 LF a x [.ref (a 0), .int p] u := by
  refine Tx_of (by decide +kernel) (Nat.le_of_ble_eq_true rfl) ?_
  intro k hk he hg
  subst hg
  rw [f_X8_isSettled] at h
  refine xaload_n hk dX8_isSettled_0 rfl ?_
  refine xiload_n hk dX8_isSettled_1 rfl ?_
  obtain ⟨r2, e2, h⟩ := ob_some h
  refine xcallVT hk he (c_X8_needClaim hfl e2) bX8_needClaim kX8_163 dX8_isSettled_2 rfl ⟨_, _, _, _, rfl, rfl⟩ rfl (by first | decide | omega) ⟨Nat.le_of_ble_eq_true rfl, Nat.le_of_ble_eq_true rfl⟩ (Nat.le_of_ble_eq_true rfl) h ?_
  intro v2 x2 hr2 h
  obtain rfl := n_X8_needClaim (e2.trans (congrArg some hr2))
  refine xaload_n hk dX8_isSettled_5 rfl ?_
  obtain ⟨r6, e6, h⟩ := ob_some h
  refine xcallVT hk he (c_X8_needPeace hfl e6) bX8_needPeace kX8_187 dX8_isSettled_6 rfl ⟨_, _, _, _, rfl, rfl⟩ rfl (by first | decide | omega) ⟨Nat.le_of_ble_eq_true rfl, Nat.le_of_ble_eq_true rfl⟩ (Nat.le_of_ble_eq_true rfl) h ?_
  intro v6 x6 hr6 h
  obtain rfl := n_X8_needPeace (e6.trans (congrArg some hr6))
  refine xaload_n hk dX8_isSettled_9 rfl ?_
  refine xgetR (ci := 8) (f := 6) hk dX8_isSettled_10 ⟨rfl, by decide, _, rfl, rfl⟩ kX8_54 ?_
  refine xaload_n hk dX8_isSettled_13 rfl ?_
  refine xgetR (ci := 8) (f := 8) hk dX8_isSettled_14 ⟨rfl, by decide, _, rfl, rfl⟩ kX8_70 ?_
  refine xgetNI (ci := 1) (f := 1) hk dX8_isSettled_17 ⟨rfl, by decide, _, rfl, rfl⟩ kX8_128 ?_
  refine xiload_n hk dX8_isSettled_20 rfl ?_
  refine xcallV hk c_X3_countWith bX3_countWith kX8_184 dX8_isSettled_21 rfl ⟨_, _, _, _, rfl, rfl⟩ rfl (by first | decide | omega) ⟨by decide, by decide⟩ (Nat.le_of_ble_eq_true rfl) (det ?_)
  refine xaload_n hk dX8_isSettled_24 rfl ?_
  refine xgetR (ci := 8) (f := 6) hk dX8_isSettled_25 ⟨rfl, by decide, _, rfl, rfl⟩ kX8_54 ?_
  refine xaload_n hk dX8_isSettled_28 rfl ?_
  refine xgetR (ci := 8) (f := 8) hk dX8_isSettled_29 ⟨rfl, by decide, _, rfl, rfl⟩ kX8_70 ?_
  refine xgetNI (ci := 1) (f := 1) hk dX8_isSettled_32 ⟨rfl, by decide, _, rfl, rfl⟩ kX8_128 ?_
  refine xcallV hk c_X3_count bX3_count kX8_156 dX8_isSettled_35 rfl ⟨_, _, _, _, rfl, rfl⟩ rfl (by first | decide | omega) ⟨by decide, by decide⟩ (Nat.le_of_ble_eq_true rfl) (det ?_)
  refine xicmp_ne hk 45 dX8_isSettled_38 (by decide) (fun h38 => ?_) (fun h38 => ?_)
  · rw [if_neg h38] at h
    refine xiconst (v := 0) hk dX8_isSettled_45 (by decide) ?_
    exact xzretT hk he dX8_isSettled_46 ⟨Nat.le_of_ble_eq_true rfl, Nat.le_of_ble_eq_true rfl⟩ (by first | with_reducible exact nar_b _ | rfl) (Option.some.inj h).symm
  · rw [if_pos h38] at h
    refine xiconst (v := 1) hk dX8_isSettled_41 (by decide) ?_
    refine xgoto hk 46 dX8_isSettled_42 (by decide) ?_
    exact xzretT hk he dX8_isSettled_46 ⟨Nat.le_of_ble_eq_true rfl, Nat.le_of_ble_eq_true rfl⟩ (by first | with_reducible exact nar_b _ | rfl) (Option.some.inj h).symm

def f_X8_ridesInPeace  (p : Int32) (x : XS) : Option RT := (if p < 0 then some (.inl ("java/lang/IndexOutOfBoundsException", x)) else (if p < (x.1 21 0) then ob (f_X8_needPeace x) (fun r26 => rbo r26 (fun x26 => some (.inr (some (.int (b2i (hasB (ridersU x26 (x26.1 46 1)).1 p))), (ridersU x26 (x26.1 46 1)).2)))) else some (.inl ("java/lang/IndexOutOfBoundsException", x))))
set_option maxHeartbeats 4000000 in
set_option maxRecDepth 100000 in
theorem c_X8_ridesInPeace {g : Gx} {a : Nat → Nat} {x : XS} {p : Int32} {u : RT} (hfl : g.1.stackTraces = false) (h : f_X8_ridesInPeace p x = some u) : Tx g yX8_ridesInPeace cX8_ridesInPeace 2 (some .boolean) 9 3 18 LF a x [.ref (a 0), .int p] u := by
  refine Tx_of (by decide +kernel) (Nat.le_of_ble_eq_true rfl) ?_
  intro k hk he hg
  subst hg
  rw [f_X8_ridesInPeace] at h
  refine xiload_n hk dX8_ridesInPeace_0 rfl ?_
  refine xif_lt hk 15 dX8_ridesInPeace_1 (by decide) (fun h1 => ?_) (fun h1 => ?_)
  · rw [if_pos h1] at h
    refine xthrow (E := "java/lang/IndexOutOfBoundsException") hk he hfl 33 ⟨by decide +kernel, rfl⟩ okIOB dX8_ridesInPeace_15 dX8_ridesInPeace_18 dX8_ridesInPeace_19 dX8_ridesInPeace_21 dX8_ridesInPeace_24 ⟨by decide, by decide⟩ ⟨Nat.le_of_ble_eq_true rfl, Nat.le_of_ble_eq_true rfl⟩ (Option.some.inj h).symm
  · rw [if_neg h1] at h
    refine xiload_n hk dX8_ridesInPeace_4 rfl ?_
    refine xaload_n hk dX8_ridesInPeace_5 rfl ?_
    refine xgetR (ci := 8) (f := 3) hk dX8_ridesInPeace_6 ⟨rfl, by decide, _, rfl, rfl⟩ kX8_30 ?_
    refine xgetNI (ci := 0) (f := 0) hk dX8_ridesInPeace_9 ⟨rfl, by decide, _, rfl, rfl⟩ kX8_113 ?_
    refine xicmp_lt hk 25 dX8_ridesInPeace_12 (by decide) (fun h12 => ?_) (fun h12 => ?_)
    · rw [if_pos h12] at h
      refine xaload_n hk dX8_ridesInPeace_25 rfl ?_
      obtain ⟨r26, e26, h⟩ := ob_some h
      refine xcallVT hk he (c_X8_needPeace hfl e26) bX8_needPeace kX8_187 dX8_ridesInPeace_26 rfl ⟨_, _, _, _, rfl, rfl⟩ rfl (by first | decide | omega) ⟨Nat.le_of_ble_eq_true rfl, Nat.le_of_ble_eq_true rfl⟩ (Nat.le_of_ble_eq_true rfl) h ?_
      intro v26 x26 hr26 h
      obtain rfl := n_X8_needPeace (e26.trans (congrArg some hr26))
      refine xaload_n hk dX8_ridesInPeace_29 rfl ?_
      refine xgetR (ci := 8) (f := 6) hk dX8_ridesInPeace_30 ⟨rfl, by decide, _, rfl, rfl⟩ kX8_54 ?_
      refine xaload_n hk dX8_ridesInPeace_33 rfl ?_
      refine xgetR (ci := 8) (f := 8) hk dX8_ridesInPeace_34 ⟨rfl, by decide, _, rfl, rfl⟩ kX8_70 ?_
      refine xgetNI (ci := 1) (f := 1) hk dX8_ridesInPeace_37 ⟨rfl, by decide, _, rfl, rfl⟩ kX8_128 ?_
      refine xcallV hk c_X3_riders bX3_riders kX8_195 dX8_ridesInPeace_40 rfl ⟨_, _, _, _, rfl, rfl⟩ rfl (by first | decide | omega) ⟨by decide, by decide⟩ (Nat.le_of_ble_eq_true rfl) (det ?_)
      refine xiload_n hk dX8_ridesInPeace_43 rfl ?_
      refine xcallS hk c_X8_has bX8_has kX8_149 dX8_ridesInPeace_44 rfl rfl (by first | decide | omega) ⟨by decide, by decide⟩ (Nat.le_of_ble_eq_true rfl) (det ?_)
      exact xzretT hk he dX8_ridesInPeace_47 ⟨Nat.le_of_ble_eq_true rfl, Nat.le_of_ble_eq_true rfl⟩ (by first | with_reducible exact nar_b _ | rfl) (Option.some.inj h).symm
    · rw [if_neg h12] at h
      refine xthrow (E := "java/lang/IndexOutOfBoundsException") hk he hfl 33 ⟨by decide +kernel, rfl⟩ okIOB dX8_ridesInPeace_15 dX8_ridesInPeace_18 dX8_ridesInPeace_19 dX8_ridesInPeace_21 dX8_ridesInPeace_24 ⟨by decide, by decide⟩ ⟨Nat.le_of_ble_eq_true rfl, Nat.le_of_ble_eq_true rfl⟩ (Option.some.inj h).symm

def f_X8_ridersInPeace   (x : XS) : Option RT := ob (f_X8_needPeace x) (fun r1 => rbo r1 (fun x1 => some (.inr (some (.int (bcI (ridersU x1 (x1.1 46 1)).1)), (ridersU x1 (x1.1 46 1)).2))))
set_option maxHeartbeats 4000000 in
set_option maxRecDepth 100000 in
theorem c_X8_ridersInPeace {g : Gx} {a : Nat → Nat} {x : XS}  {u : RT} (hfl : g.1.stackTraces = false) (h : f_X8_ridersInPeace  x = some u) : Tx g yX8_ridersInPeace cX8_ridersInPeace 1 (some .int) 9 3 18 LF a x [.ref (a 0)] u := by
  refine Tx_of (by decide +kernel) (Nat.le_of_ble_eq_true rfl) ?_
  intro k hk he hg
  subst hg
  rw [f_X8_ridersInPeace] at h
  refine xaload_n hk dX8_ridersInPeace_0 rfl ?_
  obtain ⟨r1, e1, h⟩ := ob_some h
  refine xcallVT hk he (c_X8_needPeace hfl e1) bX8_needPeace kX8_187 dX8_ridersInPeace_1 rfl ⟨_, _, _, _, rfl, rfl⟩ rfl (by first | decide | omega) ⟨Nat.le_of_ble_eq_true rfl, Nat.le_of_ble_eq_true rfl⟩ (Nat.le_of_ble_eq_true rfl) h ?_
  intro v1 x1 hr1 h
  obtain rfl := n_X8_needPeace (e1.trans (congrArg some hr1))
  refine xaload_n hk dX8_ridersInPeace_4 rfl ?_
  refine xgetR (ci := 8) (f := 6) hk dX8_ridersInPeace_5 ⟨rfl, by decide, _, rfl, rfl⟩ kX8_54 ?_
  refine xaload_n hk dX8_ridersInPeace_8 rfl ?_
  refine xgetR (ci := 8) (f := 8) hk dX8_ridersInPeace_9 ⟨rfl, by decide, _, rfl, rfl⟩ kX8_70 ?_
  refine xgetNI (ci := 1) (f := 1) hk dX8_ridersInPeace_12 ⟨rfl, by decide, _, rfl, rfl⟩ kX8_128 ?_
  refine xcallV hk c_X3_riders bX3_riders kX8_195 dX8_ridersInPeace_15 rfl ⟨_, _, _, _, rfl, rfl⟩ rfl (by first | decide | omega) ⟨by decide, by decide⟩ (Nat.le_of_ble_eq_true rfl) (det ?_)
  refine xcallS hk c_J6_bitCount_0f7a4 bJ6_bitCount_0f7a4 kX8_131 dX8_ridersInPeace_18 rfl rfl (by first | decide | omega) ⟨by decide, by decide⟩ (Nat.le_of_ble_eq_true rfl) (det ?_)
  exact xiretT hk he dX8_ridersInPeace_21 ⟨Nat.le_of_ble_eq_true rfl, Nat.le_of_ble_eq_true rfl⟩ (Option.some.inj h).symm

def f_X8_breakStatement  (p : Int32) (x : XS) : Option RT := ob (f_X8_needStatement p x) (fun r2 => rbo r2 (fun x2 => ob (f_X8_needStanding p x2) (fun r7 => rbo r7 (fun x7 => some (.inr (some (.int (bcI ((setI x7 46 1 (withoutI (x7.1 46 1) p)).1 46 1))), (setI x7 46 1 (withoutI (x7.1 46 1) p))))))))
set_option maxHeartbeats 4000000 in
set_option maxRecDepth 100000 in
theorem c_X8_breakStatement {g : Gx} {a : Nat → Nat} {x : XS} {p : Int32} {u : RT} (hfl : g.1.stackTraces = false) (h : f_X8_breakStatement p x = some u) : Tx g yX8_breakStatement cX8_breakStatement 2 (some .int) 9 3 18 LF a x [.ref (a 0), .int p] u := by
  refine Tx_of (by decide +kernel) (Nat.le_of_ble_eq_true rfl) ?_
  intro k hk he hg
  subst hg
  rw [f_X8_breakStatement] at h
  refine xaload_n hk dX8_breakStatement_0 rfl ?_
  refine xiload_n hk dX8_breakStatement_1 rfl ?_
  obtain ⟨r2, e2, h⟩ := ob_some h
  refine xcallVT hk he (c_X8_needStatement hfl e2) bX8_needStatement kX8_137 dX8_breakStatement_2 rfl ⟨_, _, _, _, rfl, rfl⟩ rfl (by first | decide | omega) ⟨Nat.le_of_ble_eq_true rfl, Nat.le_of_ble_eq_true rfl⟩ (Nat.le_of_ble_eq_true rfl) h ?_
  intro v2 x2 hr2 h
  obtain rfl := n_X8_needStatement (e2.trans (congrArg some hr2))
  refine xaload_n hk dX8_breakStatement_5 rfl ?_
  refine xiload_n hk dX8_breakStatement_6 rfl ?_
  obtain ⟨r7, e7, h⟩ := ob_some h
  refine xcallVT hk he (c_X8_needStanding hfl e7) bX8_needStanding kX8_153 dX8_breakStatement_7 rfl ⟨_, _, _, _, rfl, rfl⟩ rfl (by first | decide | omega) ⟨Nat.le_of_ble_eq_true rfl, Nat.le_of_ble_eq_true rfl⟩ (Nat.le_of_ble_eq_true rfl) h ?_
  intro v7 x7 hr7 h
  obtain rfl := n_X8_needStanding (e7.trans (congrArg some hr7))
  refine xaload_n hk dX8_breakStatement_10 rfl ?_
  refine xgetR (ci := 8) (f := 8) hk dX8_breakStatement_11 ⟨rfl, by decide, _, rfl, rfl⟩ kX8_70 ?_
  refine xaload_n hk dX8_breakStatement_14 rfl ?_
  refine xgetR (ci := 8) (f := 8) hk dX8_breakStatement_15 ⟨rfl, by decide, _, rfl, rfl⟩ kX8_70 ?_
  refine xgetNI (ci := 1) (f := 1) hk dX8_breakStatement_18 ⟨rfl, by decide, _, rfl, rfl⟩ kX8_128 ?_
  refine xiload_n hk dX8_breakStatement_21 rfl ?_
  refine xcallS hk c_X8_without bX8_without kX8_159 dX8_breakStatement_22 rfl rfl (by first | decide | omega) ⟨by decide, by decide⟩ (Nat.le_of_ble_eq_true rfl) (det ?_)
  refine xputIN (ci := 1) (f := 1) hk dX8_breakStatement_25 ⟨rfl, by decide, _, rfl, rfl⟩ kX8_128 ⟨rfl, by decide +kernel⟩ ?_
  refine xaload_n hk dX8_breakStatement_28 rfl ?_
  refine xgetR (ci := 8) (f := 8) hk dX8_breakStatement_29 ⟨rfl, by decide, _, rfl, rfl⟩ kX8_70 ?_
  refine xgetNI (ci := 1) (f := 1) hk dX8_breakStatement_32 ⟨rfl, by decide, _, rfl, rfl⟩ kX8_128 ?_
  refine xcallS hk c_J6_bitCount_0f7a4 bJ6_bitCount_0f7a4 kX8_131 dX8_breakStatement_35 rfl rfl (by first | decide | omega) ⟨by decide, by decide⟩ (Nat.le_of_ble_eq_true rfl) (det ?_)
  exact xiretT hk he dX8_breakStatement_38 ⟨Nat.le_of_ble_eq_true rfl, Nat.le_of_ble_eq_true rfl⟩ (Option.some.inj h).symm

def f_X8_renewStatement  (p : Int32) (x : XS) : Option RT := ob (f_X8_needStatement p x) (fun r2 => rbo r2 (fun x2 => (if (b2i (hasB (x2.1 46 1) p)) = 0 then some (.inr (some (.int (bcI ((setI x2 46 1 (withI (x2.1 46 1) p)).1 46 1))), (setI x2 46 1 (withI (x2.1 46 1) p)))) else some (.inl ("java/lang/IllegalStateException", x2)))))
set_option maxHeartbeats 4000000 in
set_option maxRecDepth 100000 in
theorem c_X8_renewStatement {g : Gx} {a : Nat → Nat} {x : XS} {p : Int32} {u : RT} (hfl : g.1.stackTraces = false) (h : f_X8_renewStatement p x = some u) : Tx g yX8_renewStatement cX8_renewStatement 2 (some .int) 9 3 18 LF a x [.ref (a 0), .int p] u := by
  refine Tx_of (by decide +kernel) (Nat.le_of_ble_eq_true rfl) ?_
  intro k hk he hg
  subst hg
  rw [f_X8_renewStatement] at h
  refine xaload_n hk dX8_renewStatement_0 rfl ?_
  refine xiload_n hk dX8_renewStatement_1 rfl ?_
  obtain ⟨r2, e2, h⟩ := ob_some h
  refine xcallVT hk he (c_X8_needStatement hfl e2) bX8_needStatement kX8_137 dX8_renewStatement_2 rfl ⟨_, _, _, _, rfl, rfl⟩ rfl (by first | decide | omega) ⟨Nat.le_of_ble_eq_true rfl, Nat.le_of_ble_eq_true rfl⟩ (Nat.le_of_ble_eq_true rfl) h ?_
  intro v2 x2 hr2 h
  obtain rfl := n_X8_needStatement (e2.trans (congrArg some hr2))
  refine xaload_n hk dX8_renewStatement_5 rfl ?_
  refine xgetR (ci := 8) (f := 8) hk dX8_renewStatement_6 ⟨rfl, by decide, _, rfl, rfl⟩ kX8_70 ?_
  refine xgetNI (ci := 1) (f := 1) hk dX8_renewStatement_9 ⟨rfl, by decide, _, rfl, rfl⟩ kX8_128 ?_
  refine xiload_n hk dX8_renewStatement_12 rfl ?_
  refine xcallS hk c_X8_has bX8_has kX8_149 dX8_renewStatement_13 rfl rfl (by first | decide | omega) ⟨by decide, by decide⟩ (Nat.le_of_ble_eq_true rfl) (det ?_)
  refine xif_eq hk 29 dX8_renewStatement_16 (by decide) (fun h16 => ?_) (fun h16 => ?_)
  · rw [if_pos h16] at h
    refine xaload_n hk dX8_renewStatement_29 rfl ?_
    refine xgetR (ci := 8) (f := 8) hk dX8_renewStatement_30 ⟨rfl, by decide, _, rfl, rfl⟩ kX8_70 ?_
    refine xaload_n hk dX8_renewStatement_33 rfl ?_
    refine xgetR (ci := 8) (f := 8) hk dX8_renewStatement_34 ⟨rfl, by decide, _, rfl, rfl⟩ kX8_70 ?_
    refine xgetNI (ci := 1) (f := 1) hk dX8_renewStatement_37 ⟨rfl, by decide, _, rfl, rfl⟩ kX8_128 ?_
    refine xiload_n hk dX8_renewStatement_40 rfl ?_
    refine xcallS hk c_X8_with bX8_with kX8_202 dX8_renewStatement_41 rfl rfl (by first | decide | omega) ⟨by decide, by decide⟩ (Nat.le_of_ble_eq_true rfl) (det ?_)
    refine xputIN (ci := 1) (f := 1) hk dX8_renewStatement_44 ⟨rfl, by decide, _, rfl, rfl⟩ kX8_128 ⟨rfl, by decide +kernel⟩ ?_
    refine xaload_n hk dX8_renewStatement_47 rfl ?_
    refine xgetR (ci := 8) (f := 8) hk dX8_renewStatement_48 ⟨rfl, by decide, _, rfl, rfl⟩ kX8_70 ?_
    refine xgetNI (ci := 1) (f := 1) hk dX8_renewStatement_51 ⟨rfl, by decide, _, rfl, rfl⟩ kX8_128 ?_
    refine xcallS hk c_J6_bitCount_0f7a4 bJ6_bitCount_0f7a4 kX8_131 dX8_renewStatement_54 rfl rfl (by first | decide | omega) ⟨by decide, by decide⟩ (Nat.le_of_ble_eq_true rfl) (det ?_)
    exact xiretT hk he dX8_renewStatement_57 ⟨Nat.le_of_ble_eq_true rfl, Nat.le_of_ble_eq_true rfl⟩ (Option.some.inj h).symm
  · rw [if_neg h16] at h
    refine xthrow (E := "java/lang/IllegalStateException") hk he hfl 35 ⟨by decide +kernel, rfl⟩ okISE dX8_renewStatement_19 dX8_renewStatement_22 dX8_renewStatement_23 dX8_renewStatement_25 dX8_renewStatement_28 ⟨by decide, by decide⟩ ⟨Nat.le_of_ble_eq_true rfl, Nat.le_of_ble_eq_true rfl⟩ (Option.some.inj h).symm

def f_X8_passDays  (p : Int32) (x : XS) : Option RT := ob (f_X8_needDays p x) (fun r2 => rbo r2 (fun x2 => some (.inr (some (.int (((passF 46 p x2).1 46 2) - (x2.1 46 2))), (passF 46 p x2)))))
set_option maxHeartbeats 4000000 in
set_option maxRecDepth 100000 in
theorem c_X8_passDays {g : Gx} {a : Nat → Nat} {x : XS} {p : Int32} {u : RT} (hfl : g.1.stackTraces = false) (h : f_X8_passDays p x = some u) : Tx g yX8_passDays cX8_passDays 3 (some .int) 9 3 18 LF a x [.ref (a 0), .int p] u := by
  refine Tx_of (by decide +kernel) (Nat.le_of_ble_eq_true rfl) ?_
  intro k hk he hg
  subst hg
  rw [f_X8_passDays] at h
  refine xaload_n hk dX8_passDays_0 rfl ?_
  refine xiload_n hk dX8_passDays_1 rfl ?_
  obtain ⟨r2, e2, h⟩ := ob_some h
  refine xcallVT hk he (c_X8_needDays hfl e2) bX8_needDays kX8_205 dX8_passDays_2 rfl ⟨_, _, _, _, rfl, rfl⟩ rfl (by first | decide | omega) ⟨Nat.le_of_ble_eq_true rfl, Nat.le_of_ble_eq_true rfl⟩ (Nat.le_of_ble_eq_true rfl) h ?_
  intro v2 x2 hr2 h
  obtain rfl := n_X8_needDays (e2.trans (congrArg some hr2))
  refine xaload_n hk dX8_passDays_5 rfl ?_
  refine xgetR (ci := 8) (f := 8) hk dX8_passDays_6 ⟨rfl, by decide, _, rfl, rfl⟩ kX8_70 ?_
  refine xgetNI (ci := 1) (f := 2) hk dX8_passDays_9 ⟨rfl, by decide, _, rfl, rfl⟩ kX8_125 ?_
  refine xistore_n hk dX8_passDays_12 (by decide) ?_
  refine xaload_n hk dX8_passDays_13 rfl ?_
  refine xgetR (ci := 8) (f := 7) hk dX8_passDays_14 ⟨rfl, by decide, _, rfl, rfl⟩ kX8_63 ?_
  refine xaload_n hk dX8_passDays_17 rfl ?_
  refine xgetR (ci := 8) (f := 8) hk dX8_passDays_18 ⟨rfl, by decide, _, rfl, rfl⟩ kX8_70 ?_
  refine xiload_n hk dX8_passDays_21 rfl ?_
  refine xcallV hk c_X2_letPass46 bX2_letPass kX8_208 dX8_passDays_22 rfl ⟨_, _, _, _, rfl, rfl⟩ rfl (by first | decide | omega) ⟨by decide, by decide⟩ (Nat.le_of_ble_eq_true rfl) (det ?_)
  refine xaload_n hk dX8_passDays_25 rfl ?_
  refine xgetR (ci := 8) (f := 8) hk dX8_passDays_26 ⟨rfl, by decide, _, rfl, rfl⟩ kX8_70 ?_
  refine xgetNI (ci := 1) (f := 2) hk dX8_passDays_29 ⟨rfl, by decide, _, rfl, rfl⟩ kX8_125 ?_
  refine xiload_n hk dX8_passDays_32 rfl ?_
  refine xisub hk dX8_passDays_33 ?_
  exact xiretT hk he dX8_passDays_34 ⟨Nat.le_of_ble_eq_true rfl, Nat.le_of_ble_eq_true rfl⟩ (Option.some.inj h).symm

def f_X8_standingAfter  (p : Int32) (x : XS) : Option RT := ob (f_X8_needDays p x) (fun r2 => rbo r2 (fun x2 => some (.inr (some (.int (bcI ((passF 47 p (ccopyF x2)).1 47 1))), (passF 47 p (ccopyF x2))))))
set_option maxHeartbeats 4000000 in
set_option maxRecDepth 100000 in
theorem c_X8_standingAfter {g : Gx} {a : Nat → Nat} {x : XS} {p : Int32} {u : RT} (hfl : g.1.stackTraces = false) (h : f_X8_standingAfter p x = some u) : Tx g yX8_standingAfter cX8_standingAfter 2 (some .int) 9 3 18 LF a x [.ref (a 0), .int p] u := by
  refine Tx_of (by decide +kernel) (Nat.le_of_ble_eq_true rfl) ?_
  intro k hk he hg
  subst hg
  rw [f_X8_standingAfter] at h
  refine xaload_n hk dX8_standingAfter_0 rfl ?_
  refine xiload_n hk dX8_standingAfter_1 rfl ?_
  obtain ⟨r2, e2, h⟩ := ob_some h
  refine xcallVT hk he (c_X8_needDays hfl e2) bX8_needDays kX8_205 dX8_standingAfter_2 rfl ⟨_, _, _, _, rfl, rfl⟩ rfl (by first | decide | omega) ⟨Nat.le_of_ble_eq_true rfl, Nat.le_of_ble_eq_true rfl⟩ (Nat.le_of_ble_eq_true rfl) h ?_
  intro v2 x2 hr2 h
  obtain rfl := n_X8_needDays (e2.trans (congrArg some hr2))
  refine xaload_n hk dX8_standingAfter_5 rfl ?_
  refine xgetR (ci := 8) (f := 9) hk dX8_standingAfter_6 ⟨rfl, by decide, _, rfl, rfl⟩ kX8_74 ?_
  refine xaload_n hk dX8_standingAfter_9 rfl ?_
  refine xgetR (ci := 8) (f := 8) hk dX8_standingAfter_10 ⟨rfl, by decide, _, rfl, rfl⟩ kX8_70 ?_
  refine xcallV hk c_X1_copyFrom bX1_copyFrom kX8_212 dX8_standingAfter_13 rfl ⟨_, _, _, _, rfl, rfl⟩ rfl (by first | decide | omega) ⟨by decide, by decide⟩ (Nat.le_of_ble_eq_true rfl) (det ?_)
  refine xaload_n hk dX8_standingAfter_16 rfl ?_
  refine xgetR (ci := 8) (f := 7) hk dX8_standingAfter_17 ⟨rfl, by decide, _, rfl, rfl⟩ kX8_63 ?_
  refine xaload_n hk dX8_standingAfter_20 rfl ?_
  refine xgetR (ci := 8) (f := 9) hk dX8_standingAfter_21 ⟨rfl, by decide, _, rfl, rfl⟩ kX8_74 ?_
  refine xiload_n hk dX8_standingAfter_24 rfl ?_
  refine xcallV hk c_X2_letPass47 bX2_letPass kX8_208 dX8_standingAfter_25 rfl ⟨_, _, _, _, rfl, rfl⟩ rfl (by first | decide | omega) ⟨by decide, by decide⟩ (Nat.le_of_ble_eq_true rfl) (det ?_)
  refine xaload_n hk dX8_standingAfter_28 rfl ?_
  refine xgetR (ci := 8) (f := 9) hk dX8_standingAfter_29 ⟨rfl, by decide, _, rfl, rfl⟩ kX8_74 ?_
  refine xgetNI (ci := 1) (f := 1) hk dX8_standingAfter_32 ⟨rfl, by decide, _, rfl, rfl⟩ kX8_128 ?_
  refine xcallS hk c_J6_bitCount_0f7a4 bJ6_bitCount_0f7a4 kX8_131 dX8_standingAfter_35 rfl rfl (by first | decide | omega) ⟨by decide, by decide⟩ (Nat.le_of_ble_eq_true rfl) (det ?_)
  exact xiretT hk he dX8_standingAfter_38 ⟨Nat.le_of_ble_eq_true rfl, Nat.le_of_ble_eq_true rfl⟩ (Option.some.inj h).symm

def f_X8_peacesAfter  (p : Int32) (x : XS) : Option RT := ob (f_X8_needDays p x) (fun r2 => rbo r2 (fun x2 => some (.inr (some (.int (countF (passF 47 p (ccopyF x2)) ((passF 47 p (ccopyF x2)).1 47 1))), (landLook ((passF 47 p (ccopyF x2)).1 47 1) (passF 47 p (ccopyF x2)))))))
set_option maxHeartbeats 4000000 in
set_option maxRecDepth 100000 in
theorem c_X8_peacesAfter {g : Gx} {a : Nat → Nat} {x : XS} {p : Int32} {u : RT} (hfl : g.1.stackTraces = false) (h : f_X8_peacesAfter p x = some u) : Tx g yX8_peacesAfter cX8_peacesAfter 2 (some .int) 9 3 18 LF a x [.ref (a 0), .int p] u := by
  refine Tx_of (by decide +kernel) (Nat.le_of_ble_eq_true rfl) ?_
  intro k hk he hg
  subst hg
  rw [f_X8_peacesAfter] at h
  refine xaload_n hk dX8_peacesAfter_0 rfl ?_
  refine xiload_n hk dX8_peacesAfter_1 rfl ?_
  obtain ⟨r2, e2, h⟩ := ob_some h
  refine xcallVT hk he (c_X8_needDays hfl e2) bX8_needDays kX8_205 dX8_peacesAfter_2 rfl ⟨_, _, _, _, rfl, rfl⟩ rfl (by first | decide | omega) ⟨Nat.le_of_ble_eq_true rfl, Nat.le_of_ble_eq_true rfl⟩ (Nat.le_of_ble_eq_true rfl) h ?_
  intro v2 x2 hr2 h
  obtain rfl := n_X8_needDays (e2.trans (congrArg some hr2))
  refine xaload_n hk dX8_peacesAfter_5 rfl ?_
  refine xgetR (ci := 8) (f := 9) hk dX8_peacesAfter_6 ⟨rfl, by decide, _, rfl, rfl⟩ kX8_74 ?_
  refine xaload_n hk dX8_peacesAfter_9 rfl ?_
  refine xgetR (ci := 8) (f := 8) hk dX8_peacesAfter_10 ⟨rfl, by decide, _, rfl, rfl⟩ kX8_70 ?_
  refine xcallV hk c_X1_copyFrom bX1_copyFrom kX8_212 dX8_peacesAfter_13 rfl ⟨_, _, _, _, rfl, rfl⟩ rfl (by first | decide | omega) ⟨by decide, by decide⟩ (Nat.le_of_ble_eq_true rfl) (det ?_)
  refine xaload_n hk dX8_peacesAfter_16 rfl ?_
  refine xgetR (ci := 8) (f := 7) hk dX8_peacesAfter_17 ⟨rfl, by decide, _, rfl, rfl⟩ kX8_63 ?_
  refine xaload_n hk dX8_peacesAfter_20 rfl ?_
  refine xgetR (ci := 8) (f := 9) hk dX8_peacesAfter_21 ⟨rfl, by decide, _, rfl, rfl⟩ kX8_74 ?_
  refine xiload_n hk dX8_peacesAfter_24 rfl ?_
  refine xcallV hk c_X2_letPass47 bX2_letPass kX8_208 dX8_peacesAfter_25 rfl ⟨_, _, _, _, rfl, rfl⟩ rfl (by first | decide | omega) ⟨by decide, by decide⟩ (Nat.le_of_ble_eq_true rfl) (det ?_)
  refine xaload_n hk dX8_peacesAfter_28 rfl ?_
  refine xgetR (ci := 8) (f := 6) hk dX8_peacesAfter_29 ⟨rfl, by decide, _, rfl, rfl⟩ kX8_54 ?_
  refine xaload_n hk dX8_peacesAfter_32 rfl ?_
  refine xgetR (ci := 8) (f := 9) hk dX8_peacesAfter_33 ⟨rfl, by decide, _, rfl, rfl⟩ kX8_74 ?_
  refine xgetNI (ci := 1) (f := 1) hk dX8_peacesAfter_36 ⟨rfl, by decide, _, rfl, rfl⟩ kX8_128 ?_
  refine xcallV hk c_X3_count bX3_count kX8_156 dX8_peacesAfter_39 rfl ⟨_, _, _, _, rfl, rfl⟩ rfl (by first | decide | omega) ⟨by decide, by decide⟩ (Nat.le_of_ble_eq_true rfl) (det ?_)
  exact xiretT hk he dX8_peacesAfter_42 ⟨Nat.le_of_ble_eq_true rfl, Nat.le_of_ble_eq_true rfl⟩ (Option.some.inj h).symm

def f_X8_feed  (p : Int32) (q : Int32) (r : Int32) (s : Int32) (t : Int32) (x : XS) : Option RT := (if (x.1 1 1) ≤ 1980 then some (.inr (some (.int ((appendF (appendF (appendF (appendF (appendF x p) q) r) s) t).1 1 1)), (appendF (appendF (appendF (appendF (appendF x p) q) r) s) t))) else some (.inl ("java/lang/IllegalStateException", x)))
set_option maxHeartbeats 4000000 in
set_option maxRecDepth 100000 in
theorem c_X8_feed {g : Gx} {a : Nat → Nat} {x : XS} {p : Int32} {q : Int32} {r : Int32} {s : Int32} {t : Int32} {u : RT} (hfl : g.1.stackTraces = false) (h : f_X8_feed p q r s t x = some u) : Tx g yX8_feed cX8_feed 6 (some .int) 9 3 18 LF a x [.ref (a 0), .int p, .int q, .int r, .int s, .int t] u := by
  refine Tx_of (by decide +kernel) (Nat.le_of_ble_eq_true rfl) ?_
  intro k hk he hg
  subst hg
  rw [f_X8_feed] at h
  refine xaload_n hk dX8_feed_0 rfl ?_
  refine xgetR (ci := 8) (f := 0) hk dX8_feed_1 ⟨rfl, by decide, _, rfl, rfl⟩ kX8_12 ?_
  refine xgetNI (ci := 5) (f := 1) hk dX8_feed_4 ⟨rfl, by decide, _, rfl, rfl⟩ kX8_81 ?_
  refine xsipush (v := 1980) hk dX8_feed_7 (by decide) ?_
  refine xicmp_le hk 23 dX8_feed_10 (by decide) (fun h10 => ?_) (fun h10 => ?_)
  · rw [if_pos h10] at h
    refine xaload_n hk dX8_feed_23 rfl ?_
    refine xgetR (ci := 8) (f := 0) hk dX8_feed_24 ⟨rfl, by decide, _, rfl, rfl⟩ kX8_12 ?_
    refine xiload_n hk dX8_feed_27 rfl ?_
    refine xcallV hk c_X5_append bX5_append kX8_91 dX8_feed_28 rfl ⟨_, _, _, _, rfl, rfl⟩ rfl (by first | decide | omega) ⟨by decide, by decide⟩ (Nat.le_of_ble_eq_true rfl) (det ?_)
    refine xaload_n hk dX8_feed_31 rfl ?_
    refine xgetR (ci := 8) (f := 0) hk dX8_feed_32 ⟨rfl, by decide, _, rfl, rfl⟩ kX8_12 ?_
    refine xiload_n hk dX8_feed_35 rfl ?_
    refine xcallV hk c_X5_append bX5_append kX8_91 dX8_feed_36 rfl ⟨_, _, _, _, rfl, rfl⟩ rfl (by first | decide | omega) ⟨by decide, by decide⟩ (Nat.le_of_ble_eq_true rfl) (det ?_)
    refine xaload_n hk dX8_feed_39 rfl ?_
    refine xgetR (ci := 8) (f := 0) hk dX8_feed_40 ⟨rfl, by decide, _, rfl, rfl⟩ kX8_12 ?_
    refine xiload_n hk dX8_feed_43 rfl ?_
    refine xcallV hk c_X5_append bX5_append kX8_91 dX8_feed_44 rfl ⟨_, _, _, _, rfl, rfl⟩ rfl (by first | decide | omega) ⟨by decide, by decide⟩ (Nat.le_of_ble_eq_true rfl) (det ?_)
    refine xaload_n hk dX8_feed_47 rfl ?_
    refine xgetR (ci := 8) (f := 0) hk dX8_feed_48 ⟨rfl, by decide, _, rfl, rfl⟩ kX8_12 ?_
    refine xiload hk dX8_feed_51 rfl ?_
    refine xcallV hk c_X5_append bX5_append kX8_91 dX8_feed_53 rfl ⟨_, _, _, _, rfl, rfl⟩ rfl (by first | decide | omega) ⟨by decide, by decide⟩ (Nat.le_of_ble_eq_true rfl) (det ?_)
    refine xaload_n hk dX8_feed_56 rfl ?_
    refine xgetR (ci := 8) (f := 0) hk dX8_feed_57 ⟨rfl, by decide, _, rfl, rfl⟩ kX8_12 ?_
    refine xiload hk dX8_feed_60 rfl ?_
    refine xcallV hk c_X5_append bX5_append kX8_91 dX8_feed_62 rfl ⟨_, _, _, _, rfl, rfl⟩ rfl (by first | decide | omega) ⟨by decide, by decide⟩ (Nat.le_of_ble_eq_true rfl) (det ?_)
    refine xaload_n hk dX8_feed_65 rfl ?_
    refine xgetR (ci := 8) (f := 0) hk dX8_feed_66 ⟨rfl, by decide, _, rfl, rfl⟩ kX8_12 ?_
    refine xgetNI (ci := 5) (f := 1) hk dX8_feed_69 ⟨rfl, by decide, _, rfl, rfl⟩ kX8_81 ?_
    exact xiretT hk he dX8_feed_72 ⟨Nat.le_of_ble_eq_true rfl, Nat.le_of_ble_eq_true rfl⟩ (Option.some.inj h).symm
  · rw [if_neg h10] at h
    refine xthrow (E := "java/lang/IllegalStateException") hk he hfl 30 ⟨by decide +kernel, rfl⟩ okISE dX8_feed_13 dX8_feed_16 dX8_feed_17 dX8_feed_19 dX8_feed_22 ⟨by decide, by decide⟩ ⟨Nat.le_of_ble_eq_true rfl, Nat.le_of_ble_eq_true rfl⟩ (Option.some.inj h).symm

def f_X8_trim  (p : Int32) (x : XS) : Option RT := (if p < 0 then some (.inl ("java/lang/IllegalArgumentException", x)) else (if p ≤ (x.1 1 1) then some (.inr (some (.int p), (setI x 1 1 p))) else some (.inl ("java/lang/IllegalArgumentException", x))))
set_option maxHeartbeats 4000000 in
set_option maxRecDepth 100000 in
theorem c_X8_trim {g : Gx} {a : Nat → Nat} {x : XS} {p : Int32} {u : RT} (hfl : g.1.stackTraces = false) (h : f_X8_trim p x = some u) : Tx g yX8_trim cX8_trim 2 (some .int) 9 3 18 LF a x [.ref (a 0), .int p] u := by
  refine Tx_of (by decide +kernel) (Nat.le_of_ble_eq_true rfl) ?_
  intro k hk he hg
  subst hg
  rw [f_X8_trim] at h
  refine xiload_n hk dX8_trim_0 rfl ?_
  refine xif_lt hk 15 dX8_trim_1 (by decide) (fun h1 => ?_) (fun h1 => ?_)
  · rw [if_pos h1] at h
    refine xthrow (E := "java/lang/IllegalArgumentException") hk he hfl 31 ⟨by decide +kernel, rfl⟩ okIAE dX8_trim_15 dX8_trim_18 dX8_trim_19 dX8_trim_21 dX8_trim_24 ⟨by decide, by decide⟩ ⟨Nat.le_of_ble_eq_true rfl, Nat.le_of_ble_eq_true rfl⟩ (Option.some.inj h).symm
  · rw [if_neg h1] at h
    refine xiload_n hk dX8_trim_4 rfl ?_
    refine xaload_n hk dX8_trim_5 rfl ?_
    refine xgetR (ci := 8) (f := 0) hk dX8_trim_6 ⟨rfl, by decide, _, rfl, rfl⟩ kX8_12 ?_
    refine xgetNI (ci := 5) (f := 1) hk dX8_trim_9 ⟨rfl, by decide, _, rfl, rfl⟩ kX8_81 ?_
    refine xicmp_le hk 25 dX8_trim_12 (by decide) (fun h12 => ?_) (fun h12 => ?_)
    · rw [if_pos h12] at h
      refine xaload_n hk dX8_trim_25 rfl ?_
      refine xgetR (ci := 8) (f := 0) hk dX8_trim_26 ⟨rfl, by decide, _, rfl, rfl⟩ kX8_12 ?_
      refine xiload_n hk dX8_trim_29 rfl ?_
      refine xputIN (ci := 5) (f := 1) hk dX8_trim_30 ⟨rfl, by decide, _, rfl, rfl⟩ kX8_81 ⟨rfl, by decide +kernel⟩ ?_
      refine xiload_n hk dX8_trim_33 rfl ?_
      exact xiretT hk he dX8_trim_34 ⟨Nat.le_of_ble_eq_true rfl, Nat.le_of_ble_eq_true rfl⟩ (Option.some.inj h).symm
    · rw [if_neg h12] at h
      refine xthrow (E := "java/lang/IllegalArgumentException") hk he hfl 31 ⟨by decide +kernel, rfl⟩ okIAE dX8_trim_15 dX8_trim_18 dX8_trim_19 dX8_trim_21 dX8_trim_24 ⟨by decide, by decide⟩ ⟨Nat.le_of_ble_eq_true rfl, Nat.le_of_ble_eq_true rfl⟩ (Option.some.inj h).symm

def f_X8_blamedFamily_L29   : Nat → Int32 → XS → Option RT
  | 0, _, _ => none
  | n + 1, l1, x => (if (x.1 21 0) ≤ l1 then some (.inr (some (.int (-1)), x)) else (if (b2i (hasB (togetherF (webLook (x.1 46 1) x) (2 * l1)) ((2 * l1) + 1))) = 0 then (f_X8_blamedFamily_L29   n (l1 + 1) (webLook (x.1 46 1) x)) else some (.inr (some (.int l1), (webLook (x.1 46 1) x)))))
def f_X8_blamedFamily   (x : XS) : Option RT := (if (countF x (x.1 46 1)) ≤ 0 then (f_X8_blamedFamily_L29   30 0 (landLook (x.1 46 1) x)) else some (.inl ("java/lang/IllegalStateException", (landLook (x.1 46 1) x))))
set_option maxHeartbeats 4000000 in
set_option maxRecDepth 100000 in
theorem c_X8_blamedFamily {g : Gx} {a : Nat → Nat} {x : XS}  {u : RT} (hfl : g.1.stackTraces = false) (h : f_X8_blamedFamily  x = some u) : Tx g yX8_blamedFamily cX8_blamedFamily 2 (some .int) 9 3 18 LF a x [.ref (a 0)] u := by
  refine Tx_of (by decide +kernel) (Nat.le_of_ble_eq_true rfl) ?_
  intro k hk he hg
  subst hg
  rw [f_X8_blamedFamily] at h
  refine xaload_n hk dX8_blamedFamily_0 rfl ?_
  refine xgetR (ci := 8) (f := 6) hk dX8_blamedFamily_1 ⟨rfl, by decide, _, rfl, rfl⟩ kX8_54 ?_
  refine xaload_n hk dX8_blamedFamily_4 rfl ?_
  refine xgetR (ci := 8) (f := 8) hk dX8_blamedFamily_5 ⟨rfl, by decide, _, rfl, rfl⟩ kX8_70 ?_
  refine xgetNI (ci := 1) (f := 1) hk dX8_blamedFamily_8 ⟨rfl, by decide, _, rfl, rfl⟩ kX8_128 ?_
  refine xcallV hk c_X3_count bX3_count kX8_156 dX8_blamedFamily_11 rfl ⟨_, _, _, _, rfl, rfl⟩ rfl (by first | decide | omega) ⟨by decide, by decide⟩ (Nat.le_of_ble_eq_true rfl) (det ?_)
  refine xif_le hk 27 dX8_blamedFamily_14 (by decide) (fun h14 => ?_) (fun h14 => ?_)
  · rw [if_pos h14] at h
    refine xiconst (v := 0) hk dX8_blamedFamily_27 (by decide) ?_
    refine xistore_n hk dX8_blamedFamily_28 (by decide) ?_
    have loop29 : ∀ (n29 : Nat) (l1 : Int32) (x : XS), f_X8_blamedFamily_L29   n29 l1 x = some u → Wx k 0 0 LF a x 29 [(0, .ref (a 0)), (1, .int l1)] [] := by
      intro n29
      induction n29 with
      | zero => intro l1 x h; rw [f_X8_blamedFamily_L29] at h; cases h
      | succ n29 ih29 =>
        intro l1 x h
        rw [f_X8_blamedFamily_L29] at h
        refine xiload_n hk dX8_blamedFamily_29 rfl ?_
        refine xaload_n hk dX8_blamedFamily_30 rfl ?_
        refine xgetR (ci := 8) (f := 3) hk dX8_blamedFamily_31 ⟨rfl, by decide, _, rfl, rfl⟩ kX8_30 ?_
        refine xgetNI (ci := 0) (f := 0) hk dX8_blamedFamily_34 ⟨rfl, by decide, _, rfl, rfl⟩ kX8_113 ?_
        refine xicmp_ge hk 76 dX8_blamedFamily_37 (by decide) (fun h37 => ?_) (fun h37 => ?_)
        · rw [if_pos h37] at h
          refine xiconst (v := (-1)) hk dX8_blamedFamily_76 (by decide) ?_
          exact xiretT hk he dX8_blamedFamily_77 ⟨Nat.le_of_ble_eq_true rfl, Nat.le_of_ble_eq_true rfl⟩ (Option.some.inj h).symm
        · rw [if_neg h37] at h
          refine xaload_n hk dX8_blamedFamily_40 rfl ?_
          refine xgetR (ci := 8) (f := 5) hk dX8_blamedFamily_41 ⟨rfl, by decide, _, rfl, rfl⟩ kX8_47 ?_
          refine xaload_n hk dX8_blamedFamily_44 rfl ?_
          refine xgetR (ci := 8) (f := 8) hk dX8_blamedFamily_45 ⟨rfl, by decide, _, rfl, rfl⟩ kX8_70 ?_
          refine xgetNI (ci := 1) (f := 1) hk dX8_blamedFamily_48 ⟨rfl, by decide, _, rfl, rfl⟩ kX8_128 ?_
          refine xiconst (v := 2) hk dX8_blamedFamily_51 (by decide) ?_
          refine xiload_n hk dX8_blamedFamily_52 rfl ?_
          refine ximul hk dX8_blamedFamily_53 ?_
          refine xcallV hk c_X7_part bX7_part kX8_178 dX8_blamedFamily_54 rfl ⟨_, _, _, _, rfl, rfl⟩ rfl (by first | decide | omega) ⟨by decide, by decide⟩ (Nat.le_of_ble_eq_true rfl) (det ?_)
          refine xiconst (v := 2) hk dX8_blamedFamily_57 (by decide) ?_
          refine xiload_n hk dX8_blamedFamily_58 rfl ?_
          refine ximul hk dX8_blamedFamily_59 ?_
          refine xiconst (v := 1) hk dX8_blamedFamily_60 (by decide) ?_
          refine xiadd hk dX8_blamedFamily_61 ?_
          refine xcallS hk c_X8_has bX8_has kX8_149 dX8_blamedFamily_62 rfl rfl (by first | decide | omega) ⟨by decide, by decide⟩ (Nat.le_of_ble_eq_true rfl) (det ?_)
          refine xif_eq hk 70 dX8_blamedFamily_65 (by decide) (fun h65 => ?_) (fun h65 => ?_)
          · rw [if_pos h65] at h
            refine xiinc (v := (l1 + 1)) hk dX8_blamedFamily_70 rfl (by decide) rfl ?_
            refine xgoto hk 29 dX8_blamedFamily_73 (by decide) ?_
            refine xsub [(0, .ref (a 0)), (1, .int (l1 + 1))] rfl ?_
            exact ih29 _ _ h
          · rw [if_neg h65] at h
            refine xiload_n hk dX8_blamedFamily_68 rfl ?_
            exact xiretT hk he dX8_blamedFamily_69 ⟨Nat.le_of_ble_eq_true rfl, Nat.le_of_ble_eq_true rfl⟩ (Option.some.inj h).symm
    refine xsub [(0, .ref (a 0)), (1, .int 0)] rfl ?_
    exact loop29 _ _ _ h
  · rw [if_neg h14] at h
    refine xthrow (E := "java/lang/IllegalStateException") hk he hfl 34 ⟨by decide +kernel, rfl⟩ okISE dX8_blamedFamily_17 dX8_blamedFamily_20 dX8_blamedFamily_21 dX8_blamedFamily_23 dX8_blamedFamily_26 ⟨by decide, by decide⟩ ⟨Nat.le_of_ble_eq_true rfl, Nat.le_of_ble_eq_true rfl⟩ (Option.some.inj h).symm

def f_X8_mostTellingOath_L30   : Nat → Int32 → Int32 → Int32 → XS → Option RT
  | 0, _, _, _, _ => none
  | n + 1, l1, l2, l3, x => (if (2 * (x.1 21 0)) ≤ l3 then some (.inr (some (.int l1), x)) else (if (countWithF x (x.1 46 1) l3) ≤ 0 then (f_X8_mostTellingOath_L30   n l1 l2 (l3 + 1) (landLook (x.1 46 1) x)) else (if l2 = 0 then (f_X8_mostTellingOath_L30   n l3 (countWithF x (x.1 46 1) l3) (l3 + 1) (landLook (x.1 46 1) x)) else (if l2 ≤ (countWithF x (x.1 46 1) l3) then (f_X8_mostTellingOath_L30   n l1 l2 (l3 + 1) (landLook (x.1 46 1) x)) else (f_X8_mostTellingOath_L30   n l3 (countWithF x (x.1 46 1) l3) (l3 + 1) (landLook (x.1 46 1) x))))))
def f_X8_mostTellingOath   (x : XS) : Option RT := ob (f_X8_needPeace x) (fun r1 => rbo r1 (fun x1 => (if (x1.1 21 0) = 0 then some (.inl ("java/lang/IllegalStateException", x1)) else (f_X8_mostTellingOath_L30   30 0 0 0 x1))))
set_option maxHeartbeats 4000000 in
set_option maxRecDepth 100000 in
theorem c_X8_mostTellingOath {g : Gx} {a : Nat → Nat} {x : XS}  {u : RT} (hfl : g.1.stackTraces = false) (h : f_X8_mostTellingOath  x = some u) : Tx g yX8_mostTellingOath cX8_mostTellingOath 5 (some .int) 9 3 18 LF a x [.ref (a 0)] u := by
  refine Tx_of (by decide +kernel) (Nat.le_of_ble_eq_true rfl) ?_
  intro k hk he hg
  subst hg
  rw [f_X8_mostTellingOath] at h
  refine xaload_n hk dX8_mostTellingOath_0 rfl ?_
  obtain ⟨r1, e1, h⟩ := ob_some h
  refine xcallVT hk he (c_X8_needPeace hfl e1) bX8_needPeace kX8_187 dX8_mostTellingOath_1 rfl ⟨_, _, _, _, rfl, rfl⟩ rfl (by first | decide | omega) ⟨Nat.le_of_ble_eq_true rfl, Nat.le_of_ble_eq_true rfl⟩ (Nat.le_of_ble_eq_true rfl) h ?_
  intro v1 x1 hr1 h
  obtain rfl := n_X8_needPeace (e1.trans (congrArg some hr1))
  refine xaload_n hk dX8_mostTellingOath_4 rfl ?_
  refine xgetR (ci := 8) (f := 3) hk dX8_mostTellingOath_5 ⟨rfl, by decide, _, rfl, rfl⟩ kX8_30 ?_
  refine xgetNI (ci := 0) (f := 0) hk dX8_mostTellingOath_8 ⟨rfl, by decide, _, rfl, rfl⟩ kX8_113 ?_
  refine xif_ne hk 24 dX8_mostTellingOath_11 (by decide) (fun h11 => ?_) (fun h11 => ?_)
  · rw [if_neg h11] at h
    refine xiconst (v := 0) hk dX8_mostTellingOath_24 (by decide) ?_
    refine xistore_n hk dX8_mostTellingOath_25 (by decide) ?_
    refine xiconst (v := 0) hk dX8_mostTellingOath_26 (by decide) ?_
    refine xistore_n hk dX8_mostTellingOath_27 (by decide) ?_
    refine xiconst (v := 0) hk dX8_mostTellingOath_28 (by decide) ?_
    refine xistore_n hk dX8_mostTellingOath_29 (by decide) ?_
    have loop30 : ∀ (n30 : Nat) (l1 : Int32) (l2 : Int32) (l3 : Int32) (x : XS), f_X8_mostTellingOath_L30   n30 l1 l2 l3 x = some u → Wx k 1 6 LF a x 30 [(0, .ref (a 0)), (1, .int l1), (2, .int l2), (3, .int l3)] [] := by
      intro n30
      induction n30 with
      | zero => intro l1 l2 l3 x h; rw [f_X8_mostTellingOath_L30] at h; cases h
      | succ n30 ih30 =>
        intro l1 l2 l3 x h
        rw [f_X8_mostTellingOath_L30] at h
        refine xiload_n hk dX8_mostTellingOath_30 rfl ?_
        refine xiconst (v := 2) hk dX8_mostTellingOath_31 (by decide) ?_
        refine xaload_n hk dX8_mostTellingOath_32 rfl ?_
        refine xgetR (ci := 8) (f := 3) hk dX8_mostTellingOath_33 ⟨rfl, by decide, _, rfl, rfl⟩ kX8_30 ?_
        refine xgetNI (ci := 0) (f := 0) hk dX8_mostTellingOath_36 ⟨rfl, by decide, _, rfl, rfl⟩ kX8_113 ?_
        refine ximul hk dX8_mostTellingOath_39 ?_
        refine xicmp_ge hk 86 dX8_mostTellingOath_40 (by decide) (fun h40 => ?_) (fun h40 => ?_)
        · rw [if_pos h40] at h
          refine xiload_n hk dX8_mostTellingOath_86 rfl ?_
          exact xiretT hk he dX8_mostTellingOath_87 ⟨Nat.le_of_ble_eq_true rfl, Nat.le_of_ble_eq_true rfl⟩ (Option.some.inj h).symm
        · rw [if_neg h40] at h
          refine xaload_n hk dX8_mostTellingOath_43 rfl ?_
          refine xgetR (ci := 8) (f := 6) hk dX8_mostTellingOath_44 ⟨rfl, by decide, _, rfl, rfl⟩ kX8_54 ?_
          refine xaload_n hk dX8_mostTellingOath_47 rfl ?_
          refine xgetR (ci := 8) (f := 8) hk dX8_mostTellingOath_48 ⟨rfl, by decide, _, rfl, rfl⟩ kX8_70 ?_
          refine xgetNI (ci := 1) (f := 1) hk dX8_mostTellingOath_51 ⟨rfl, by decide, _, rfl, rfl⟩ kX8_128 ?_
          refine xiload_n hk dX8_mostTellingOath_54 rfl ?_
          refine xcallV hk c_X3_countWith bX3_countWith kX8_184 dX8_mostTellingOath_55 rfl ⟨_, _, _, _, rfl, rfl⟩ rfl (by first | decide | omega) ⟨by decide, by decide⟩ (Nat.le_of_ble_eq_true rfl) (det ?_)
          refine xistore hk dX8_mostTellingOath_58 (by decide) ?_
          refine xiload hk dX8_mostTellingOath_60 rfl ?_
          refine xif_le hk 80 dX8_mostTellingOath_62 (by decide) (fun h62 => ?_) (fun h62 => ?_)
          · rw [if_pos h62] at h
            refine xiinc (v := (l3 + 1)) hk dX8_mostTellingOath_80 rfl (by decide) rfl ?_
            refine xgoto hk 30 dX8_mostTellingOath_83 (by decide) ?_
            refine xsub [(0, .ref (a 0)), (1, .int l1), (2, .int l2), (3, .int (l3 + 1))] rfl ?_
            exact ih30 _ _ _ _ h
          · rw [if_neg h62] at h
            refine xiload_n hk dX8_mostTellingOath_65 rfl ?_
            refine xif_eq hk 75 dX8_mostTellingOath_66 (by decide) (fun h66 => ?_) (fun h66 => ?_)
            · rw [if_pos h66] at h
              refine xiload_n hk dX8_mostTellingOath_75 rfl ?_
              refine xistore_n hk dX8_mostTellingOath_76 (by decide) ?_
              refine xiload hk dX8_mostTellingOath_77 rfl ?_
              refine xistore_n hk dX8_mostTellingOath_79 (by decide) ?_
              refine xiinc (v := (l3 + 1)) hk dX8_mostTellingOath_80 rfl (by decide) rfl ?_
              refine xgoto hk 30 dX8_mostTellingOath_83 (by decide) ?_
              refine xsub [(0, .ref (a 0)), (1, .int l3), (2, .int (countWithF x (x.1 46 1) l3)), (3, .int (l3 + 1))] rfl ?_
              exact ih30 _ _ _ _ h
            · rw [if_neg h66] at h
              refine xiload hk dX8_mostTellingOath_69 rfl ?_
              refine xiload_n hk dX8_mostTellingOath_71 rfl ?_
              refine xicmp_ge hk 80 dX8_mostTellingOath_72 (by decide) (fun h72 => ?_) (fun h72 => ?_)
              · rw [if_pos h72] at h
                refine xiinc (v := (l3 + 1)) hk dX8_mostTellingOath_80 rfl (by decide) rfl ?_
                refine xgoto hk 30 dX8_mostTellingOath_83 (by decide) ?_
                refine xsub [(0, .ref (a 0)), (1, .int l1), (2, .int l2), (3, .int (l3 + 1))] rfl ?_
                exact ih30 _ _ _ _ h
              · rw [if_neg h72] at h
                refine xiload_n hk dX8_mostTellingOath_75 rfl ?_
                refine xistore_n hk dX8_mostTellingOath_76 (by decide) ?_
                refine xiload hk dX8_mostTellingOath_77 rfl ?_
                refine xistore_n hk dX8_mostTellingOath_79 (by decide) ?_
                refine xiinc (v := (l3 + 1)) hk dX8_mostTellingOath_80 rfl (by decide) rfl ?_
                refine xgoto hk 30 dX8_mostTellingOath_83 (by decide) ?_
                refine xsub [(0, .ref (a 0)), (1, .int l3), (2, .int (countWithF x (x.1 46 1) l3)), (3, .int (l3 + 1))] rfl ?_
                exact ih30 _ _ _ _ h
    refine xsub [(0, .ref (a 0)), (1, .int 0), (2, .int 0), (3, .int 0)] rfl ?_
    exact loop30 _ _ _ _ _ h
  · rw [if_pos h11] at h
    refine xthrow (E := "java/lang/IllegalStateException") hk he hfl 36 ⟨by decide +kernel, rfl⟩ okISE dX8_mostTellingOath_14 dX8_mostTellingOath_17 dX8_mostTellingOath_18 dX8_mostTellingOath_20 dX8_mostTellingOath_23 ⟨by decide, by decide⟩ ⟨Nat.le_of_ble_eq_true rfl, Nat.le_of_ble_eq_true rfl⟩ (Option.some.inj h).symm

def f_X8_daysUntilPeace_L13   : Nat → Int32 → XS → Option (Int32 × XS)
  | 0, _, _ => none
  | n + 1, l1, x => (if 30 ≤ l1 then (if (countF x (x.1 47 1)) ≤ 0 then some ((-1), (landLook (x.1 47 1) x)) else some (30, (landLook (x.1 47 1) x))) else (if (countF x (x.1 47 1)) ≤ 0 then (f_X8_daysUntilPeace_L13   n (l1 + 1) (passF 47 1 (landLook (x.1 47 1) x))) else some (l1, (landLook (x.1 47 1) x))))
def f_X8_daysUntilPeace   (x : XS) : Option (Int32 × XS) := (f_X8_daysUntilPeace_L13   40 0 (ccopyF x))

set_option maxHeartbeats 4000000 in
set_option maxRecDepth 100000 in
theorem c_X8_daysUntilPeace {g : Gx} {a : Nat → Nat} {x : XS}    {u : Int32 × XS}  (h : f_X8_daysUntilPeace   x = some u) : Mx g yX8_daysUntilPeace cX8_daysUntilPeace 2 (some .int) 9 0 0 LF a x [.ref (a 0)] (pr (some (.int u.1)) u.2) := by
  refine Mx_of (by decide +kernel) (Nat.le_of_ble_eq_true rfl) ?_
  intro k hk he hg
  subst hg
  rw [f_X8_daysUntilPeace] at h
  refine xaload_n hk dX8_daysUntilPeace_0 rfl ?_
  refine xgetR (ci := 8) (f := 9) hk dX8_daysUntilPeace_1 ⟨rfl, by decide, _, rfl, rfl⟩ kX8_74 ?_
  refine xaload_n hk dX8_daysUntilPeace_4 rfl ?_
  refine xgetR (ci := 8) (f := 8) hk dX8_daysUntilPeace_5 ⟨rfl, by decide, _, rfl, rfl⟩ kX8_70 ?_
  refine xcallV hk c_X1_copyFrom bX1_copyFrom kX8_212 dX8_daysUntilPeace_8 rfl ⟨_, _, _, _, rfl, rfl⟩ rfl (by first | decide | omega) ⟨by decide, by decide⟩ (Nat.le_of_ble_eq_true rfl) (det ?_)
  refine xiconst (v := 0) hk dX8_daysUntilPeace_11 (by decide) ?_
  refine xistore_n hk dX8_daysUntilPeace_12 (by decide) ?_
  have loop13 : ∀ (n13 : Nat) (l1 : Int32) (x : XS), f_X8_daysUntilPeace_L13   n13 l1 x = some u → Wx k 0 0 LF a x 13 [(0, .ref (a 0)), (1, .int l1)] [] := by
    intro n13
    induction n13 with
    | zero => intro l1 x h; rw [f_X8_daysUntilPeace_L13] at h; cases h
    | succ n13 ih13 =>
      intro l1 x h
      rw [f_X8_daysUntilPeace_L13] at h
      refine xiload_n hk dX8_daysUntilPeace_13 rfl ?_
      refine xbipush (v := 30) hk dX8_daysUntilPeace_14 (by decide) ?_
      refine xicmp_ge hk 56 dX8_daysUntilPeace_16 (by decide) (fun h16 => ?_) (fun h16 => ?_)
      · rw [if_pos h16] at h
        refine xaload_n hk dX8_daysUntilPeace_56 rfl ?_
        refine xgetR (ci := 8) (f := 6) hk dX8_daysUntilPeace_57 ⟨rfl, by decide, _, rfl, rfl⟩ kX8_54 ?_
        refine xaload_n hk dX8_daysUntilPeace_60 rfl ?_
        refine xgetR (ci := 8) (f := 9) hk dX8_daysUntilPeace_61 ⟨rfl, by decide, _, rfl, rfl⟩ kX8_74 ?_
        refine xgetNI (ci := 1) (f := 1) hk dX8_daysUntilPeace_64 ⟨rfl, by decide, _, rfl, rfl⟩ kX8_128 ?_
        refine xcallV hk c_X3_count bX3_count kX8_156 dX8_daysUntilPeace_67 rfl ⟨_, _, _, _, rfl, rfl⟩ rfl (by first | decide | omega) ⟨by decide, by decide⟩ (Nat.le_of_ble_eq_true rfl) (det ?_)
        refine xif_le hk 78 dX8_daysUntilPeace_70 (by decide) (fun h70 => ?_) (fun h70 => ?_)
        · rw [if_pos h70] at h
          refine xiconst (v := (-1)) hk dX8_daysUntilPeace_78 (by decide) ?_
          refine xiret hk he dX8_daysUntilPeace_79 ⟨by decide, by decide⟩ ?_
          obtain rfl := Option.some.inj h
          exact ⟨rfl, rfl⟩
        · rw [if_neg h70] at h
          refine xbipush (v := 30) hk dX8_daysUntilPeace_73 (by decide) ?_
          refine xgoto hk 79 dX8_daysUntilPeace_75 (by decide) ?_
          refine xiret hk he dX8_daysUntilPeace_79 ⟨by decide, by decide⟩ ?_
          obtain rfl := Option.some.inj h
          exact ⟨rfl, rfl⟩
      · rw [if_neg h16] at h
        refine xaload_n hk dX8_daysUntilPeace_19 rfl ?_
        refine xgetR (ci := 8) (f := 6) hk dX8_daysUntilPeace_20 ⟨rfl, by decide, _, rfl, rfl⟩ kX8_54 ?_
        refine xaload_n hk dX8_daysUntilPeace_23 rfl ?_
        refine xgetR (ci := 8) (f := 9) hk dX8_daysUntilPeace_24 ⟨rfl, by decide, _, rfl, rfl⟩ kX8_74 ?_
        refine xgetNI (ci := 1) (f := 1) hk dX8_daysUntilPeace_27 ⟨rfl, by decide, _, rfl, rfl⟩ kX8_128 ?_
        refine xcallV hk c_X3_count bX3_count kX8_156 dX8_daysUntilPeace_30 rfl ⟨_, _, _, _, rfl, rfl⟩ rfl (by first | decide | omega) ⟨by decide, by decide⟩ (Nat.le_of_ble_eq_true rfl) (det ?_)
        refine xif_le hk 38 dX8_daysUntilPeace_33 (by decide) (fun h33 => ?_) (fun h33 => ?_)
        · rw [if_pos h33] at h
          refine xaload_n hk dX8_daysUntilPeace_38 rfl ?_
          refine xgetR (ci := 8) (f := 7) hk dX8_daysUntilPeace_39 ⟨rfl, by decide, _, rfl, rfl⟩ kX8_63 ?_
          refine xaload_n hk dX8_daysUntilPeace_42 rfl ?_
          refine xgetR (ci := 8) (f := 9) hk dX8_daysUntilPeace_43 ⟨rfl, by decide, _, rfl, rfl⟩ kX8_74 ?_
          refine xiconst (v := 1) hk dX8_daysUntilPeace_46 (by decide) ?_
          refine xcallV hk c_X2_letPass47 bX2_letPass kX8_208 dX8_daysUntilPeace_47 rfl ⟨_, _, _, _, rfl, rfl⟩ rfl (by first | decide | omega) ⟨by decide, by decide⟩ (Nat.le_of_ble_eq_true rfl) (det ?_)
          refine xiinc (v := (l1 + 1)) hk dX8_daysUntilPeace_50 rfl (by decide) rfl ?_
          refine xgoto hk 13 dX8_daysUntilPeace_53 (by decide) ?_
          refine xsub [(0, .ref (a 0)), (1, .int (l1 + 1))] rfl ?_
          exact ih13 _ _ h
        · rw [if_neg h33] at h
          refine xiload_n hk dX8_daysUntilPeace_36 rfl ?_
          refine xiret hk he dX8_daysUntilPeace_37 ⟨by decide, by decide⟩ ?_
          obtain rfl := Option.some.inj h
          exact ⟨rfl, rfl⟩
  refine xsub [(0, .ref (a 0)), (1, .int 0)] rfl ?_
  exact loop13 _ _ _ h

noncomputable def f_X8_meanRiders_L25   : Nat → Int32 → Int32 → Int32 → XS → Option (UInt64 × XS)
  | 0, _, _, _, _ => none
  | n + 1, l1, l2, l3, x => (if (x.1 21 0) ≤ l3 then og (cdec (vf_n64 (FP.ddiv (FP.i2d l2) (FP.i2d l1)))) (some ((FP.ddiv (FP.i2d l2) (FP.i2d l1)), x)) else (f_X8_meanRiders_L25   n l1 (l2 + (countWithF x (x.1 46 1) (2 * l3))) (l3 + 1) (landLook (x.1 46 1) x)))
noncomputable def f_X8_meanRiders   (x : XS) : Option (UInt64 × XS) := (if (countF x (x.1 46 1)) = 0 then some (0, (landLook (x.1 46 1) x)) else (f_X8_meanRiders_L25   30 (countF x (x.1 46 1)) 0 0 (landLook (x.1 46 1) x)))

set_option maxHeartbeats 4000000 in
set_option maxRecDepth 100000 in
theorem c_X8_meanRiders {g : Gx} {a : Nat → Nat} {x : XS}    {u : UInt64 × XS}  (h : f_X8_meanRiders   x = some u) : Mx g yX8_meanRiders cX8_meanRiders 4 (some .double) 9 0 0 LF a x [.ref (a 0)] (pr (some (.double u.1)) u.2) := by
  refine Mx_of (by decide +kernel) (Nat.le_of_ble_eq_true rfl) ?_
  intro k hk he hg
  subst hg
  rw [f_X8_meanRiders] at h
  refine xaload_n hk dX8_meanRiders_0 rfl ?_
  refine xgetR (ci := 8) (f := 6) hk dX8_meanRiders_1 ⟨rfl, by decide, _, rfl, rfl⟩ kX8_54 ?_
  refine xaload_n hk dX8_meanRiders_4 rfl ?_
  refine xgetR (ci := 8) (f := 8) hk dX8_meanRiders_5 ⟨rfl, by decide, _, rfl, rfl⟩ kX8_70 ?_
  refine xgetNI (ci := 1) (f := 1) hk dX8_meanRiders_8 ⟨rfl, by decide, _, rfl, rfl⟩ kX8_128 ?_
  refine xcallV hk c_X3_count bX3_count kX8_156 dX8_meanRiders_11 rfl ⟨_, _, _, _, rfl, rfl⟩ rfl (by first | decide | omega) ⟨by decide, by decide⟩ (Nat.le_of_ble_eq_true rfl) (det ?_)
  refine xistore_n hk dX8_meanRiders_14 (by decide) ?_
  refine xiload_n hk dX8_meanRiders_15 rfl ?_
  refine xif_ne hk 21 dX8_meanRiders_16 (by decide) (fun h16 => ?_) (fun h16 => ?_)
  · rw [if_neg h16] at h
    refine xiconst (v := 0) hk dX8_meanRiders_21 (by decide) ?_
    refine xistore_n hk dX8_meanRiders_22 (by decide) ?_
    refine xiconst (v := 0) hk dX8_meanRiders_23 (by decide) ?_
    refine xistore_n hk dX8_meanRiders_24 (by decide) ?_
    have loop25 : ∀ (n25 : Nat) (l1 : Int32) (l2 : Int32) (l3 : Int32) (x : XS), f_X8_meanRiders_L25   n25 l1 l2 l3 x = some u → Wx k 0 0 LF a x 25 [(0, .ref (a 0)), (1, .int l1), (2, .int l2), (3, .int l3)] [] := by
      intro n25
      induction n25 with
      | zero => intro l1 l2 l3 x h; rw [f_X8_meanRiders_L25] at h; cases h
      | succ n25 ih25 =>
        intro l1 l2 l3 x h
        rw [f_X8_meanRiders_L25] at h
        refine xiload_n hk dX8_meanRiders_25 rfl ?_
        refine xaload_n hk dX8_meanRiders_26 rfl ?_
        refine xgetR (ci := 8) (f := 3) hk dX8_meanRiders_27 ⟨rfl, by decide, _, rfl, rfl⟩ kX8_30 ?_
        refine xgetNI (ci := 0) (f := 0) hk dX8_meanRiders_30 ⟨rfl, by decide, _, rfl, rfl⟩ kX8_113 ?_
        refine xicmp_ge hk 62 dX8_meanRiders_33 (by decide) (fun h33 => ?_) (fun h33 => ?_)
        · rw [if_pos h33] at h
          refine xiload_n hk dX8_meanRiders_62 rfl ?_
          refine xi2d hk dX8_meanRiders_63 ?_
          refine xiload_n hk dX8_meanRiders_64 rfl ?_
          refine xi2d hk dX8_meanRiders_65 ?_
          obtain ⟨hi66, h⟩ := og_some h
          refine xddiv hk dX8_meanRiders_66 (cdec_of hi66) ?_
          refine xdret hk he dX8_meanRiders_67 ⟨by decide, by decide⟩ ?_
          obtain rfl := Option.some.inj h
          exact ⟨rfl, rfl⟩
        · rw [if_neg h33] at h
          refine xiload_n hk dX8_meanRiders_36 rfl ?_
          refine xaload_n hk dX8_meanRiders_37 rfl ?_
          refine xgetR (ci := 8) (f := 6) hk dX8_meanRiders_38 ⟨rfl, by decide, _, rfl, rfl⟩ kX8_54 ?_
          refine xaload_n hk dX8_meanRiders_41 rfl ?_
          refine xgetR (ci := 8) (f := 8) hk dX8_meanRiders_42 ⟨rfl, by decide, _, rfl, rfl⟩ kX8_70 ?_
          refine xgetNI (ci := 1) (f := 1) hk dX8_meanRiders_45 ⟨rfl, by decide, _, rfl, rfl⟩ kX8_128 ?_
          refine xiconst (v := 2) hk dX8_meanRiders_48 (by decide) ?_
          refine xiload_n hk dX8_meanRiders_49 rfl ?_
          refine ximul hk dX8_meanRiders_50 ?_
          refine xcallV hk c_X3_countWith bX3_countWith kX8_184 dX8_meanRiders_51 rfl ⟨_, _, _, _, rfl, rfl⟩ rfl (by first | decide | omega) ⟨by decide, by decide⟩ (Nat.le_of_ble_eq_true rfl) (det ?_)
          refine xiadd hk dX8_meanRiders_54 ?_
          refine xistore_n hk dX8_meanRiders_55 (by decide) ?_
          refine xiinc (v := (l3 + 1)) hk dX8_meanRiders_56 rfl (by decide) rfl ?_
          refine xgoto hk 25 dX8_meanRiders_59 (by decide) ?_
          refine xsub [(0, .ref (a 0)), (1, .int l1), (2, .int (l2 + (countWithF x (x.1 46 1) (2 * l3)))), (3, .int (l3 + 1))] rfl ?_
          exact ih25 _ _ _ _ h
    refine xsub [(0, .ref (a 0)), (1, .int (countF x (x.1 46 1))), (2, .int 0), (3, .int 0)] rfl ?_
    exact loop25 _ _ _ _ _ h
  · rw [if_pos h16] at h
    refine xdconst0 hk dX8_meanRiders_19 ?_
    refine xdret hk he dX8_meanRiders_20 ⟨by decide, by decide⟩ ?_
    obtain rfl := Option.some.inj h
    exact ⟨rfl, rfl⟩

def f_X8_digestStatements_L5   : Nat → Int64 → Int32 → XS → Option (Int64 × XS)
  | 0, _, _, _ => none
  | n + 1, l3, l5, x => (if (x.1 21 1) ≤ l5 then some (l3, x) else (if (b2i (hasB (x.1 46 1) l5)) = 0 then (f_X8_digestStatements_L5   n ((((((((l3 * (31)) + ((entI x 22 20 l5)).toInt64) * (31)) + ((entI x 23 20 l5)).toInt64) * (31)) + ((entI x 24 20 l5)).toInt64) * (31)) + (0).toInt64) (l5 + 1) x) else (f_X8_digestStatements_L5   n ((((((((l3 * (31)) + ((entI x 22 20 l5)).toInt64) * (31)) + ((entI x 23 20 l5)).toInt64) * (31)) + ((entI x 24 20 l5)).toInt64) * (31)) + (1).toInt64) (l5 + 1) x)))
def f_X8_digestStatements  (p : Int64) (x : XS) : Option (Int64 × XS) := (f_X8_digestStatements_L5   30 p 0 x)

set_option maxHeartbeats 4000000 in
set_option maxRecDepth 100000 in
theorem c_X8_digestStatements {g : Gx} {a : Nat → Nat} {x : XS}   {p : Int64} {u : Int64 × XS}  (h : f_X8_digestStatements  p x = some u) : Mx g yX8_digestStatements cX8_digestStatements 6 (some .long) 6 0 0 LF a x [.ref (a 0), .long p] (pr (some (.long u.1)) u.2) := by
  refine Mx_of (by decide +kernel) (Nat.le_of_ble_eq_true rfl) ?_
  intro k hk he hg
  subst hg
  rw [f_X8_digestStatements] at h
  refine xlload_n hk dX8_digestStatements_0 rfl ?_
  refine xlstore_n hk dX8_digestStatements_1 (by decide) ?_
  refine xiconst (v := 0) hk dX8_digestStatements_2 (by decide) ?_
  refine xistore hk dX8_digestStatements_3 (by decide) ?_
  have loop5 : ∀ (n5 : Nat) (l3 : Int64) (l5 : Int32) (x : XS), f_X8_digestStatements_L5   n5 l3 l5 x = some u → Wx k 0 0 LF a x 5 [(0, .ref (a 0)), (3, .long l3), (5, .int l5)] [] := by
    intro n5
    induction n5 with
    | zero => intro l3 l5 x h; rw [f_X8_digestStatements_L5] at h; cases h
    | succ n5 ih5 =>
      intro l3 l5 x h
      rw [f_X8_digestStatements_L5] at h
      refine xiload hk dX8_digestStatements_5 rfl ?_
      refine xaload_n hk dX8_digestStatements_7 rfl ?_
      refine xgetR (ci := 8) (f := 3) hk dX8_digestStatements_8 ⟨rfl, by decide, _, rfl, rfl⟩ kX8_30 ?_
      refine xgetNI (ci := 0) (f := 1) hk dX8_digestStatements_11 ⟨rfl, by decide, _, rfl, rfl⟩ kX8_116 ?_
      refine xicmp_ge hk 102 dX8_digestStatements_14 (by decide) (fun h14 => ?_) (fun h14 => ?_)
      · rw [if_pos h14] at h
        refine xlload_n hk dX8_digestStatements_102 rfl ?_
        refine xlret hk he dX8_digestStatements_103 ⟨by decide, by decide⟩ ?_
        obtain rfl := Option.some.inj h
        exact ⟨rfl, rfl⟩
      · rw [if_neg h14] at h
        refine xlload_n hk dX8_digestStatements_17 rfl ?_
        refine xldc2 hk (31) dX8_digestStatements_18 kX8_223 ?_
        refine xlmul hk dX8_digestStatements_21 ?_
        refine xaload_n hk dX8_digestStatements_22 rfl ?_
        refine xgetR (ci := 8) (f := 3) hk dX8_digestStatements_23 ⟨rfl, by decide, _, rfl, rfl⟩ kX8_30 ?_
        refine xiload hk dX8_digestStatements_26 rfl ?_
        refine xcallV hk c_X0_kind bX0_kind kX8_140 dX8_digestStatements_28 rfl ⟨_, _, _, _, rfl, rfl⟩ rfl (by first | decide | omega) ⟨by decide, by decide⟩ (Nat.le_of_ble_eq_true rfl) (det ?_)
        refine xi2l hk dX8_digestStatements_31 ?_
        refine xladd hk dX8_digestStatements_32 ?_
        refine xlstore_n hk dX8_digestStatements_33 (by decide) ?_
        refine xlload_n hk dX8_digestStatements_34 rfl ?_
        refine xldc2 hk (31) dX8_digestStatements_35 kX8_223 ?_
        refine xlmul hk dX8_digestStatements_38 ?_
        refine xaload_n hk dX8_digestStatements_39 rfl ?_
        refine xgetR (ci := 8) (f := 3) hk dX8_digestStatements_40 ⟨rfl, by decide, _, rfl, rfl⟩ kX8_30 ?_
        refine xiload hk dX8_digestStatements_43 rfl ?_
        refine xcallV hk c_X0_first bX0_first kX8_143 dX8_digestStatements_45 rfl ⟨_, _, _, _, rfl, rfl⟩ rfl (by first | decide | omega) ⟨by decide, by decide⟩ (Nat.le_of_ble_eq_true rfl) (det ?_)
        refine xi2l hk dX8_digestStatements_48 ?_
        refine xladd hk dX8_digestStatements_49 ?_
        refine xlstore_n hk dX8_digestStatements_50 (by decide) ?_
        refine xlload_n hk dX8_digestStatements_51 rfl ?_
        refine xldc2 hk (31) dX8_digestStatements_52 kX8_223 ?_
        refine xlmul hk dX8_digestStatements_55 ?_
        refine xaload_n hk dX8_digestStatements_56 rfl ?_
        refine xgetR (ci := 8) (f := 3) hk dX8_digestStatements_57 ⟨rfl, by decide, _, rfl, rfl⟩ kX8_30 ?_
        refine xiload hk dX8_digestStatements_60 rfl ?_
        refine xcallV hk c_X0_second bX0_second kX8_146 dX8_digestStatements_62 rfl ⟨_, _, _, _, rfl, rfl⟩ rfl (by first | decide | omega) ⟨by decide, by decide⟩ (Nat.le_of_ble_eq_true rfl) (det ?_)
        refine xi2l hk dX8_digestStatements_65 ?_
        refine xladd hk dX8_digestStatements_66 ?_
        refine xlstore_n hk dX8_digestStatements_67 (by decide) ?_
        refine xlload_n hk dX8_digestStatements_68 rfl ?_
        refine xldc2 hk (31) dX8_digestStatements_69 kX8_223 ?_
        refine xlmul hk dX8_digestStatements_72 ?_
        refine xaload_n hk dX8_digestStatements_73 rfl ?_
        refine xgetR (ci := 8) (f := 8) hk dX8_digestStatements_74 ⟨rfl, by decide, _, rfl, rfl⟩ kX8_70 ?_
        refine xgetNI (ci := 1) (f := 1) hk dX8_digestStatements_77 ⟨rfl, by decide, _, rfl, rfl⟩ kX8_128 ?_
        refine xiload hk dX8_digestStatements_80 rfl ?_
        refine xcallS hk c_X8_has bX8_has kX8_149 dX8_digestStatements_82 rfl rfl (by first | decide | omega) ⟨by decide, by decide⟩ (Nat.le_of_ble_eq_true rfl) (det ?_)
        refine xif_eq hk 92 dX8_digestStatements_85 (by decide) (fun h85 => ?_) (fun h85 => ?_)
        · rw [if_pos h85] at h
          refine xiconst (v := 0) hk dX8_digestStatements_92 (by decide) ?_
          refine xi2l hk dX8_digestStatements_93 ?_
          refine xladd hk dX8_digestStatements_94 ?_
          refine xlstore_n hk dX8_digestStatements_95 (by decide) ?_
          refine xiinc (v := (l5 + 1)) hk dX8_digestStatements_96 rfl (by decide) rfl ?_
          refine xgoto hk 5 dX8_digestStatements_99 (by decide) ?_
          refine xsub [(0, .ref (a 0)), (3, .long ((((((((l3 * (31)) + ((entI x 22 20 l5)).toInt64) * (31)) + ((entI x 23 20 l5)).toInt64) * (31)) + ((entI x 24 20 l5)).toInt64) * (31)) + (0).toInt64)), (5, .int (l5 + 1))] rfl ?_
          exact ih5 _ _ _ h
        · rw [if_neg h85] at h
          refine xiconst (v := 1) hk dX8_digestStatements_88 (by decide) ?_
          refine xgoto hk 93 dX8_digestStatements_89 (by decide) ?_
          refine xi2l hk dX8_digestStatements_93 ?_
          refine xladd hk dX8_digestStatements_94 ?_
          refine xlstore_n hk dX8_digestStatements_95 (by decide) ?_
          refine xiinc (v := (l5 + 1)) hk dX8_digestStatements_96 rfl (by decide) rfl ?_
          refine xgoto hk 5 dX8_digestStatements_99 (by decide) ?_
          refine xsub [(0, .ref (a 0)), (3, .long ((((((((l3 * (31)) + ((entI x 22 20 l5)).toInt64) * (31)) + ((entI x 23 20 l5)).toInt64) * (31)) + ((entI x 24 20 l5)).toInt64) * (31)) + (1).toInt64)), (5, .int (l5 + 1))] rfl ?_
          exact ih5 _ _ _ h
  refine xsub [(0, .ref (a 0)), (3, .long p), (5, .int 0)] rfl ?_
  exact loop5 _ _ _ _ h

def f_X8_digestClaims_L5   : Nat → Int64 → Int32 → XS → Option (Int64 × XS)
  | 0, _, _, _ => none
  | n + 1, l3, l5, x => (if (2 * (x.1 21 0)) ≤ l5 then some (l3, x) else (f_X8_digestClaims_L5   n ((((((l3 * (31)) + ((bcI (reachF x (x.1 46 1) l5))).toInt64) * (31)) + ((lowI (togetherF (webLook ((webLook (x.1 46 1) x).1 46 1) (webLook (x.1 46 1) x)) l5))).toInt64) * (31)) + ((countWithF (webLook ((webLook (x.1 46 1) x).1 46 1) (webLook (x.1 46 1) x)) ((webLook ((webLook (x.1 46 1) x).1 46 1) (webLook (x.1 46 1) x)).1 46 1) l5)).toInt64) (l5 + 1) (landLook ((webLook ((webLook (x.1 46 1) x).1 46 1) (webLook (x.1 46 1) x)).1 46 1) (webLook ((webLook (x.1 46 1) x).1 46 1) (webLook (x.1 46 1) x)))))
def f_X8_digestClaims  (p : Int64) (x : XS) : Option (Int64 × XS) := (f_X8_digestClaims_L5   30 p 0 x)

set_option maxHeartbeats 4000000 in
set_option maxRecDepth 100000 in
theorem c_X8_digestClaims {g : Gx} {a : Nat → Nat} {x : XS}   {p : Int64} {u : Int64 × XS}  (h : f_X8_digestClaims  p x = some u) : Mx g yX8_digestClaims cX8_digestClaims 6 (some .long) 6 0 0 LF a x [.ref (a 0), .long p] (pr (some (.long u.1)) u.2) := by
  refine Mx_of (by decide +kernel) (Nat.le_of_ble_eq_true rfl) ?_
  intro k hk he hg
  subst hg
  rw [f_X8_digestClaims] at h
  refine xlload_n hk dX8_digestClaims_0 rfl ?_
  refine xlstore_n hk dX8_digestClaims_1 (by decide) ?_
  refine xiconst (v := 0) hk dX8_digestClaims_2 (by decide) ?_
  refine xistore hk dX8_digestClaims_3 (by decide) ?_
  have loop5 : ∀ (n5 : Nat) (l3 : Int64) (l5 : Int32) (x : XS), f_X8_digestClaims_L5   n5 l3 l5 x = some u → Wx k 0 0 LF a x 5 [(0, .ref (a 0)), (3, .long l3), (5, .int l5)] [] := by
    intro n5
    induction n5 with
    | zero => intro l3 l5 x h; rw [f_X8_digestClaims_L5] at h; cases h
    | succ n5 ih5 =>
      intro l3 l5 x h
      rw [f_X8_digestClaims_L5] at h
      refine xiload hk dX8_digestClaims_5 rfl ?_
      refine xiconst (v := 2) hk dX8_digestClaims_7 (by decide) ?_
      refine xaload_n hk dX8_digestClaims_8 rfl ?_
      refine xgetR (ci := 8) (f := 3) hk dX8_digestClaims_9 ⟨rfl, by decide, _, rfl, rfl⟩ kX8_30 ?_
      refine xgetNI (ci := 0) (f := 0) hk dX8_digestClaims_12 ⟨rfl, by decide, _, rfl, rfl⟩ kX8_113 ?_
      refine ximul hk dX8_digestClaims_15 ?_
      refine xicmp_ge hk 103 dX8_digestClaims_16 (by decide) (fun h16 => ?_) (fun h16 => ?_)
      · rw [if_pos h16] at h
        refine xlload_n hk dX8_digestClaims_103 rfl ?_
        refine xlret hk he dX8_digestClaims_104 ⟨by decide, by decide⟩ ?_
        obtain rfl := Option.some.inj h
        exact ⟨rfl, rfl⟩
      · rw [if_neg h16] at h
        refine xlload_n hk dX8_digestClaims_19 rfl ?_
        refine xldc2 hk (31) dX8_digestClaims_20 kX8_223 ?_
        refine xlmul hk dX8_digestClaims_23 ?_
        refine xaload_n hk dX8_digestClaims_24 rfl ?_
        refine xgetR (ci := 8) (f := 5) hk dX8_digestClaims_25 ⟨rfl, by decide, _, rfl, rfl⟩ kX8_47 ?_
        refine xaload_n hk dX8_digestClaims_28 rfl ?_
        refine xgetR (ci := 8) (f := 8) hk dX8_digestClaims_29 ⟨rfl, by decide, _, rfl, rfl⟩ kX8_70 ?_
        refine xgetNI (ci := 1) (f := 1) hk dX8_digestClaims_32 ⟨rfl, by decide, _, rfl, rfl⟩ kX8_128 ?_
        refine xiload hk dX8_digestClaims_35 rfl ?_
        refine xcallV hk c_X7_reach bX7_reach kX8_166 dX8_digestClaims_37 rfl ⟨_, _, _, _, rfl, rfl⟩ rfl (by first | decide | omega) ⟨by decide, by decide⟩ (Nat.le_of_ble_eq_true rfl) (det ?_)
        refine xcallS hk c_J6_bitCount_0f7a4 bJ6_bitCount_0f7a4 kX8_131 dX8_digestClaims_40 rfl rfl (by first | decide | omega) ⟨by decide, by decide⟩ (Nat.le_of_ble_eq_true rfl) (det ?_)
        refine xi2l hk dX8_digestClaims_43 ?_
        refine xladd hk dX8_digestClaims_44 ?_
        refine xlstore_n hk dX8_digestClaims_45 (by decide) ?_
        refine xlload_n hk dX8_digestClaims_46 rfl ?_
        refine xldc2 hk (31) dX8_digestClaims_47 kX8_223 ?_
        refine xlmul hk dX8_digestClaims_50 ?_
        refine xaload_n hk dX8_digestClaims_51 rfl ?_
        refine xgetR (ci := 8) (f := 5) hk dX8_digestClaims_52 ⟨rfl, by decide, _, rfl, rfl⟩ kX8_47 ?_
        refine xaload_n hk dX8_digestClaims_55 rfl ?_
        refine xgetR (ci := 8) (f := 8) hk dX8_digestClaims_56 ⟨rfl, by decide, _, rfl, rfl⟩ kX8_70 ?_
        refine xgetNI (ci := 1) (f := 1) hk dX8_digestClaims_59 ⟨rfl, by decide, _, rfl, rfl⟩ kX8_128 ?_
        refine xiload hk dX8_digestClaims_62 rfl ?_
        refine xcallV hk c_X7_part bX7_part kX8_178 dX8_digestClaims_64 rfl ⟨_, _, _, _, rfl, rfl⟩ rfl (by first | decide | omega) ⟨by decide, by decide⟩ (Nat.le_of_ble_eq_true rfl) (det ?_)
        refine xcallS hk c_X8_lowest bX8_lowest kX8_181 dX8_digestClaims_67 rfl rfl (by first | decide | omega) ⟨by decide, by decide⟩ (Nat.le_of_ble_eq_true rfl) (det ?_)
        refine xi2l hk dX8_digestClaims_70 ?_
        refine xladd hk dX8_digestClaims_71 ?_
        refine xlstore_n hk dX8_digestClaims_72 (by decide) ?_
        refine xlload_n hk dX8_digestClaims_73 rfl ?_
        refine xldc2 hk (31) dX8_digestClaims_74 kX8_223 ?_
        refine xlmul hk dX8_digestClaims_77 ?_
        refine xaload_n hk dX8_digestClaims_78 rfl ?_
        refine xgetR (ci := 8) (f := 6) hk dX8_digestClaims_79 ⟨rfl, by decide, _, rfl, rfl⟩ kX8_54 ?_
        refine xaload_n hk dX8_digestClaims_82 rfl ?_
        refine xgetR (ci := 8) (f := 8) hk dX8_digestClaims_83 ⟨rfl, by decide, _, rfl, rfl⟩ kX8_70 ?_
        refine xgetNI (ci := 1) (f := 1) hk dX8_digestClaims_86 ⟨rfl, by decide, _, rfl, rfl⟩ kX8_128 ?_
        refine xiload hk dX8_digestClaims_89 rfl ?_
        refine xcallV hk c_X3_countWith bX3_countWith kX8_184 dX8_digestClaims_91 rfl ⟨_, _, _, _, rfl, rfl⟩ rfl (by first | decide | omega) ⟨by decide, by decide⟩ (Nat.le_of_ble_eq_true rfl) (det ?_)
        refine xi2l hk dX8_digestClaims_94 ?_
        refine xladd hk dX8_digestClaims_95 ?_
        refine xlstore_n hk dX8_digestClaims_96 (by decide) ?_
        refine xiinc (v := (l5 + 1)) hk dX8_digestClaims_97 rfl (by decide) rfl ?_
        refine xgoto hk 5 dX8_digestClaims_100 (by decide) ?_
        refine xsub [(0, .ref (a 0)), (3, .long ((((((l3 * (31)) + ((bcI (reachF x (x.1 46 1) l5))).toInt64) * (31)) + ((lowI (togetherF (webLook ((webLook (x.1 46 1) x).1 46 1) (webLook (x.1 46 1) x)) l5))).toInt64) * (31)) + ((countWithF (webLook ((webLook (x.1 46 1) x).1 46 1) (webLook (x.1 46 1) x)) ((webLook ((webLook (x.1 46 1) x).1 46 1) (webLook (x.1 46 1) x)).1 46 1) l5)).toInt64)), (5, .int (l5 + 1))] rfl ?_
        exact ih5 _ _ _ h
  refine xsub [(0, .ref (a 0)), (3, .long p), (5, .int 0)] rfl ?_
  exact loop5 _ _ _ _ h

def f_X8_digestPeace_L40   : Nat → Int64 → Int32 → Int32 → XS → Option (Int64 × XS)
  | 0, _, _, _, _ => none
  | n + 1, l3, l5, l6, x => (if (x.1 21 0) ≤ l6 then some (l3, x) else (if (b2i (hasB l5 l6)) = 0 then (f_X8_digestPeace_L40   n ((l3 * (31)) + (0).toInt64) l5 (l6 + 1) x) else (f_X8_digestPeace_L40   n ((l3 * (31)) + (1).toInt64) l5 (l6 + 1) x)))
def f_X8_digestPeace  (p : Int64) (x : XS) : Option (Int64 × XS) := (if (countF x (x.1 46 1)) = 0 then some (p, (landLook (x.1 46 1) x)) else (f_X8_digestPeace_L40   30 p (ridersU (landLook (x.1 46 1) x) ((landLook (x.1 46 1) x).1 46 1)).1 0 (ridersU (landLook (x.1 46 1) x) ((landLook (x.1 46 1) x).1 46 1)).2))

set_option maxHeartbeats 4000000 in
set_option maxRecDepth 100000 in
theorem c_X8_digestPeace {g : Gx} {a : Nat → Nat} {x : XS}   {p : Int64} {u : Int64 × XS}  (h : f_X8_digestPeace  p x = some u) : Mx g yX8_digestPeace cX8_digestPeace 7 (some .long) 6 0 0 LF a x [.ref (a 0), .long p] (pr (some (.long u.1)) u.2) := by
  refine Mx_of (by decide +kernel) (Nat.le_of_ble_eq_true rfl) ?_
  intro k hk he hg
  subst hg
  rw [f_X8_digestPeace] at h
  refine xlload_n hk dX8_digestPeace_0 rfl ?_
  refine xlstore_n hk dX8_digestPeace_1 (by decide) ?_
  refine xaload_n hk dX8_digestPeace_2 rfl ?_
  refine xgetR (ci := 8) (f := 6) hk dX8_digestPeace_3 ⟨rfl, by decide, _, rfl, rfl⟩ kX8_54 ?_
  refine xaload_n hk dX8_digestPeace_6 rfl ?_
  refine xgetR (ci := 8) (f := 8) hk dX8_digestPeace_7 ⟨rfl, by decide, _, rfl, rfl⟩ kX8_70 ?_
  refine xgetNI (ci := 1) (f := 1) hk dX8_digestPeace_10 ⟨rfl, by decide, _, rfl, rfl⟩ kX8_128 ?_
  refine xcallV hk c_X3_count bX3_count kX8_156 dX8_digestPeace_13 rfl ⟨_, _, _, _, rfl, rfl⟩ rfl (by first | decide | omega) ⟨by decide, by decide⟩ (Nat.le_of_ble_eq_true rfl) (det ?_)
  refine xif_ne hk 21 dX8_digestPeace_16 (by decide) (fun h16 => ?_) (fun h16 => ?_)
  · rw [if_neg h16] at h
    refine xaload_n hk dX8_digestPeace_21 rfl ?_
    refine xgetR (ci := 8) (f := 6) hk dX8_digestPeace_22 ⟨rfl, by decide, _, rfl, rfl⟩ kX8_54 ?_
    refine xaload_n hk dX8_digestPeace_25 rfl ?_
    refine xgetR (ci := 8) (f := 8) hk dX8_digestPeace_26 ⟨rfl, by decide, _, rfl, rfl⟩ kX8_70 ?_
    refine xgetNI (ci := 1) (f := 1) hk dX8_digestPeace_29 ⟨rfl, by decide, _, rfl, rfl⟩ kX8_128 ?_
    refine xcallV hk c_X3_riders bX3_riders kX8_195 dX8_digestPeace_32 rfl ⟨_, _, _, _, rfl, rfl⟩ rfl (by first | decide | omega) ⟨by decide, by decide⟩ (Nat.le_of_ble_eq_true rfl) (det ?_)
    refine xistore hk dX8_digestPeace_35 (by decide) ?_
    refine xiconst (v := 0) hk dX8_digestPeace_37 (by decide) ?_
    refine xistore hk dX8_digestPeace_38 (by decide) ?_
    have loop40 : ∀ (n40 : Nat) (l3 : Int64) (l5 : Int32) (l6 : Int32) (x : XS), f_X8_digestPeace_L40   n40 l3 l5 l6 x = some u → Wx k 0 0 LF a x 40 [(0, .ref (a 0)), (3, .long l3), (5, .int l5), (6, .int l6)] [] := by
      intro n40
      induction n40 with
      | zero => intro l3 l5 l6 x h; rw [f_X8_digestPeace_L40] at h; cases h
      | succ n40 ih40 =>
        intro l3 l5 l6 x h
        rw [f_X8_digestPeace_L40] at h
        refine xiload hk dX8_digestPeace_40 rfl ?_
        refine xaload_n hk dX8_digestPeace_42 rfl ?_
        refine xgetR (ci := 8) (f := 3) hk dX8_digestPeace_43 ⟨rfl, by decide, _, rfl, rfl⟩ kX8_30 ?_
        refine xgetNI (ci := 0) (f := 0) hk dX8_digestPeace_46 ⟨rfl, by decide, _, rfl, rfl⟩ kX8_113 ?_
        refine xicmp_ge hk 81 dX8_digestPeace_49 (by decide) (fun h49 => ?_) (fun h49 => ?_)
        · rw [if_pos h49] at h
          refine xlload_n hk dX8_digestPeace_81 rfl ?_
          refine xlret hk he dX8_digestPeace_82 ⟨by decide, by decide⟩ ?_
          obtain rfl := Option.some.inj h
          exact ⟨rfl, rfl⟩
        · rw [if_neg h49] at h
          refine xlload_n hk dX8_digestPeace_52 rfl ?_
          refine xldc2 hk (31) dX8_digestPeace_53 kX8_223 ?_
          refine xlmul hk dX8_digestPeace_56 ?_
          refine xiload hk dX8_digestPeace_57 rfl ?_
          refine xiload hk dX8_digestPeace_59 rfl ?_
          refine xcallS hk c_X8_has bX8_has kX8_149 dX8_digestPeace_61 rfl rfl (by first | decide | omega) ⟨by decide, by decide⟩ (Nat.le_of_ble_eq_true rfl) (det ?_)
          refine xif_eq hk 71 dX8_digestPeace_64 (by decide) (fun h64 => ?_) (fun h64 => ?_)
          · rw [if_pos h64] at h
            refine xiconst (v := 0) hk dX8_digestPeace_71 (by decide) ?_
            refine xi2l hk dX8_digestPeace_72 ?_
            refine xladd hk dX8_digestPeace_73 ?_
            refine xlstore_n hk dX8_digestPeace_74 (by decide) ?_
            refine xiinc (v := (l6 + 1)) hk dX8_digestPeace_75 rfl (by decide) rfl ?_
            refine xgoto hk 40 dX8_digestPeace_78 (by decide) ?_
            refine xsub [(0, .ref (a 0)), (3, .long ((l3 * (31)) + (0).toInt64)), (5, .int l5), (6, .int (l6 + 1))] rfl ?_
            exact ih40 _ _ _ _ h
          · rw [if_neg h64] at h
            refine xiconst (v := 1) hk dX8_digestPeace_67 (by decide) ?_
            refine xgoto hk 72 dX8_digestPeace_68 (by decide) ?_
            refine xi2l hk dX8_digestPeace_72 ?_
            refine xladd hk dX8_digestPeace_73 ?_
            refine xlstore_n hk dX8_digestPeace_74 (by decide) ?_
            refine xiinc (v := (l6 + 1)) hk dX8_digestPeace_75 rfl (by decide) rfl ?_
            refine xgoto hk 40 dX8_digestPeace_78 (by decide) ?_
            refine xsub [(0, .ref (a 0)), (3, .long ((l3 * (31)) + (1).toInt64)), (5, .int l5), (6, .int (l6 + 1))] rfl ?_
            exact ih40 _ _ _ _ h
    refine xsub [(0, .ref (a 0)), (3, .long p), (5, .int (ridersU (landLook (x.1 46 1) x) ((landLook (x.1 46 1) x).1 46 1)).1), (6, .int 0)] rfl ?_
    exact loop40 _ _ _ _ _ h
  · rw [if_pos h16] at h
    refine xlload_n hk dX8_digestPeace_19 rfl ?_
    refine xlret hk he dX8_digestPeace_20 ⟨by decide, by decide⟩ ?_
    obtain rfl := Option.some.inj h
    exact ⟨rfl, rfl⟩

def f_X8_digest   (x : XS) : Option (Int64 × XS) := ob (f_X8_digestStatements (((((((((((((((((((947) * (31)) + ((x.1 21 0)).toInt64) * (31)) + ((x.1 21 1)).toInt64) * (31)) + ((x.1 21 7)).toInt64) * (31)) + ((x.1 46 0)).toInt64) * (31)) + ((x.1 46 2)).toInt64) * (31)) + ((x.1 1 1)).toInt64) * (31)) + ((bcI (x.1 46 1))).toInt64) * (31)) + (((webLook (x.1 46 1) x).1 37 4)).toInt64) * (31)) + ((countF (webLook (x.1 46 1) x) ((webLook (x.1 46 1) x).1 46 1))).toInt64) (landLook ((webLook (x.1 46 1) x).1 46 1) (webLook (x.1 46 1) x))) (fun u158 => ob (f_X8_digestClaims u158.1 u158.2) (fun u164 => ob (f_X8_digestPeace u164.1 u164.2) (fun u170 => some (u170.1, u170.2))))

set_option maxHeartbeats 4000000 in
set_option maxRecDepth 100000 in
theorem c_X8_digest {g : Gx} {a : Nat → Nat} {x : XS}    {u : Int64 × XS}  (h : f_X8_digest   x = some u) : Mx g yX8_digest cX8_digest 3 (some .long) 9 0 0 LF a x [.ref (a 0)] (pr (some (.long u.1)) u.2) := by
  refine Mx_of (by decide +kernel) (Nat.le_of_ble_eq_true rfl) ?_
  intro k hk he hg
  subst hg
  rw [f_X8_digest] at h
  refine xldc2 hk (947) dX8_digest_0 kX8_221 ?_
  refine xlstore_n hk dX8_digest_3 (by decide) ?_
  refine xlload_n hk dX8_digest_4 rfl ?_
  refine xldc2 hk (31) dX8_digest_5 kX8_223 ?_
  refine xlmul hk dX8_digest_8 ?_
  refine xaload_n hk dX8_digest_9 rfl ?_
  refine xgetR (ci := 8) (f := 3) hk dX8_digest_10 ⟨rfl, by decide, _, rfl, rfl⟩ kX8_30 ?_
  refine xgetNI (ci := 0) (f := 0) hk dX8_digest_13 ⟨rfl, by decide, _, rfl, rfl⟩ kX8_113 ?_
  refine xi2l hk dX8_digest_16 ?_
  refine xladd hk dX8_digest_17 ?_
  refine xlstore_n hk dX8_digest_18 (by decide) ?_
  refine xlload_n hk dX8_digest_19 rfl ?_
  refine xldc2 hk (31) dX8_digest_20 kX8_223 ?_
  refine xlmul hk dX8_digest_23 ?_
  refine xaload_n hk dX8_digest_24 rfl ?_
  refine xgetR (ci := 8) (f := 3) hk dX8_digest_25 ⟨rfl, by decide, _, rfl, rfl⟩ kX8_30 ?_
  refine xgetNI (ci := 0) (f := 1) hk dX8_digest_28 ⟨rfl, by decide, _, rfl, rfl⟩ kX8_116 ?_
  refine xi2l hk dX8_digest_31 ?_
  refine xladd hk dX8_digest_32 ?_
  refine xlstore_n hk dX8_digest_33 (by decide) ?_
  refine xlload_n hk dX8_digest_34 rfl ?_
  refine xldc2 hk (31) dX8_digest_35 kX8_223 ?_
  refine xlmul hk dX8_digest_38 ?_
  refine xaload_n hk dX8_digest_39 rfl ?_
  refine xgetR (ci := 8) (f := 3) hk dX8_digest_40 ⟨rfl, by decide, _, rfl, rfl⟩ kX8_30 ?_
  refine xgetNI (ci := 0) (f := 7) hk dX8_digest_43 ⟨rfl, by decide, _, rfl, rfl⟩ kX8_119 ?_
  refine xi2l hk dX8_digest_46 ?_
  refine xladd hk dX8_digest_47 ?_
  refine xlstore_n hk dX8_digest_48 (by decide) ?_
  refine xlload_n hk dX8_digest_49 rfl ?_
  refine xldc2 hk (31) dX8_digest_50 kX8_223 ?_
  refine xlmul hk dX8_digest_53 ?_
  refine xaload_n hk dX8_digest_54 rfl ?_
  refine xgetR (ci := 8) (f := 8) hk dX8_digest_55 ⟨rfl, by decide, _, rfl, rfl⟩ kX8_70 ?_
  refine xgetNI (ci := 1) (f := 0) hk dX8_digest_58 ⟨rfl, by decide, _, rfl, rfl⟩ kX8_122 ?_
  refine xi2l hk dX8_digest_61 ?_
  refine xladd hk dX8_digest_62 ?_
  refine xlstore_n hk dX8_digest_63 (by decide) ?_
  refine xlload_n hk dX8_digest_64 rfl ?_
  refine xldc2 hk (31) dX8_digest_65 kX8_223 ?_
  refine xlmul hk dX8_digest_68 ?_
  refine xaload_n hk dX8_digest_69 rfl ?_
  refine xgetR (ci := 8) (f := 8) hk dX8_digest_70 ⟨rfl, by decide, _, rfl, rfl⟩ kX8_70 ?_
  refine xgetNI (ci := 1) (f := 2) hk dX8_digest_73 ⟨rfl, by decide, _, rfl, rfl⟩ kX8_125 ?_
  refine xi2l hk dX8_digest_76 ?_
  refine xladd hk dX8_digest_77 ?_
  refine xlstore_n hk dX8_digest_78 (by decide) ?_
  refine xlload_n hk dX8_digest_79 rfl ?_
  refine xldc2 hk (31) dX8_digest_80 kX8_223 ?_
  refine xlmul hk dX8_digest_83 ?_
  refine xaload_n hk dX8_digest_84 rfl ?_
  refine xgetR (ci := 8) (f := 0) hk dX8_digest_85 ⟨rfl, by decide, _, rfl, rfl⟩ kX8_12 ?_
  refine xgetNI (ci := 5) (f := 1) hk dX8_digest_88 ⟨rfl, by decide, _, rfl, rfl⟩ kX8_81 ?_
  refine xi2l hk dX8_digest_91 ?_
  refine xladd hk dX8_digest_92 ?_
  refine xlstore_n hk dX8_digest_93 (by decide) ?_
  refine xlload_n hk dX8_digest_94 rfl ?_
  refine xldc2 hk (31) dX8_digest_95 kX8_223 ?_
  refine xlmul hk dX8_digest_98 ?_
  refine xaload_n hk dX8_digest_99 rfl ?_
  refine xgetR (ci := 8) (f := 8) hk dX8_digest_100 ⟨rfl, by decide, _, rfl, rfl⟩ kX8_70 ?_
  refine xgetNI (ci := 1) (f := 1) hk dX8_digest_103 ⟨rfl, by decide, _, rfl, rfl⟩ kX8_128 ?_
  refine xcallS hk c_J6_bitCount_0f7a4 bJ6_bitCount_0f7a4 kX8_131 dX8_digest_106 rfl rfl (by first | decide | omega) ⟨by decide, by decide⟩ (Nat.le_of_ble_eq_true rfl) (det ?_)
  refine xi2l hk dX8_digest_109 ?_
  refine xladd hk dX8_digest_110 ?_
  refine xlstore_n hk dX8_digest_111 (by decide) ?_
  refine xlload_n hk dX8_digest_112 rfl ?_
  refine xldc2 hk (31) dX8_digest_113 kX8_223 ?_
  refine xlmul hk dX8_digest_116 ?_
  refine xaload_n hk dX8_digest_117 rfl ?_
  refine xgetR (ci := 8) (f := 5) hk dX8_digest_118 ⟨rfl, by decide, _, rfl, rfl⟩ kX8_47 ?_
  refine xaload_n hk dX8_digest_121 rfl ?_
  refine xgetR (ci := 8) (f := 8) hk dX8_digest_122 ⟨rfl, by decide, _, rfl, rfl⟩ kX8_70 ?_
  refine xgetNI (ci := 1) (f := 1) hk dX8_digest_125 ⟨rfl, by decide, _, rfl, rfl⟩ kX8_128 ?_
  refine xcallV hk c_X7_countParts bX7_countParts kX8_175 dX8_digest_128 rfl ⟨_, _, _, _, rfl, rfl⟩ rfl (by first | decide | omega) ⟨by decide, by decide⟩ (Nat.le_of_ble_eq_true rfl) (det ?_)
  refine xi2l hk dX8_digest_131 ?_
  refine xladd hk dX8_digest_132 ?_
  refine xlstore_n hk dX8_digest_133 (by decide) ?_
  refine xlload_n hk dX8_digest_134 rfl ?_
  refine xldc2 hk (31) dX8_digest_135 kX8_223 ?_
  refine xlmul hk dX8_digest_138 ?_
  refine xaload_n hk dX8_digest_139 rfl ?_
  refine xgetR (ci := 8) (f := 6) hk dX8_digest_140 ⟨rfl, by decide, _, rfl, rfl⟩ kX8_54 ?_
  refine xaload_n hk dX8_digest_143 rfl ?_
  refine xgetR (ci := 8) (f := 8) hk dX8_digest_144 ⟨rfl, by decide, _, rfl, rfl⟩ kX8_70 ?_
  refine xgetNI (ci := 1) (f := 1) hk dX8_digest_147 ⟨rfl, by decide, _, rfl, rfl⟩ kX8_128 ?_
  refine xcallV hk c_X3_count bX3_count kX8_156 dX8_digest_150 rfl ⟨_, _, _, _, rfl, rfl⟩ rfl (by first | decide | omega) ⟨by decide, by decide⟩ (Nat.le_of_ble_eq_true rfl) (det ?_)
  refine xi2l hk dX8_digest_153 ?_
  refine xladd hk dX8_digest_154 ?_
  refine xlstore_n hk dX8_digest_155 (by decide) ?_
  refine xaload_n hk dX8_digest_156 rfl ?_
  refine xlload_n hk dX8_digest_157 rfl ?_
  obtain ⟨u158, e158, h⟩ := ob_some h
  refine xcallV hk (c_X8_digestStatements e158) bX8_digestStatements kX8_225 dX8_digest_158 rfl ⟨_, _, _, _, rfl, rfl⟩ rfl (by first | decide | omega) ⟨by decide, by decide⟩ (Nat.le_of_ble_eq_true rfl) (det ?_)
  refine xlstore_n hk dX8_digest_161 (by decide) ?_
  refine xaload_n hk dX8_digest_162 rfl ?_
  refine xlload_n hk dX8_digest_163 rfl ?_
  obtain ⟨u164, e164, h⟩ := ob_some h
  refine xcallV hk (c_X8_digestClaims e164) bX8_digestClaims kX8_229 dX8_digest_164 rfl ⟨_, _, _, _, rfl, rfl⟩ rfl (by first | decide | omega) ⟨by decide, by decide⟩ (Nat.le_of_ble_eq_true rfl) (det ?_)
  refine xlstore_n hk dX8_digest_167 (by decide) ?_
  refine xaload_n hk dX8_digest_168 rfl ?_
  refine xlload_n hk dX8_digest_169 rfl ?_
  obtain ⟨u170, e170, h⟩ := ob_some h
  refine xcallV hk (c_X8_digestPeace e170) bX8_digestPeace kX8_232 dX8_digest_170 rfl ⟨_, _, _, _, rfl, rfl⟩ rfl (by first | decide | omega) ⟨by decide, by decide⟩ (Nat.le_of_ble_eq_true rfl) (det ?_)
  refine xlret hk he dX8_digest_173 ⟨by decide, by decide⟩ ?_
  obtain rfl := Option.some.inj h
  exact ⟨rfl, rfl⟩

