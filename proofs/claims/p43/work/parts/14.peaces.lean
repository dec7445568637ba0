theorem kJ6_265 : Cond.constant RJ6 265 (1431655765) ∈ GW := gw_mem 389 (by decide +kernel) (by decide +kernel)
theorem kJ6_266 : Cond.constant RJ6 266 (858993459) ∈ GW := gw_mem 390 (by decide +kernel) (by decide +kernel)
theorem kJ6_267 : Cond.constant RJ6 267 (252645135) ∈ GW := gw_mem 391 (by decide +kernel) (by decide +kernel)
theorem kJ13_314 : Cond.constantLong RJ13 314 (6148914691236517205) ∈ GW := gw_mem 542 (by decide +kernel) (by decide +kernel)
theorem kJ13_316 : Cond.constantLong RJ13 316 (3689348814741910323) ∈ GW := gw_mem 543 (by decide +kernel) (by decide +kernel)
theorem kJ13_318 : Cond.constantLong RJ13 318 (1085102592571150095) ∈ GW := gw_mem 544 (by decide +kernel) (by decide +kernel)
theorem kX3_87 : Cond.methodLinkNest RX3 87 yX8_has "FeudBook" ∈ NW := nw_mem 534 (by decide +kernel) rfl
theorem kX3_94 : Cond.constantLong RX3 94 (-1) ∈ GW := gw_mem 533 (by decide +kernel) (by decide +kernel)
theorem kX3_96 : Cond.fieldLink RX3 96 "FeudBook$Peaces" "RIDES_IN_WORD" "[J" ∈ GW := gw_mem 652 (by decide +kernel) (by decide +kernel)
theorem kX3_18 : Cond.fieldLink RX3 18 "FeudBook$Peaces" "rows" "[J" ∈ GW := gw_mem 270 (by decide +kernel) (by decide +kernel)
theorem kX3_28 : Cond.fieldLink RX3 28 "FeudBook$Peaces" "book" "LFeudBook$Book;" ∈ GW := gw_mem 267 (by decide +kernel) (by decide +kernel)
theorem kX3_32 : Cond.fieldLinkNest RX3 32 "FeudBook$Book" "families" "I" "FeudBook" ∈ NW := nw_mem 148 (by decide +kernel) rfl
def bc1 (v : Int32) : Int32 := v - (ushrI v 1 &&& 1431655765)
def bc2 (v : Int32) : Int32 := (v &&& 858993459) + (ushrI v 2 &&& 858993459)
def bc3 (v : Int32) : Int32 := (v + ushrI v 4) &&& 252645135
def bc4 (v : Int32) : Int32 := v + ushrI v 8
def bc5 (v : Int32) : Int32 := v + ushrI v 16
def bcI (v : Int32) : Int32 := bc5 (bc4 (bc3 (bc2 (bc1 v)))) &&& 63
def bl1 (v : Int64) : Int64 := v - (ushrL v 1 &&& 6148914691236517205)
def bl2 (v : Int64) : Int64 := (v &&& 3689348814741910323) + (ushrL v 2 &&& 3689348814741910323)
def bl3 (v : Int64) : Int64 := (v + ushrL v 4) &&& 1085102592571150095
def bl4 (v : Int64) : Int64 := v + ushrL v 8
def bl5 (v : Int64) : Int64 := v + ushrL v 16
def bl6 (v : Int64) : Int64 := v + ushrL v 32
def bcL (v : Int64) : Int32 := (bl6 (bl5 (bl4 (bl3 (bl2 (bl1 v)))))).toInt32 &&& 127
def ridesL (j : Nat) : Int64 := ([-6148914691236517206, -3689348814741910324, -1085102592571150096, -71777214294589696, -281470681808896, -4294967296] : List Int64).getD j 0
/-- the numbers of a word in which a claim holds -/
def holdsL (cl w : Int32) : Int64 :=
  let f := cl >>> ((1 : Int32) &&& 31)
  let r := if f < 0 then (if hasB w (f - 6) then -1 else 0) else if 6 ≤ f then (if hasB w (f - 6) then -1 else 0) else ridesL f.toNatClampNeg
  if (cl &&& 1) = 0 then r else r ^^^ (-1)
def allOfL (x : XS) (w : Int32) : Int64 := if x.1 21 0 < 6 then (if w = 0 then shlL 1 ((1 : Int32) <<< (x.1 21 0 &&& 31)) - 1 else 0) else -1
def rowL (x : XS) (st w : Int32) : Int64 := if st * 16 + w < 0 then 0 else if nI 320 ≤ st * 16 + w then 0 else x.2 43 (st * 16 + w).toNatClampNeg

set_option maxHeartbeats 4000000 in
set_option maxRecDepth 100000 in
theorem c_J6_bitCount_0f7a4 {g : Gx} {a : Nat → Nat} {x : XS} {lay : List Kd} {v : Int32} : Mx g yJ6_bitCount_0f7a4 cJ6_bitCount_0f7a4 1 (some .int) 1 0 0 lay a x [.int v] (pr (some (.int (bcI v))) x) := by
  refine Mx_of (by decide +kernel) (Nat.le_of_ble_eq_true rfl) ?_
  intro k hk he hg
  subst hg

  refine xiload_n hk dJ6_bitCount_0f7a4_0 rfl ?_
  refine xiload_n hk dJ6_bitCount_0f7a4_1 rfl ?_
  refine xiconst (v := 1) hk dJ6_bitCount_0f7a4_2 (by decide) ?_
  refine xiushr hk dJ6_bitCount_0f7a4_3 ?_
  refine xldcw hk (1431655765) dJ6_bitCount_0f7a4_4 kJ6_265 ?_
  refine xiand hk dJ6_bitCount_0f7a4_7 ?_
  refine xisub hk dJ6_bitCount_0f7a4_8 ?_
  refine xistore_n hk dJ6_bitCount_0f7a4_9 (by decide) ?_
  refine xiload_n hk dJ6_bitCount_0f7a4_10 rfl ?_
  refine xldcw hk (858993459) dJ6_bitCount_0f7a4_11 kJ6_266 ?_
  refine xiand hk dJ6_bitCount_0f7a4_14 ?_
  refine xiload_n hk dJ6_bitCount_0f7a4_15 rfl ?_
  refine xiconst (v := 2) hk dJ6_bitCount_0f7a4_16 (by decide) ?_
  refine xiushr hk dJ6_bitCount_0f7a4_17 ?_
  refine xldcw hk (858993459) dJ6_bitCount_0f7a4_18 kJ6_266 ?_
  refine xiand hk dJ6_bitCount_0f7a4_21 ?_
  refine xiadd hk dJ6_bitCount_0f7a4_22 ?_
  refine xistore_n hk dJ6_bitCount_0f7a4_23 (by decide) ?_
  refine xiload_n hk dJ6_bitCount_0f7a4_24 rfl ?_
  refine xiload_n hk dJ6_bitCount_0f7a4_25 rfl ?_
  refine xiconst (v := 4) hk dJ6_bitCount_0f7a4_26 (by decide) ?_
  refine xiushr hk dJ6_bitCount_0f7a4_27 ?_
  refine xiadd hk dJ6_bitCount_0f7a4_28 ?_
  refine xldcw hk (252645135) dJ6_bitCount_0f7a4_29 kJ6_267 ?_
  refine xiand hk dJ6_bitCount_0f7a4_32 ?_
  refine xistore_n hk dJ6_bitCount_0f7a4_33 (by decide) ?_
  refine xiload_n hk dJ6_bitCount_0f7a4_34 rfl ?_
  refine xiload_n hk dJ6_bitCount_0f7a4_35 rfl ?_
  refine xbipush (v := 8) hk dJ6_bitCount_0f7a4_36 (by decide) ?_
  refine xiushr hk dJ6_bitCount_0f7a4_38 ?_
  refine xiadd hk dJ6_bitCount_0f7a4_39 ?_
  refine xistore_n hk dJ6_bitCount_0f7a4_40 (by decide) ?_
  refine xiload_n hk dJ6_bitCount_0f7a4_41 rfl ?_
  refine xiload_n hk dJ6_bitCount_0f7a4_42 rfl ?_
  refine xbipush (v := 16) hk dJ6_bitCount_0f7a4_43 (by decide) ?_
  refine xiushr hk dJ6_bitCount_0f7a4_45 ?_
  refine xiadd hk dJ6_bitCount_0f7a4_46 ?_
  refine xistore_n hk dJ6_bitCount_0f7a4_47 (by decide) ?_
  refine xiload_n hk dJ6_bitCount_0f7a4_48 rfl ?_
  refine xbipush (v := 63) hk dJ6_bitCount_0f7a4_49 (by decide) ?_
  refine xiand hk dJ6_bitCount_0f7a4_51 ?_
  refine xiret hk he dJ6_bitCount_0f7a4_52 ⟨by decide, by decide⟩ ?_
  exact ⟨rfl, rfl⟩
set_option maxHeartbeats 4000000 in
set_option maxRecDepth 100000 in
theorem c_J13_bitCount_95d88 {g : Gx} {a : Nat → Nat} {x : XS} {lay : List Kd} {v : Int64} : Mx g yJ13_bitCount_95d88 cJ13_bitCount_95d88 2 (some .int) 1 0 0 lay a x [.long v] (pr (some (.int (bcL v))) x) := by
  refine Mx_of (by decide +kernel) (Nat.le_of_ble_eq_true rfl) ?_
  intro k hk he hg
  subst hg

  refine xlload_n hk dJ13_bitCount_95d88_0 rfl ?_
  refine xlload_n hk dJ13_bitCount_95d88_1 rfl ?_
  refine xiconst (v := 1) hk dJ13_bitCount_95d88_2 (by decide) ?_
  refine xlushr hk dJ13_bitCount_95d88_3 ?_
  refine xldc2 hk (6148914691236517205) dJ13_bitCount_95d88_4 kJ13_314 ?_
  refine xland hk dJ13_bitCount_95d88_7 ?_
  refine xlsub hk dJ13_bitCount_95d88_8 ?_
  refine xlstore_n hk dJ13_bitCount_95d88_9 (by decide) ?_
  refine xlload_n hk dJ13_bitCount_95d88_10 rfl ?_
  refine xldc2 hk (3689348814741910323) dJ13_bitCount_95d88_11 kJ13_316 ?_
  refine xland hk dJ13_bitCount_95d88_14 ?_
  refine xlload_n hk dJ13_bitCount_95d88_15 rfl ?_
  refine xiconst (v := 2) hk dJ13_bitCount_95d88_16 (by decide) ?_
  refine xlushr hk dJ13_bitCount_95d88_17 ?_
  refine xldc2 hk (3689348814741910323) dJ13_bitCount_95d88_18 kJ13_316 ?_
  refine xland hk dJ13_bitCount_95d88_21 ?_
  refine xladd hk dJ13_bitCount_95d88_22 ?_
  refine xlstore_n hk dJ13_bitCount_95d88_23 (by decide) ?_
  refine xlload_n hk dJ13_bitCount_95d88_24 rfl ?_
  refine xlload_n hk dJ13_bitCount_95d88_25 rfl ?_
  refine xiconst (v := 4) hk dJ13_bitCount_95d88_26 (by decide) ?_
  refine xlushr hk dJ13_bitCount_95d88_27 ?_
  refine xladd hk dJ13_bitCount_95d88_28 ?_
  refine xldc2 hk (1085102592571150095) dJ13_bitCount_95d88_29 kJ13_318 ?_
  refine xland hk dJ13_bitCount_95d88_32 ?_
  refine xlstore_n hk dJ13_bitCount_95d88_33 (by decide) ?_
  refine xlload_n hk dJ13_bitCount_95d88_34 rfl ?_
  refine xlload_n hk dJ13_bitCount_95d88_35 rfl ?_
  refine xbipush (v := 8) hk dJ13_bitCount_95d88_36 (by decide) ?_
  refine xlushr hk dJ13_bitCount_95d88_38 ?_
  refine xladd hk dJ13_bitCount_95d88_39 ?_
  refine xlstore_n hk dJ13_bitCount_95d88_40 (by decide) ?_
  refine xlload_n hk dJ13_bitCount_95d88_41 rfl ?_
  refine xlload_n hk dJ13_bitCount_95d88_42 rfl ?_
  refine xbipush (v := 16) hk dJ13_bitCount_95d88_43 (by decide) ?_
  refine xlushr hk dJ13_bitCount_95d88_45 ?_
  refine xladd hk dJ13_bitCount_95d88_46 ?_
  refine xlstore_n hk dJ13_bitCount_95d88_47 (by decide) ?_
  refine xlload_n hk dJ13_bitCount_95d88_48 rfl ?_
  refine xlload_n hk dJ13_bitCount_95d88_49 rfl ?_
  refine xbipush (v := 32) hk dJ13_bitCount_95d88_50 (by decide) ?_
  refine xlushr hk dJ13_bitCount_95d88_52 ?_
  refine xladd hk dJ13_bitCount_95d88_53 ?_
  refine xlstore_n hk dJ13_bitCount_95d88_54 (by decide) ?_
  refine xlload_n hk dJ13_bitCount_95d88_55 rfl ?_
  refine xl2i hk dJ13_bitCount_95d88_56 ?_
  refine xbipush (v := 127) hk dJ13_bitCount_95d88_57 (by decide) ?_
  refine xiand hk dJ13_bitCount_95d88_59 ?_
  refine xiret hk he dJ13_bitCount_95d88_60 ⟨by decide, by decide⟩ ?_
  exact ⟨rfl, rfl⟩
set_option maxHeartbeats 4000000 in
set_option maxRecDepth 100000 in
theorem c_X3_holds {g : Gx} {a : Nat → Nat} {x : XS} {lay : List Kd} {cl w : Int32} : Mx g yX3_holds cX3_holds 5 (some .long) 2 0 0 lay a x [.int cl, .int w] (pr (some (.long (holdsL cl w))) x) := by
  refine Mx_of (by decide +kernel) (Nat.le_of_ble_eq_true rfl) ?_
  intro k hk he hg
  subst hg

  refine xiload_n hk dX3_holds_0 rfl ?_
  refine xiconst (v := 1) hk dX3_holds_1 (by decide) ?_
  refine xishr hk dX3_holds_2 ?_
  refine xistore_n hk dX3_holds_3 (by decide) ?_
  refine xiload_n hk dX3_holds_4 rfl ?_
  refine xif_lt hk 25 dX3_holds_5 (by decide) (fun h5 => ?_) (fun h5 => ?_)
  · refine xiload_n hk dX3_holds_25 rfl ?_
    refine xiload_n hk dX3_holds_26 rfl ?_
    refine xbipush (v := 6) hk dX3_holds_27 (by decide) ?_
    refine xisub hk dX3_holds_29 ?_
    refine xcallSN hk c_X8_has bX8_has kX3_87 dX3_holds_30 rfl rfl (by decide) ⟨by decide, by decide⟩ (Nat.le_of_ble_eq_true rfl) (det ?_)
    refine xif_eq hk 42 dX3_holds_33 (by decide) (fun h33 => ?_) (fun h33 => ?_)
    · rw [b2i_0] at h33
      refine xlconst (v := 0) hk dX3_holds_42 (by decide) ?_
      refine xlstore_n hk dX3_holds_43 (by decide) ?_
      refine xiload_n hk dX3_holds_44 rfl ?_
      refine xiconst (v := 1) hk dX3_holds_45 (by decide) ?_
      refine xiand hk dX3_holds_46 ?_
      refine xif_ne hk 54 dX3_holds_47 (by decide) (fun h47 => ?_) (fun h47 => ?_)
      · refine xlload_n hk dX3_holds_54 rfl ?_
        refine xldc2 hk (-1) dX3_holds_55 kX3_94 ?_
        refine xlxor hk dX3_holds_58 ?_
        refine xlret hk he dX3_holds_59 ⟨by decide, by decide⟩ ?_
        exact ⟨by simp [holdsL, ridesL, *], rfl⟩
      · refine xlload_n hk dX3_holds_50 rfl ?_
        refine xgoto hk 59 dX3_holds_51 (by decide) ?_
        refine xlret hk he dX3_holds_59 ⟨by decide, by decide⟩ ?_
        exact ⟨by simp [holdsL, ridesL, *], rfl⟩
    · rw [b2i_t] at h33
      refine xldc2 hk (-1) dX3_holds_36 kX3_94 ?_
      refine xgoto hk 43 dX3_holds_39 (by decide) ?_
      refine xlstore_n hk dX3_holds_43 (by decide) ?_
      refine xiload_n hk dX3_holds_44 rfl ?_
      refine xiconst (v := 1) hk dX3_holds_45 (by decide) ?_
      refine xiand hk dX3_holds_46 ?_
      refine xif_ne hk 54 dX3_holds_47 (by decide) (fun h47 => ?_) (fun h47 => ?_)
      · refine xlload_n hk dX3_holds_54 rfl ?_
        refine xldc2 hk (-1) dX3_holds_55 kX3_94 ?_
        refine xlxor hk dX3_holds_58 ?_
        refine xlret hk he dX3_holds_59 ⟨by decide, by decide⟩ ?_
        exact ⟨by simp [holdsL, ridesL, *], rfl⟩
      · refine xlload_n hk dX3_holds_50 rfl ?_
        refine xgoto hk 59 dX3_holds_51 (by decide) ?_
        refine xlret hk he dX3_holds_59 ⟨by decide, by decide⟩ ?_
        exact ⟨by simp [holdsL, ridesL, *], rfl⟩
  · refine xiload_n hk dX3_holds_8 rfl ?_
    refine xgetsR hk dX3_holds_9 kX3_96 ?_
    refine xridesLen hk dX3_holds_12 ?_
    refine xicmp_ge hk 25 dX3_holds_13 (by decide) (fun h13 => ?_) (fun h13 => ?_)
    · refine xiload_n hk dX3_holds_25 rfl ?_
      refine xiload_n hk dX3_holds_26 rfl ?_
      refine xbipush (v := 6) hk dX3_holds_27 (by decide) ?_
      refine xisub hk dX3_holds_29 ?_
      refine xcallSN hk c_X8_has bX8_has kX3_87 dX3_holds_30 rfl rfl (by decide) ⟨by decide, by decide⟩ (Nat.le_of_ble_eq_true rfl) (det ?_)
      refine xif_eq hk 42 dX3_holds_33 (by decide) (fun h33 => ?_) (fun h33 => ?_)
      · rw [b2i_0] at h33
        refine xlconst (v := 0) hk dX3_holds_42 (by decide) ?_
        refine xlstore_n hk dX3_holds_43 (by decide) ?_
        refine xiload_n hk dX3_holds_44 rfl ?_
        refine xiconst (v := 1) hk dX3_holds_45 (by decide) ?_
        refine xiand hk dX3_holds_46 ?_
        refine xif_ne hk 54 dX3_holds_47 (by decide) (fun h47 => ?_) (fun h47 => ?_)
        · refine xlload_n hk dX3_holds_54 rfl ?_
          refine xldc2 hk (-1) dX3_holds_55 kX3_94 ?_
          refine xlxor hk dX3_holds_58 ?_
          refine xlret hk he dX3_holds_59 ⟨by decide, by decide⟩ ?_
          exact ⟨by simp [holdsL, ridesL, *], rfl⟩
        · refine xlload_n hk dX3_holds_50 rfl ?_
          refine xgoto hk 59 dX3_holds_51 (by decide) ?_
          refine xlret hk he dX3_holds_59 ⟨by decide, by decide⟩ ?_
          exact ⟨by simp [holdsL, ridesL, *], rfl⟩
      · rw [b2i_t] at h33
        refine xldc2 hk (-1) dX3_holds_36 kX3_94 ?_
        refine xgoto hk 43 dX3_holds_39 (by decide) ?_
        refine xlstore_n hk dX3_holds_43 (by decide) ?_
        refine xiload_n hk dX3_holds_44 rfl ?_
        refine xiconst (v := 1) hk dX3_holds_45 (by decide) ?_
        refine xiand hk dX3_holds_46 ?_
        refine xif_ne hk 54 dX3_holds_47 (by decide) (fun h47 => ?_) (fun h47 => ?_)
        · refine xlload_n hk dX3_holds_54 rfl ?_
          refine xldc2 hk (-1) dX3_holds_55 kX3_94 ?_
          refine xlxor hk dX3_holds_58 ?_
          refine xlret hk he dX3_holds_59 ⟨by decide, by decide⟩ ?_
          exact ⟨by simp [holdsL, ridesL, *], rfl⟩
        · refine xlload_n hk dX3_holds_50 rfl ?_
          refine xgoto hk 59 dX3_holds_51 (by decide) ?_
          refine xlret hk he dX3_holds_59 ⟨by decide, by decide⟩ ?_
          exact ⟨by simp [holdsL, ridesL, *], rfl⟩
    · refine xgetsR hk dX3_holds_16 kX3_96 ?_
      refine xiload_n hk dX3_holds_19 rfl ?_
      refine xridesGet hk dX3_holds_20 (vin h5 h13 (by decide)) ?_
      refine xlstore_n hk dX3_holds_21 (by decide) ?_
      refine xgoto hk 44 dX3_holds_22 (by decide) ?_
      refine xiload_n hk dX3_holds_44 rfl ?_
      refine xiconst (v := 1) hk dX3_holds_45 (by decide) ?_
      refine xiand hk dX3_holds_46 ?_
      refine xif_ne hk 54 dX3_holds_47 (by decide) (fun h47 => ?_) (fun h47 => ?_)
      · refine xlload_n hk dX3_holds_54 rfl ?_
        refine xldc2 hk (-1) dX3_holds_55 kX3_94 ?_
        refine xlxor hk dX3_holds_58 ?_
        refine xlret hk he dX3_holds_59 ⟨by decide, by decide⟩ ?_
        exact ⟨by simp [holdsL, ridesL, *], rfl⟩
      · refine xlload_n hk dX3_holds_50 rfl ?_
        refine xgoto hk 59 dX3_holds_51 (by decide) ?_
        refine xlret hk he dX3_holds_59 ⟨by decide, by decide⟩ ?_
        exact ⟨by simp [holdsL, ridesL, *], rfl⟩
set_option maxHeartbeats 4000000 in
set_option maxRecDepth 100000 in
theorem c_X3_row {g : Gx} {a : Nat → Nat} {x : XS} {st w : Int32} : Mx g yX3_row cX3_row 4 (some .long) 1 0 0 LF a x [.ref (a 40), .int st, .int w] (pr (some (.long (rowL x st w))) x) := by
  refine Mx_of (by decide +kernel) (Nat.le_of_ble_eq_true rfl) ?_
  intro k hk he hg
  subst hg

  refine xiload_n hk dX3_row_0 rfl ?_
  refine xbipush (v := 16) hk dX3_row_1 (by decide) ?_
  refine ximul hk dX3_row_3 ?_
  refine xiload_n hk dX3_row_4 rfl ?_
  refine xiadd hk dX3_row_5 ?_
  refine xistore_n hk dX3_row_6 (by decide) ?_
  refine xiload_n hk dX3_row_7 rfl ?_
  refine xif_lt hk 29 dX3_row_8 (by decide) (fun h8 => ?_) (fun h8 => ?_)
  · refine xlconst (v := 0) hk dX3_row_29 (by decide) ?_
    refine xlret hk he dX3_row_30 ⟨by decide, by decide⟩ ?_
    exact ⟨by simp [rowL, *], rfl⟩
  · refine xiload_n hk dX3_row_11 rfl ?_
    refine xaload_n hk dX3_row_12 rfl ?_
    refine xgetR (ci := 3) (f := 3) hk dX3_row_13 ⟨rfl, by decide, _, rfl, rfl⟩ kX3_18 ?_
    refine xalen (v := nI _) hk dX3_row_16 rfl (by decide) rfl ?_
    refine xicmp_ge hk 29 dX3_row_17 (by decide) (fun h17 => ?_) (fun h17 => ?_)
    · refine xlconst (v := 0) hk dX3_row_29 (by decide) ?_
      refine xlret hk he dX3_row_30 ⟨by decide, by decide⟩ ?_
      exact ⟨by simp [rowL, *], rfl⟩
    · refine xaload_n hk dX3_row_20 rfl ?_
      refine xgetR (ci := 3) (f := 3) hk dX3_row_21 ⟨rfl, by decide, _, rfl, rfl⟩ kX3_18 ?_
      refine xiload_n hk dX3_row_24 rfl ?_
      refine xlald hk dX3_row_25 rfl (vin h8 h17 (by decide)) ?_
      refine xgoto hk 30 dX3_row_26 (by decide) ?_
      refine xlret hk he dX3_row_30 ⟨by decide, by decide⟩ ?_
      exact ⟨by simp [rowL, *], rfl⟩
set_option maxHeartbeats 4000000 in
set_option maxRecDepth 100000 in
theorem c_X3_allOf {g : Gx} {a : Nat → Nat} {x : XS} {w : Int32} : Mx g yX3_allOf cX3_allOf 2 (some .long) 1 0 0 LF a x [.ref (a 40), .int w] (pr (some (.long (allOfL x w))) x) := by
  refine Mx_of (by decide +kernel) (Nat.le_of_ble_eq_true rfl) ?_
  intro k hk he hg
  subst hg

  refine xaload_n hk dX3_allOf_0 rfl ?_
  refine xgetR (ci := 3) (f := 0) hk dX3_allOf_1 ⟨rfl, by decide, _, rfl, rfl⟩ kX3_28 ?_
  refine xgetNI (ci := 0) (f := 0) hk dX3_allOf_4 ⟨rfl, by decide, _, rfl, rfl⟩ kX3_32 ?_
  refine xbipush (v := 6) hk dX3_allOf_7 (by decide) ?_
  refine xicmp_lt hk 16 dX3_allOf_9 (by decide) (fun h9 => ?_) (fun h9 => ?_)
  · refine xiload_n hk dX3_allOf_16 rfl ?_
    refine xif_ne hk 36 dX3_allOf_17 (by decide) (fun h17 => ?_) (fun h17 => ?_)
    · refine xlconst (v := 0) hk dX3_allOf_36 (by decide) ?_
      refine xlret hk he dX3_allOf_37 ⟨by decide, by decide⟩ ?_
      exact ⟨by simp [allOfL, *], rfl⟩
    · refine xlconst (v := 1) hk dX3_allOf_20 (by decide) ?_
      refine xiconst (v := 1) hk dX3_allOf_21 (by decide) ?_
      refine xaload_n hk dX3_allOf_22 rfl ?_
      refine xgetR (ci := 3) (f := 0) hk dX3_allOf_23 ⟨rfl, by decide, _, rfl, rfl⟩ kX3_28 ?_
      refine xgetNI (ci := 0) (f := 0) hk dX3_allOf_26 ⟨rfl, by decide, _, rfl, rfl⟩ kX3_32 ?_
      refine xishl hk dX3_allOf_29 ?_
      refine xlshl hk dX3_allOf_30 ?_
      refine xlconst (v := 1) hk dX3_allOf_31 (by decide) ?_
      refine xlsub hk dX3_allOf_32 ?_
      refine xgoto hk 37 dX3_allOf_33 (by decide) ?_
      refine xlret hk he dX3_allOf_37 ⟨by decide, by decide⟩ ?_
      exact ⟨by simp [allOfL, *], rfl⟩
  · refine xldc2 hk (-1) dX3_allOf_12 kX3_94 ?_
    refine xlret hk he dX3_allOf_15 ⟨by decide, by decide⟩ ?_
    exact ⟨by simp [allOfL, *], rfl⟩
