theorem kX10_29 : Cond.fieldLink RX10 29 "FeudBookModel" "meant" "[I" ∈ GW := gw_mem 1199 (by decide +kernel) (by decide +kernel)
theorem kX10_327 : Cond.methodLink RX10 327 yX10_told ∈ GW := gw_mem 1488 (by decide +kernel) (by decide +kernel)
theorem bX10_told : CBv yX10_told cX10_told 5 (some .int) 2 := ⟨⟨gw_mem 1491 (by decide +kernel) (by decide +kernel), gw_mem 14 (by decide +kernel) (by decide +kernel), by decide +kernel, by decide⟩, gw_mem 1490 (by decide +kernel) (by decide +kernel), gw_sel 79 (by decide +kernel) (by decide +kernel)⟩
theorem kX10_329 : Cond.methodLink RX10 329 yX10_isNew ∈ GW := gw_mem 1484 (by decide +kernel) (by decide +kernel)
theorem bX10_isNew : CBv yX10_isNew cX10_isNew 4 (some .int) 3 := ⟨⟨gw_mem 1487 (by decide +kernel) (by decide +kernel), gw_mem 14 (by decide +kernel) (by decide +kernel), by decide +kernel, by decide⟩, gw_mem 1486 (by decide +kernel) (by decide +kernel), gw_sel 78 (by decide +kernel) (by decide +kernel)⟩
theorem kX10_335 : Cond.methodLink RX10 335 yX10_look_ ∈ GW := gw_mem 1504 (by decide +kernel) (by decide +kernel)
theorem bX10_look_ : CBv yX10_look_ cX10_look_ 3 (some .int) 2 := ⟨⟨gw_mem 1507 (by decide +kernel) (by decide +kernel), gw_mem 14 (by decide +kernel) (by decide +kernel), by decide +kernel, by decide⟩, gw_mem 1506 (by decide +kernel) (by decide +kernel), gw_sel 83 (by decide +kernel) (by decide +kernel)⟩
theorem kX10_343 : Cond.methodLink RX10 343 yX10_newFamily ∈ GW := gw_mem 1480 (by decide +kernel) (by decide +kernel)
theorem bX10_newFamily : CBv yX10_newFamily cX10_newFamily 3 (some .int) 1 := ⟨⟨gw_mem 1483 (by decide +kernel) (by decide +kernel), gw_mem 14 (by decide +kernel) (by decide +kernel), by decide +kernel, by decide⟩, gw_mem 1482 (by decide +kernel) (by decide +kernel), gw_sel 77 (by decide +kernel) (by decide +kernel)⟩
theorem kX10_346 : Cond.methodLink RX10 346 yX10_newStatement ∈ GW := gw_mem 1496 (by decide +kernel) (by decide +kernel)
theorem bX10_newStatement : CBv yX10_newStatement cX10_newStatement 3 (some .int) 1 := ⟨⟨gw_mem 1499 (by decide +kernel) (by decide +kernel), gw_mem 14 (by decide +kernel) (by decide +kernel), by decide +kernel, by decide⟩, gw_mem 1498 (by decide +kernel) (by decide +kernel), gw_sel 81 (by decide +kernel) (by decide +kernel)⟩
theorem kX10_349 : Cond.methodLink RX10 349 yX10_claim ∈ GW := gw_mem 1500 (by decide +kernel) (by decide +kernel)
theorem bX10_claim : CBv yX10_claim cX10_claim 5 (some .int) 1 := ⟨⟨gw_mem 1503 (by decide +kernel) (by decide +kernel), gw_mem 14 (by decide +kernel) (by decide +kernel), by decide +kernel, by decide⟩, gw_mem 1502 (by decide +kernel) (by decide +kernel), gw_sel 82 (by decide +kernel) (by decide +kernel)⟩
theorem kX10_352 : Cond.methodLink RX10 352 yX10_newOrder ∈ GW := gw_mem 1508 (by decide +kernel) (by decide +kernel)
theorem bX10_newOrder : CBv yX10_newOrder cX10_newOrder 2 (some .int) 1 := ⟨⟨gw_mem 1511 (by decide +kernel) (by decide +kernel), gw_mem 14 (by decide +kernel) (by decide +kernel), by decide +kernel, by decide⟩, gw_mem 1510 (by decide +kernel) (by decide +kernel), gw_sel 84 (by decide +kernel) (by decide +kernel)⟩
theorem kX10_355 : Cond.methodLink RX10 355 yX10_ofOrder ∈ GW := gw_mem 1512 (by decide +kernel) (by decide +kernel)
theorem bX10_ofOrder : CBv yX10_ofOrder cX10_ofOrder 3 (some .int) 1 := ⟨⟨gw_mem 1515 (by decide +kernel) (by decide +kernel), gw_mem 14 (by decide +kernel) (by decide +kernel), by decide +kernel, by decide⟩, gw_mem 1514 (by decide +kernel) (by decide +kernel), gw_sel 85 (by decide +kernel) (by decide +kernel)⟩
theorem kX10_222 : Cond.fieldLink RX10 222 "FeudBookModel" "WORDS" "[Ljava/lang/String;" ∈ GW := gw_mem 1319 (by decide +kernel) (by decide +kernel)
theorem kX10_226 : Cond.methodLink RX10 226 yJ0_length_8abf5 ∈ GW := gw_mem 1321 (by decide +kernel) (by decide +kernel)
theorem kX10_229 : Cond.methodLink RX10 229 yJ0_charAt_5068e ∈ GW := gw_mem 1322 (by decide +kernel) (by decide +kernel)
theorem bJ0_charAt_5068e : CBv yJ0_charAt_5068e cJ0_charAt_5068e 2 (some .char) 1 := ⟨⟨gw_mem 73 (by decide +kernel) (by decide +kernel), gw_mem 4 (by decide +kernel) (by decide +kernel), by decide +kernel, by decide⟩, gw_mem 71 (by decide +kernel) (by decide +kernel), gw_mem 72 (by decide +kernel) (by decide +kernel)⟩
theorem kX10_203 : Cond.methodLink RX10 203 yX10_byteOf ∈ GW := gw_mem 1301 (by decide +kernel) (by decide +kernel)
theorem bX10_byteOf : CBv yX10_byteOf cX10_byteOf 2 (some .int) 1 := ⟨⟨gw_mem 1304 (by decide +kernel) (by decide +kernel), gw_mem 14 (by decide +kernel) (by decide +kernel), by decide +kernel, by decide⟩, gw_mem 1303 (by decide +kernel) (by decide +kernel), gw_sel 49 (by decide +kernel) (by decide +kernel)⟩
theorem kX10_206 : Cond.methodLink RX10 206 yX10_isLetter ∈ GW := gw_mem 1309 (by decide +kernel) (by decide +kernel)
theorem bX10_isLetter : CBs yX10_isLetter cX10_isLetter 1 (some .boolean) 1 := ⟨⟨gw_mem 1311 (by decide +kernel) (by decide +kernel), gw_mem 14 (by decide +kernel) (by decide +kernel), by decide +kernel, by decide⟩, gw_mem 1310 (by decide +kernel) (by decide +kernel)⟩
theorem kX10_209 : Cond.methodLink RX10 209 yX10_isDigit ∈ GW := gw_mem 1312 (by decide +kernel) (by decide +kernel)
theorem bX10_isDigit : CBs yX10_isDigit cX10_isDigit 1 (some .boolean) 1 := ⟨⟨gw_mem 1314 (by decide +kernel) (by decide +kernel), gw_mem 14 (by decide +kernel) (by decide +kernel), by decide +kernel, by decide⟩, gw_mem 1313 (by decide +kernel) (by decide +kernel)⟩
theorem kX10_212 : Cond.methodLink RX10 212 yX10_word ∈ GW := gw_mem 1315 (by decide +kernel) (by decide +kernel)
theorem bX10_word : CBv yX10_word cX10_word 6 (some .int) 2 := ⟨⟨gw_mem 1318 (by decide +kernel) (by decide +kernel), gw_mem 14 (by decide +kernel) (by decide +kernel), by decide +kernel, by decide⟩, gw_mem 1317 (by decide +kernel) (by decide +kernel), gw_sel 51 (by decide +kernel) (by decide +kernel)⟩
theorem kX10_217 : Cond.methodLink RX10 217 yJ0_indexOf_0f7a4 ∈ GW := gw_mem 1324 (by decide +kernel) (by decide +kernel)
theorem bJ0_indexOf_0f7a4 : CBv yJ0_indexOf_0f7a4 cJ0_indexOf_0f7a4 2 (some .int) 1 := ⟨⟨gw_mem 1327 (by decide +kernel) (by decide +kernel), gw_mem 4 (by decide +kernel) (by decide +kernel), by decide +kernel, by decide⟩, gw_mem 1325 (by decide +kernel) (by decide +kernel), gw_mem 1326 (by decide +kernel) (by decide +kernel)⟩
theorem kX10_233 : Cond.methodLink RX10 233 yX10_kindAt ∈ GW := gw_mem 1305 (by decide +kernel) (by decide +kernel)
theorem bX10_kindAt : CBv yX10_kindAt cX10_kindAt 6 (some .int) 2 := ⟨⟨gw_mem 1308 (by decide +kernel) (by decide +kernel), gw_mem 14 (by decide +kernel) (by decide +kernel), by decide +kernel, by decide⟩, gw_mem 1307 (by decide +kernel) (by decide +kernel), gw_sel 50 (by decide +kernel) (by decide +kernel)⟩
def f_X10_look_  (p : Int32) (q : Int32) (x : XS) : Option (Int32 × XS) := ob (f_X10_told p q x) (fun u8 => og (inB p 401) (og (inB p 401) ((if ((setI u8.2 6 (p : Int32).toNatClampNeg u8.1).1 6 (p : Int32).toNatClampNeg) = (-1) then some (3, (setI u8.2 6 (p : Int32).toNatClampNeg u8.1)) else some (0, (setI u8.2 6 (p : Int32).toNatClampNeg u8.1))))))

set_option maxHeartbeats 4000000 in
set_option maxRecDepth 100000 in
theorem c_X10_look_ {g : Gx} {a : Nat → Nat} {x : XS}   {p : Int32} {q : Int32} {u : Int32 × XS}  (h : f_X10_look_  p q x = some u) : Mx g yX10_look_ cX10_look_ 3 (some .int) 3 0 0 LM2 a x [.ref (a 0), .int p, .int q] (pr (some (.int u.1)) u.2) := by
  refine Mx_of (by decide +kernel) (Nat.le_of_ble_eq_true rfl) ?_
  intro k hk he hg
  subst hg
  rw [f_X10_look_] at h
  refine xaload_n hk dX10_look__0 rfl ?_
  refine xgetR (ci := 10) (f := 8) hk dX10_look__1 ⟨rfl, by decide, _, rfl, rfl⟩ kX10_29 ?_
  refine xiload_n hk dX10_look__4 rfl ?_
  refine xaload_n hk dX10_look__5 rfl ?_
  refine xiload_n hk dX10_look__6 rfl ?_
  refine xiload_n hk dX10_look__7 rfl ?_
  obtain ⟨u8, e8, h⟩ := ob_some h
  refine xcallV hk (c_X10_told e8) bX10_told kX10_327 dX10_look__8 rfl ⟨_, _, _, _, rfl, rfl⟩ rfl (by first | decide | omega) ⟨by decide, by decide⟩ (Nat.le_of_ble_eq_true rfl) (det ?_)
  obtain ⟨hi11, h⟩ := og_some h
  refine xiast hk dX10_look__11 rfl (inB_v hi11) ?_
  refine xaload_n hk dX10_look__12 rfl ?_
  refine xgetR (ci := 10) (f := 8) hk dX10_look__13 ⟨rfl, by decide, _, rfl, rfl⟩ kX10_29 ?_
  refine xiload_n hk dX10_look__16 rfl ?_
  obtain ⟨hi17, h⟩ := og_some h
  refine xiald hk dX10_look__17 rfl (inB_v hi17) ?_
  refine xiconst (v := (-1)) hk dX10_look__18 (by decide) ?_
  refine xicmp_ne hk 26 dX10_look__19 (by decide) (fun h19 => ?_) (fun h19 => ?_)
  · rw [if_neg h19] at h
    refine xiconst (v := 0) hk dX10_look__26 (by decide) ?_
    refine xiret hk he dX10_look__27 ⟨by decide, by decide⟩ ?_
    obtain rfl := Option.some.inj h
    exact ⟨rfl, rfl⟩
  · rw [if_pos h19] at h
    refine xiconst (v := 3) hk dX10_look__22 (by decide) ?_
    refine xgoto hk 27 dX10_look__23 (by decide) ?_
    refine xiret hk he dX10_look__27 ⟨by decide, by decide⟩ ?_
    obtain rfl := Option.some.inj h
    exact ⟨rfl, rfl⟩

def f_X10_isNew  (p : Int32) (q : Int32) (r : Int32) (x : XS) : Option (Int32 × XS) := og (inB p 401) (ob (f_X10_told p (x.1 5 (p : Int32).toNatClampNeg) x) (fun u8 => (if u8.1 = (-1) then (if q = r then some (4, u8.2) else some (0, u8.2)) else some (2, u8.2))))

set_option maxHeartbeats 4000000 in
set_option maxRecDepth 100000 in
theorem c_X10_isNew {g : Gx} {a : Nat → Nat} {x : XS}   {p : Int32} {q : Int32} {r : Int32} {u : Int32 × XS}  (h : f_X10_isNew  p q r x = some u) : Mx g yX10_isNew cX10_isNew 4 (some .int) 3 0 0 LM2 a x [.ref (a 0), .int p, .int q, .int r] (pr (some (.int u.1)) u.2) := by
  refine Mx_of (by decide +kernel) (Nat.le_of_ble_eq_true rfl) ?_
  intro k hk he hg
  subst hg
  rw [f_X10_isNew] at h
  refine xaload_n hk dX10_isNew_0 rfl ?_
  refine xiload_n hk dX10_isNew_1 rfl ?_
  refine xaload_n hk dX10_isNew_2 rfl ?_
  refine xgetR (ci := 10) (f := 7) hk dX10_isNew_3 ⟨rfl, by decide, _, rfl, rfl⟩ kX10_26 ?_
  refine xiload_n hk dX10_isNew_6 rfl ?_
  obtain ⟨hi7, h⟩ := og_some h
  refine xiald hk dX10_isNew_7 rfl (inB_v hi7) ?_
  obtain ⟨u8, e8, h⟩ := ob_some h
  refine xcallV hk (c_X10_told e8) bX10_told kX10_327 dX10_isNew_8 rfl ⟨_, _, _, _, rfl, rfl⟩ rfl (by first | decide | omega) ⟨by decide, by decide⟩ (Nat.le_of_ble_eq_true rfl) (det ?_)
  refine xiconst (v := (-1)) hk dX10_isNew_11 (by decide) ?_
  refine xicmp_eq hk 19 dX10_isNew_12 (by decide) (fun h12 => ?_) (fun h12 => ?_)
  · rw [if_pos h12] at h
    refine xiload_n hk dX10_isNew_19 rfl ?_
    refine xiload_n hk dX10_isNew_20 rfl ?_
    refine xicmp_ne hk 28 dX10_isNew_21 (by decide) (fun h21 => ?_) (fun h21 => ?_)
    · rw [if_neg h21] at h
      refine xiconst (v := 0) hk dX10_isNew_28 (by decide) ?_
      refine xiret hk he dX10_isNew_29 ⟨by decide, by decide⟩ ?_
      obtain rfl := Option.some.inj h
      exact ⟨rfl, rfl⟩
    · rw [if_pos h21] at h
      refine xiconst (v := 4) hk dX10_isNew_24 (by decide) ?_
      refine xgoto hk 29 dX10_isNew_25 (by decide) ?_
      refine xiret hk he dX10_isNew_29 ⟨by decide, by decide⟩ ?_
      obtain rfl := Option.some.inj h
      exact ⟨rfl, rfl⟩
  · rw [if_neg h12] at h
    refine xiconst (v := 2) hk dX10_isNew_15 (by decide) ?_
    refine xgoto hk 29 dX10_isNew_16 (by decide) ?_
    refine xiret hk he dX10_isNew_29 ⟨by decide, by decide⟩ ?_
    obtain rfl := Option.some.inj h
    exact ⟨rfl, rfl⟩

def f_X10_newFamily  (p : Int32) (x : XS) : Option (Int32 × XS) := ob (f_X10_isNew p (x.1 21 0) 10 x) (fun u11 => (if u11.1 = 0 then some (u11.1, (setI u11.2 21 0 ((u11.2.1 21 0) + 1))) else some (u11.1, (setI u11.2 21 0 ((u11.2.1 21 0) + 0)))))

set_option maxHeartbeats 4000000 in
set_option maxRecDepth 100000 in
theorem c_X10_newFamily {g : Gx} {a : Nat → Nat} {x : XS}   {p : Int32} {u : Int32 × XS}  (h : f_X10_newFamily  p x = some u) : Mx g yX10_newFamily cX10_newFamily 3 (some .int) 4 0 0 LM2 a x [.ref (a 0), .int p] (pr (some (.int u.1)) u.2) := by
  refine Mx_of (by decide +kernel) (Nat.le_of_ble_eq_true rfl) ?_
  intro k hk he hg
  subst hg
  rw [f_X10_newFamily] at h
  refine xaload_n hk dX10_newFamily_0 rfl ?_
  refine xiload_n hk dX10_newFamily_1 rfl ?_
  refine xaload_n hk dX10_newFamily_2 rfl ?_
  refine xgetR (ci := 10) (f := 12) hk dX10_newFamily_3 ⟨rfl, by decide, _, rfl, rfl⟩ kX10_39 ?_
  refine xgetNI (ci := 9) (f := 0) hk dX10_newFamily_6 ⟨rfl, by decide, _, rfl, rfl⟩ kX10_88 ?_
  refine xbipush (v := 10) hk dX10_newFamily_9 (by decide) ?_
  obtain ⟨u11, e11, h⟩ := ob_some h
  refine xcallV hk (c_X10_isNew e11) bX10_isNew kX10_329 dX10_newFamily_11 rfl ⟨_, _, _, _, rfl, rfl⟩ rfl (by first | decide | omega) ⟨by decide, by decide⟩ (Nat.le_of_ble_eq_true rfl) (det ?_)
  refine xistore_n hk dX10_newFamily_14 (by decide) ?_
  refine xaload_n hk dX10_newFamily_15 rfl ?_
  refine xgetR (ci := 10) (f := 12) hk dX10_newFamily_16 ⟨rfl, by decide, _, rfl, rfl⟩ kX10_39 ?_
  refine xdup hk dX10_newFamily_19 rfl ?_
  refine xgetNI (ci := 9) (f := 0) hk dX10_newFamily_20 ⟨rfl, by decide, _, rfl, rfl⟩ kX10_88 ?_
  refine xiload_n hk dX10_newFamily_23 rfl ?_
  refine xif_ne hk 31 dX10_newFamily_24 (by decide) (fun h24 => ?_) (fun h24 => ?_)
  · rw [if_neg h24] at h
    refine xiconst (v := 0) hk dX10_newFamily_31 (by decide) ?_
    refine xiadd hk dX10_newFamily_32 ?_
    refine xputIN (ci := 9) (f := 0) hk dX10_newFamily_33 ⟨rfl, by decide, _, rfl, rfl⟩ kX10_88 ⟨rfl, by decide +kernel⟩ ?_
    refine xiload_n hk dX10_newFamily_36 rfl ?_
    refine xiret hk he dX10_newFamily_37 ⟨by decide, by decide⟩ ?_
    obtain rfl := Option.some.inj h
    exact ⟨rfl, rfl⟩
  · rw [if_pos h24] at h
    refine xiconst (v := 1) hk dX10_newFamily_27 (by decide) ?_
    refine xgoto hk 32 dX10_newFamily_28 (by decide) ?_
    refine xiadd hk dX10_newFamily_32 ?_
    refine xputIN (ci := 9) (f := 0) hk dX10_newFamily_33 ⟨rfl, by decide, _, rfl, rfl⟩ kX10_88 ⟨rfl, by decide +kernel⟩ ?_
    refine xiload_n hk dX10_newFamily_36 rfl ?_
    refine xiret hk he dX10_newFamily_37 ⟨by decide, by decide⟩ ?_
    obtain rfl := Option.some.inj h
    exact ⟨rfl, rfl⟩

def f_X10_newStatement  (p : Int32) (x : XS) : Option (Int32 × XS) := ob (f_X10_isNew p (x.1 21 1) 20 x) (fun u11 => (if u11.1 ≤ 0 then og (inB (p - 1) 401) (og (inB (u11.2.1 21 1) 20) (some (0, (setI (setI u11.2 22 ((u11.2.1 21 1) : Int32).toNatClampNeg (u11.2.1 2 ((p - 1) : Int32).toNatClampNeg)) 21 1 (((setI u11.2 22 ((u11.2.1 21 1) : Int32).toNatClampNeg (u11.2.1 2 ((p - 1) : Int32).toNatClampNeg)).1 21 1) + 1))))) else some (u11.1, u11.2)))

set_option maxHeartbeats 4000000 in
set_option maxRecDepth 100000 in
theorem c_X10_newStatement {g : Gx} {a : Nat → Nat} {x : XS}   {p : Int32} {u : Int32 × XS}  (h : f_X10_newStatement  p x = some u) : Mx g yX10_newStatement cX10_newStatement 3 (some .int) 4 0 0 LM2 a x [.ref (a 0), .int p] (pr (some (.int u.1)) u.2) := by
  refine Mx_of (by decide +kernel) (Nat.le_of_ble_eq_true rfl) ?_
  intro k hk he hg
  subst hg
  rw [f_X10_newStatement] at h
  refine xaload_n hk dX10_newStatement_0 rfl ?_
  refine xiload_n hk dX10_newStatement_1 rfl ?_
  refine xaload_n hk dX10_newStatement_2 rfl ?_
  refine xgetR (ci := 10) (f := 12) hk dX10_newStatement_3 ⟨rfl, by decide, _, rfl, rfl⟩ kX10_39 ?_
  refine xgetNI (ci := 9) (f := 1) hk dX10_newStatement_6 ⟨rfl, by decide, _, rfl, rfl⟩ kX10_63 ?_
  refine xbipush (v := 20) hk dX10_newStatement_9 (by decide) ?_
  obtain ⟨u11, e11, h⟩ := ob_some h
  refine xcallV hk (c_X10_isNew e11) bX10_isNew kX10_329 dX10_newStatement_11 rfl ⟨_, _, _, _, rfl, rfl⟩ rfl (by first | decide | omega) ⟨by decide, by decide⟩ (Nat.le_of_ble_eq_true rfl) (det ?_)
  refine xistore_n hk dX10_newStatement_14 (by decide) ?_
  refine xiload_n hk dX10_newStatement_15 rfl ?_
  refine xif_le hk 21 dX10_newStatement_16 (by decide) (fun h16 => ?_) (fun h16 => ?_)
  · rw [if_pos h16] at h
    refine xaload_n hk dX10_newStatement_21 rfl ?_
    refine xgetR (ci := 10) (f := 12) hk dX10_newStatement_22 ⟨rfl, by decide, _, rfl, rfl⟩ kX10_39 ?_
    refine xgetNR (ci := 9) (f := 2) hk dX10_newStatement_25 ⟨rfl, by decide, _, rfl, rfl⟩ kX10_332 ?_
    refine xaload_n hk dX10_newStatement_28 rfl ?_
    refine xgetR (ci := 10) (f := 12) hk dX10_newStatement_29 ⟨rfl, by decide, _, rfl, rfl⟩ kX10_39 ?_
    refine xgetNI (ci := 9) (f := 1) hk dX10_newStatement_32 ⟨rfl, by decide, _, rfl, rfl⟩ kX10_63 ?_
    refine xaload_n hk dX10_newStatement_35 rfl ?_
    refine xgetR (ci := 10) (f := 4) hk dX10_newStatement_36 ⟨rfl, by decide, _, rfl, rfl⟩ kX10_17 ?_
    refine xiload_n hk dX10_newStatement_39 rfl ?_
    refine xiconst (v := 1) hk dX10_newStatement_40 (by decide) ?_
    refine xisub hk dX10_newStatement_41 ?_
    obtain ⟨hi42, h⟩ := og_some h
    refine xiald hk dX10_newStatement_42 rfl (inB_v hi42) ?_
    obtain ⟨hi43, h⟩ := og_some h
    refine xiast hk dX10_newStatement_43 rfl (inB_v hi43) ?_
    refine xaload_n hk dX10_newStatement_44 rfl ?_
    refine xgetR (ci := 10) (f := 12) hk dX10_newStatement_45 ⟨rfl, by decide, _, rfl, rfl⟩ kX10_39 ?_
    refine xdup hk dX10_newStatement_48 rfl ?_
    refine xgetNI (ci := 9) (f := 1) hk dX10_newStatement_49 ⟨rfl, by decide, _, rfl, rfl⟩ kX10_63 ?_
    refine xiconst (v := 1) hk dX10_newStatement_52 (by decide) ?_
    refine xiadd hk dX10_newStatement_53 ?_
    refine xputIN (ci := 9) (f := 1) hk dX10_newStatement_54 ⟨rfl, by decide, _, rfl, rfl⟩ kX10_63 ⟨rfl, by decide +kernel⟩ ?_
    refine xiconst (v := 0) hk dX10_newStatement_57 (by decide) ?_
    refine xiret hk he dX10_newStatement_58 ⟨by decide, by decide⟩ ?_
    obtain rfl := Option.some.inj h
    exact ⟨rfl, rfl⟩
  · rw [if_neg h16] at h
    refine xiload_n hk dX10_newStatement_19 rfl ?_
    refine xiret hk he dX10_newStatement_20 ⟨by decide, by decide⟩ ?_
    obtain rfl := Option.some.inj h
    exact ⟨rfl, rfl⟩

def f_X10_claim  (p : Int32) (x : XS) : Option (Int32 × XS) := ob (f_X10_look_ p 1 x) (fun u3 => og (inB p 401) (og (inB (p + 1) 401) ((if (u3.2.1 2 ((p + 1) : Int32).toNatClampNeg) = 11 then og (inB p 401) ((if (u3.2.1 5 (p : Int32).toNatClampNeg) = 3 then og (inB ((u3.2.1 21 1) - 1) 20) (og (inB p 401) ((if ((setI u3.2 23 (((u3.2.1 21 1) - 1) : Int32).toNatClampNeg ((2 * (u3.2.1 6 (p : Int32).toNatClampNeg)) + 1)).1 5 (p : Int32).toNatClampNeg) = 4 then og (inB ((u3.2.1 21 1) - 1) 20) (some (u3.1, (setI (setI u3.2 23 (((u3.2.1 21 1) - 1) : Int32).toNatClampNeg ((2 * (u3.2.1 6 (p : Int32).toNatClampNeg)) + 1)) 24 (((u3.2.1 21 1) - 1) : Int32).toNatClampNeg ((2 * (u3.2.1 6 (p : Int32).toNatClampNeg)) + 1)))) else og (inB ((u3.2.1 21 1) - 1) 20) ((if ((setI u3.2 23 (((u3.2.1 21 1) - 1) : Int32).toNatClampNeg ((2 * (u3.2.1 6 (p : Int32).toNatClampNeg)) + 1)).1 22 (((u3.2.1 21 1) - 1) : Int32).toNatClampNeg) = 9 then og (inB ((u3.2.1 21 1) - 1) 20) (some (u3.1, (setI (setI u3.2 23 (((u3.2.1 21 1) - 1) : Int32).toNatClampNeg ((2 * (u3.2.1 6 (p : Int32).toNatClampNeg)) + 1)) 24 (((u3.2.1 21 1) - 1) : Int32).toNatClampNeg ((2 * (u3.2.1 6 (p : Int32).toNatClampNeg)) + 1)))) else some (u3.1, (setI u3.2 23 (((u3.2.1 21 1) - 1) : Int32).toNatClampNeg ((2 * (u3.2.1 6 (p : Int32).toNatClampNeg)) + 1)))))))) else og (inB p 401) ((if (u3.2.1 5 (p : Int32).toNatClampNeg) = 4 then og (inB ((u3.2.1 21 1) - 1) 20) (some (u3.1, (setI u3.2 24 (((u3.2.1 21 1) - 1) : Int32).toNatClampNeg ((2 * (u3.2.1 6 (p : Int32).toNatClampNeg)) + 1)))) else og (inB ((u3.2.1 21 1) - 1) 20) ((if (u3.2.1 22 (((u3.2.1 21 1) - 1) : Int32).toNatClampNeg) = 9 then og (inB ((u3.2.1 21 1) - 1) 20) (some (u3.1, (setI u3.2 24 (((u3.2.1 21 1) - 1) : Int32).toNatClampNeg ((2 * (u3.2.1 6 (p : Int32).toNatClampNeg)) + 1)))) else some (u3.1, u3.2))))))) else og (inB p 401) ((if (u3.2.1 5 (p : Int32).toNatClampNeg) = 3 then og (inB ((u3.2.1 21 1) - 1) 20) (og (inB p 401) ((if ((setI u3.2 23 (((u3.2.1 21 1) - 1) : Int32).toNatClampNeg ((2 * (u3.2.1 6 (p : Int32).toNatClampNeg)) + 0)).1 5 (p : Int32).toNatClampNeg) = 4 then og (inB ((u3.2.1 21 1) - 1) 20) (some (u3.1, (setI (setI u3.2 23 (((u3.2.1 21 1) - 1) : Int32).toNatClampNeg ((2 * (u3.2.1 6 (p : Int32).toNatClampNeg)) + 0)) 24 (((u3.2.1 21 1) - 1) : Int32).toNatClampNeg ((2 * (u3.2.1 6 (p : Int32).toNatClampNeg)) + 0)))) else og (inB ((u3.2.1 21 1) - 1) 20) ((if ((setI u3.2 23 (((u3.2.1 21 1) - 1) : Int32).toNatClampNeg ((2 * (u3.2.1 6 (p : Int32).toNatClampNeg)) + 0)).1 22 (((u3.2.1 21 1) - 1) : Int32).toNatClampNeg) = 9 then og (inB ((u3.2.1 21 1) - 1) 20) (some (u3.1, (setI (setI u3.2 23 (((u3.2.1 21 1) - 1) : Int32).toNatClampNeg ((2 * (u3.2.1 6 (p : Int32).toNatClampNeg)) + 0)) 24 (((u3.2.1 21 1) - 1) : Int32).toNatClampNeg ((2 * (u3.2.1 6 (p : Int32).toNatClampNeg)) + 0)))) else some (u3.1, (setI u3.2 23 (((u3.2.1 21 1) - 1) : Int32).toNatClampNeg ((2 * (u3.2.1 6 (p : Int32).toNatClampNeg)) + 0)))))))) else og (inB p 401) ((if (u3.2.1 5 (p : Int32).toNatClampNeg) = 4 then og (inB ((u3.2.1 21 1) - 1) 20) (some (u3.1, (setI u3.2 24 (((u3.2.1 21 1) - 1) : Int32).toNatClampNeg ((2 * (u3.2.1 6 (p : Int32).toNatClampNeg)) + 0)))) else og (inB ((u3.2.1 21 1) - 1) 20) ((if (u3.2.1 22 (((u3.2.1 21 1) - 1) : Int32).toNatClampNeg) = 9 then og (inB ((u3.2.1 21 1) - 1) 20) (some (u3.1, (setI u3.2 24 (((u3.2.1 21 1) - 1) : Int32).toNatClampNeg ((2 * (u3.2.1 6 (p : Int32).toNatClampNeg)) + 0)))) else some (u3.1, u3.2)))))))))))

set_option maxHeartbeats 4000000 in
set_option maxRecDepth 100000 in
theorem c_X10_claim {g : Gx} {a : Nat → Nat} {x : XS}   {p : Int32} {u : Int32 × XS}  (h : f_X10_claim  p x = some u) : Mx g yX10_claim cX10_claim 5 (some .int) 4 0 0 LM2 a x [.ref (a 0), .int p] (pr (some (.int u.1)) u.2) := by
  refine Mx_of (by decide +kernel) (Nat.le_of_ble_eq_true rfl) ?_
  intro k hk he hg
  subst hg
  rw [f_X10_claim] at h
  refine xaload_n hk dX10_claim_0 rfl ?_
  refine xiload_n hk dX10_claim_1 rfl ?_
  refine xiconst (v := 1) hk dX10_claim_2 (by decide) ?_
  obtain ⟨u3, e3, h⟩ := ob_some h
  refine xcallV hk (c_X10_look_ e3) bX10_look_ kX10_335 dX10_claim_3 rfl ⟨_, _, _, _, rfl, rfl⟩ rfl (by first | decide | omega) ⟨by decide, by decide⟩ (Nat.le_of_ble_eq_true rfl) (det ?_)
  refine xistore_n hk dX10_claim_6 (by decide) ?_
  refine xiconst (v := 2) hk dX10_claim_7 (by decide) ?_
  refine xaload_n hk dX10_claim_8 rfl ?_
  refine xgetR (ci := 10) (f := 8) hk dX10_claim_9 ⟨rfl, by decide, _, rfl, rfl⟩ kX10_29 ?_
  refine xiload_n hk dX10_claim_12 rfl ?_
  obtain ⟨hi13, h⟩ := og_some h
  refine xiald hk dX10_claim_13 rfl (inB_v hi13) ?_
  refine ximul hk dX10_claim_14 ?_
  refine xaload_n hk dX10_claim_15 rfl ?_
  refine xgetR (ci := 10) (f := 4) hk dX10_claim_16 ⟨rfl, by decide, _, rfl, rfl⟩ kX10_17 ?_
  refine xiload_n hk dX10_claim_19 rfl ?_
  refine xiconst (v := 1) hk dX10_claim_20 (by decide) ?_
  refine xiadd hk dX10_claim_21 ?_
  obtain ⟨hi22, h⟩ := og_some h
  refine xiald hk dX10_claim_22 rfl (inB_v hi22) ?_
  refine xbipush (v := 11) hk dX10_claim_23 (by decide) ?_
  refine xicmp_ne hk 32 dX10_claim_25 (by decide) (fun h25 => ?_) (fun h25 => ?_)
  · rw [if_neg h25] at h
    refine xiconst (v := 0) hk dX10_claim_32 (by decide) ?_
    refine xiadd hk dX10_claim_33 ?_
    refine xistore_n hk dX10_claim_34 (by decide) ?_
    refine xaload_n hk dX10_claim_35 rfl ?_
    refine xgetR (ci := 10) (f := 12) hk dX10_claim_36 ⟨rfl, by decide, _, rfl, rfl⟩ kX10_39 ?_
    refine xgetNI (ci := 9) (f := 1) hk dX10_claim_39 ⟨rfl, by decide, _, rfl, rfl⟩ kX10_63 ?_
    refine xiconst (v := 1) hk dX10_claim_42 (by decide) ?_
    refine xisub hk dX10_claim_43 ?_
    refine xistore hk dX10_claim_44 (by decide) ?_
    refine xaload_n hk dX10_claim_46 rfl ?_
    refine xgetR (ci := 10) (f := 7) hk dX10_claim_47 ⟨rfl, by decide, _, rfl, rfl⟩ kX10_26 ?_
    refine xiload_n hk dX10_claim_50 rfl ?_
    obtain ⟨hi51, h⟩ := og_some h
    refine xiald hk dX10_claim_51 rfl (inB_v hi51) ?_
    refine xiconst (v := 3) hk dX10_claim_52 (by decide) ?_
    refine xicmp_ne hk 67 dX10_claim_53 (by decide) (fun h53 => ?_) (fun h53 => ?_)
    · rw [if_neg h53] at h
      refine xaload_n hk dX10_claim_67 rfl ?_
      refine xgetR (ci := 10) (f := 7) hk dX10_claim_68 ⟨rfl, by decide, _, rfl, rfl⟩ kX10_26 ?_
      refine xiload_n hk dX10_claim_71 rfl ?_
      obtain ⟨hi72, h⟩ := og_some h
      refine xiald hk dX10_claim_72 rfl (inB_v hi72) ?_
      refine xiconst (v := 4) hk dX10_claim_73 (by decide) ?_
      refine xicmp_eq hk 92 dX10_claim_74 (by decide) (fun h74 => ?_) (fun h74 => ?_)
      · rw [if_pos h74] at h
        refine xaload_n hk dX10_claim_92 rfl ?_
        refine xgetR (ci := 10) (f := 12) hk dX10_claim_93 ⟨rfl, by decide, _, rfl, rfl⟩ kX10_39 ?_
        refine xgetNR (ci := 9) (f := 4) hk dX10_claim_96 ⟨rfl, by decide, _, rfl, rfl⟩ kX10_340 ?_
        refine xiload hk dX10_claim_99 rfl ?_
        refine xiload_n hk dX10_claim_101 rfl ?_
        obtain ⟨hi102, h⟩ := og_some h
        refine xiast hk dX10_claim_102 rfl (inB_v hi102) ?_
        refine xiload_n hk dX10_claim_103 rfl ?_
        refine xiret hk he dX10_claim_104 ⟨by decide, by decide⟩ ?_
        obtain rfl := Option.some.inj h
        exact ⟨rfl, rfl⟩
      · rw [if_neg h74] at h
        refine xaload_n hk dX10_claim_77 rfl ?_
        refine xgetR (ci := 10) (f := 12) hk dX10_claim_78 ⟨rfl, by decide, _, rfl, rfl⟩ kX10_39 ?_
        refine xgetNR (ci := 9) (f := 2) hk dX10_claim_81 ⟨rfl, by decide, _, rfl, rfl⟩ kX10_332 ?_
        refine xiload hk dX10_claim_84 rfl ?_
        obtain ⟨hi86, h⟩ := og_some h
        refine xiald hk dX10_claim_86 rfl (inB_v hi86) ?_
        refine xbipush (v := 9) hk dX10_claim_87 (by decide) ?_
        refine xicmp_ne hk 103 dX10_claim_89 (by decide) (fun h89 => ?_) (fun h89 => ?_)
        · rw [if_neg h89] at h
          refine xiload_n hk dX10_claim_103 rfl ?_
          refine xiret hk he dX10_claim_104 ⟨by decide, by decide⟩ ?_
          obtain rfl := Option.some.inj h
          exact ⟨rfl, rfl⟩
        · rw [if_pos h89] at h
          refine xaload_n hk dX10_claim_92 rfl ?_
          refine xgetR (ci := 10) (f := 12) hk dX10_claim_93 ⟨rfl, by decide, _, rfl, rfl⟩ kX10_39 ?_
          refine xgetNR (ci := 9) (f := 4) hk dX10_claim_96 ⟨rfl, by decide, _, rfl, rfl⟩ kX10_340 ?_
          refine xiload hk dX10_claim_99 rfl ?_
          refine xiload_n hk dX10_claim_101 rfl ?_
          obtain ⟨hi102, h⟩ := og_some h
          refine xiast hk dX10_claim_102 rfl (inB_v hi102) ?_
          refine xiload_n hk dX10_claim_103 rfl ?_
          refine xiret hk he dX10_claim_104 ⟨by decide, by decide⟩ ?_
          obtain rfl := Option.some.inj h
          exact ⟨rfl, rfl⟩
    · rw [if_pos h53] at h
      refine xaload_n hk dX10_claim_56 rfl ?_
      refine xgetR (ci := 10) (f := 12) hk dX10_claim_57 ⟨rfl, by decide, _, rfl, rfl⟩ kX10_39 ?_
      refine xgetNR (ci := 9) (f := 3) hk dX10_claim_60 ⟨rfl, by decide, _, rfl, rfl⟩ kX10_337 ?_
      refine xiload hk dX10_claim_63 rfl ?_
      refine xiload_n hk dX10_claim_65 rfl ?_
      obtain ⟨hi66, h⟩ := og_some h
      refine xiast hk dX10_claim_66 rfl (inB_v hi66) ?_
      refine xaload_n hk dX10_claim_67 rfl ?_
      refine xgetR (ci := 10) (f := 7) hk dX10_claim_68 ⟨rfl, by decide, _, rfl, rfl⟩ kX10_26 ?_
      refine xiload_n hk dX10_claim_71 rfl ?_
      obtain ⟨hi72, h⟩ := og_some h
      refine xiald hk dX10_claim_72 rfl (inB_v hi72) ?_
      refine xiconst (v := 4) hk dX10_claim_73 (by decide) ?_
      refine xicmp_eq hk 92 dX10_claim_74 (by decide) (fun h74 => ?_) (fun h74 => ?_)
      · rw [if_pos h74] at h
        refine xaload_n hk dX10_claim_92 rfl ?_
        refine xgetR (ci := 10) (f := 12) hk dX10_claim_93 ⟨rfl, by decide, _, rfl, rfl⟩ kX10_39 ?_
        refine xgetNR (ci := 9) (f := 4) hk dX10_claim_96 ⟨rfl, by decide, _, rfl, rfl⟩ kX10_340 ?_
        refine xiload hk dX10_claim_99 rfl ?_
        refine xiload_n hk dX10_claim_101 rfl ?_
        obtain ⟨hi102, h⟩ := og_some h
        refine xiast hk dX10_claim_102 rfl (inB_v hi102) ?_
        refine xiload_n hk dX10_claim_103 rfl ?_
        refine xiret hk he dX10_claim_104 ⟨by decide, by decide⟩ ?_
        obtain rfl := Option.some.inj h
        exact ⟨rfl, rfl⟩
      · rw [if_neg h74] at h
        refine xaload_n hk dX10_claim_77 rfl ?_
        refine xgetR (ci := 10) (f := 12) hk dX10_claim_78 ⟨rfl, by decide, _, rfl, rfl⟩ kX10_39 ?_
        refine xgetNR (ci := 9) (f := 2) hk dX10_claim_81 ⟨rfl, by decide, _, rfl, rfl⟩ kX10_332 ?_
        refine xiload hk dX10_claim_84 rfl ?_
        obtain ⟨hi86, h⟩ := og_some h
        refine xiald hk dX10_claim_86 rfl (inB_v hi86) ?_
        refine xbipush (v := 9) hk dX10_claim_87 (by decide) ?_
        refine xicmp_ne hk 103 dX10_claim_89 (by decide) (fun h89 => ?_) (fun h89 => ?_)
        · rw [if_neg h89] at h
          refine xiload_n hk dX10_claim_103 rfl ?_
          refine xiret hk he dX10_claim_104 ⟨by decide, by decide⟩ ?_
          obtain rfl := Option.some.inj h
          exact ⟨rfl, rfl⟩
        · rw [if_pos h89] at h
          refine xaload_n hk dX10_claim_92 rfl ?_
          refine xgetR (ci := 10) (f := 12) hk dX10_claim_93 ⟨rfl, by decide, _, rfl, rfl⟩ kX10_39 ?_
          refine xgetNR (ci := 9) (f := 4) hk dX10_claim_96 ⟨rfl, by decide, _, rfl, rfl⟩ kX10_340 ?_
          refine xiload hk dX10_claim_99 rfl ?_
          refine xiload_n hk dX10_claim_101 rfl ?_
          obtain ⟨hi102, h⟩ := og_some h
          refine xiast hk dX10_claim_102 rfl (inB_v hi102) ?_
          refine xiload_n hk dX10_claim_103 rfl ?_
          refine xiret hk he dX10_claim_104 ⟨by decide, by decide⟩ ?_
          obtain rfl := Option.some.inj h
          exact ⟨rfl, rfl⟩
  · rw [if_pos h25] at h
    refine xiconst (v := 1) hk dX10_claim_28 (by decide) ?_
    refine xgoto hk 33 dX10_claim_29 (by decide) ?_
    refine xiadd hk dX10_claim_33 ?_
    refine xistore_n hk dX10_claim_34 (by decide) ?_
    refine xaload_n hk dX10_claim_35 rfl ?_
    refine xgetR (ci := 10) (f := 12) hk dX10_claim_36 ⟨rfl, by decide, _, rfl, rfl⟩ kX10_39 ?_
    refine xgetNI (ci := 9) (f := 1) hk dX10_claim_39 ⟨rfl, by decide, _, rfl, rfl⟩ kX10_63 ?_
    refine xiconst (v := 1) hk dX10_claim_42 (by decide) ?_
    refine xisub hk dX10_claim_43 ?_
    refine xistore hk dX10_claim_44 (by decide) ?_
    refine xaload_n hk dX10_claim_46 rfl ?_
    refine xgetR (ci := 10) (f := 7) hk dX10_claim_47 ⟨rfl, by decide, _, rfl, rfl⟩ kX10_26 ?_
    refine xiload_n hk dX10_claim_50 rfl ?_
    obtain ⟨hi51, h⟩ := og_some h
    refine xiald hk dX10_claim_51 rfl (inB_v hi51) ?_
    refine xiconst (v := 3) hk dX10_claim_52 (by decide) ?_
    refine xicmp_ne hk 67 dX10_claim_53 (by decide) (fun h53 => ?_) (fun h53 => ?_)
    · rw [if_neg h53] at h
      refine xaload_n hk dX10_claim_67 rfl ?_
      refine xgetR (ci := 10) (f := 7) hk dX10_claim_68 ⟨rfl, by decide, _, rfl, rfl⟩ kX10_26 ?_
      refine xiload_n hk dX10_claim_71 rfl ?_
      obtain ⟨hi72, h⟩ := og_some h
      refine xiald hk dX10_claim_72 rfl (inB_v hi72) ?_
      refine xiconst (v := 4) hk dX10_claim_73 (by decide) ?_
      refine xicmp_eq hk 92 dX10_claim_74 (by decide) (fun h74 => ?_) (fun h74 => ?_)
      · rw [if_pos h74] at h
        refine xaload_n hk dX10_claim_92 rfl ?_
        refine xgetR (ci := 10) (f := 12) hk dX10_claim_93 ⟨rfl, by decide, _, rfl, rfl⟩ kX10_39 ?_
        refine xgetNR (ci := 9) (f := 4) hk dX10_claim_96 ⟨rfl, by decide, _, rfl, rfl⟩ kX10_340 ?_
        refine xiload hk dX10_claim_99 rfl ?_
        refine xiload_n hk dX10_claim_101 rfl ?_
        obtain ⟨hi102, h⟩ := og_some h
        refine xiast hk dX10_claim_102 rfl (inB_v hi102) ?_
        refine xiload_n hk dX10_claim_103 rfl ?_
        refine xiret hk he dX10_claim_104 ⟨by decide, by decide⟩ ?_
        obtain rfl := Option.some.inj h
        exact ⟨rfl, rfl⟩
      · rw [if_neg h74] at h
        refine xaload_n hk dX10_claim_77 rfl ?_
        refine xgetR (ci := 10) (f := 12) hk dX10_claim_78 ⟨rfl, by decide, _, rfl, rfl⟩ kX10_39 ?_
        refine xgetNR (ci := 9) (f := 2) hk dX10_claim_81 ⟨rfl, by decide, _, rfl, rfl⟩ kX10_332 ?_
        refine xiload hk dX10_claim_84 rfl ?_
        obtain ⟨hi86, h⟩ := og_some h
        refine xiald hk dX10_claim_86 rfl (inB_v hi86) ?_
        refine xbipush (v := 9) hk dX10_claim_87 (by decide) ?_
        refine xicmp_ne hk 103 dX10_claim_89 (by decide) (fun h89 => ?_) (fun h89 => ?_)
        · rw [if_neg h89] at h
          refine xiload_n hk dX10_claim_103 rfl ?_
          refine xiret hk he dX10_claim_104 ⟨by decide, by decide⟩ ?_
          obtain rfl := Option.some.inj h
          exact ⟨rfl, rfl⟩
        · rw [if_pos h89] at h
          refine xaload_n hk dX10_claim_92 rfl ?_
          refine xgetR (ci := 10) (f := 12) hk dX10_claim_93 ⟨rfl, by decide, _, rfl, rfl⟩ kX10_39 ?_
          refine xgetNR (ci := 9) (f := 4) hk dX10_claim_96 ⟨rfl, by decide, _, rfl, rfl⟩ kX10_340 ?_
          refine xiload hk dX10_claim_99 rfl ?_
          refine xiload_n hk dX10_claim_101 rfl ?_
          obtain ⟨hi102, h⟩ := og_some h
          refine xiast hk dX10_claim_102 rfl (inB_v hi102) ?_
          refine xiload_n hk dX10_claim_103 rfl ?_
          refine xiret hk he dX10_claim_104 ⟨by decide, by decide⟩ ?_
          obtain rfl := Option.some.inj h
          exact ⟨rfl, rfl⟩
    · rw [if_pos h53] at h
      refine xaload_n hk dX10_claim_56 rfl ?_
      refine xgetR (ci := 10) (f := 12) hk dX10_claim_57 ⟨rfl, by decide, _, rfl, rfl⟩ kX10_39 ?_
      refine xgetNR (ci := 9) (f := 3) hk dX10_claim_60 ⟨rfl, by decide, _, rfl, rfl⟩ kX10_337 ?_
      refine xiload hk dX10_claim_63 rfl ?_
      refine xiload_n hk dX10_claim_65 rfl ?_
      obtain ⟨hi66, h⟩ := og_some h
      refine xiast hk dX10_claim_66 rfl (inB_v hi66) ?_
      refine xaload_n hk dX10_claim_67 rfl ?_
      refine xgetR (ci := 10) (f := 7) hk dX10_claim_68 ⟨rfl, by decide, _, rfl, rfl⟩ kX10_26 ?_
      refine xiload_n hk dX10_claim_71 rfl ?_
      obtain ⟨hi72, h⟩ := og_some h
      refine xiald hk dX10_claim_72 rfl (inB_v hi72) ?_
      refine xiconst (v := 4) hk dX10_claim_73 (by decide) ?_
      refine xicmp_eq hk 92 dX10_claim_74 (by decide) (fun h74 => ?_) (fun h74 => ?_)
      · rw [if_pos h74] at h
        refine xaload_n hk dX10_claim_92 rfl ?_
        refine xgetR (ci := 10) (f := 12) hk dX10_claim_93 ⟨rfl, by decide, _, rfl, rfl⟩ kX10_39 ?_
        refine xgetNR (ci := 9) (f := 4) hk dX10_claim_96 ⟨rfl, by decide, _, rfl, rfl⟩ kX10_340 ?_
        refine xiload hk dX10_claim_99 rfl ?_
        refine xiload_n hk dX10_claim_101 rfl ?_
        obtain ⟨hi102, h⟩ := og_some h
        refine xiast hk dX10_claim_102 rfl (inB_v hi102) ?_
        refine xiload_n hk dX10_claim_103 rfl ?_
        refine xiret hk he dX10_claim_104 ⟨by decide, by decide⟩ ?_
        obtain rfl := Option.some.inj h
        exact ⟨rfl, rfl⟩
      · rw [if_neg h74] at h
        refine xaload_n hk dX10_claim_77 rfl ?_
        refine xgetR (ci := 10) (f := 12) hk dX10_claim_78 ⟨rfl, by decide, _, rfl, rfl⟩ kX10_39 ?_
        refine xgetNR (ci := 9) (f := 2) hk dX10_claim_81 ⟨rfl, by decide, _, rfl, rfl⟩ kX10_332 ?_
        refine xiload hk dX10_claim_84 rfl ?_
        obtain ⟨hi86, h⟩ := og_some h
        refine xiald hk dX10_claim_86 rfl (inB_v hi86) ?_
        refine xbipush (v := 9) hk dX10_claim_87 (by decide) ?_
        refine xicmp_ne hk 103 dX10_claim_89 (by decide) (fun h89 => ?_) (fun h89 => ?_)
        · rw [if_neg h89] at h
          refine xiload_n hk dX10_claim_103 rfl ?_
          refine xiret hk he dX10_claim_104 ⟨by decide, by decide⟩ ?_
          obtain rfl := Option.some.inj h
          exact ⟨rfl, rfl⟩
        · rw [if_pos h89] at h
          refine xaload_n hk dX10_claim_92 rfl ?_
          refine xgetR (ci := 10) (f := 12) hk dX10_claim_93 ⟨rfl, by decide, _, rfl, rfl⟩ kX10_39 ?_
          refine xgetNR (ci := 9) (f := 4) hk dX10_claim_96 ⟨rfl, by decide, _, rfl, rfl⟩ kX10_340 ?_
          refine xiload hk dX10_claim_99 rfl ?_
          refine xiload_n hk dX10_claim_101 rfl ?_
          obtain ⟨hi102, h⟩ := og_some h
          refine xiast hk dX10_claim_102 rfl (inB_v hi102) ?_
          refine xiload_n hk dX10_claim_103 rfl ?_
          refine xiret hk he dX10_claim_104 ⟨by decide, by decide⟩ ?_
          obtain rfl := Option.some.inj h
          exact ⟨rfl, rfl⟩

def f_X10_newOrder  (p : Int32) (x : XS) : Option (Int32 × XS) := (if (x.1 21 5) = 16 then some (4, x) else og (inB (x.1 21 5) 16) (some (0, (setI (setI x 25 ((x.1 21 5) : Int32).toNatClampNeg p) 21 5 (((setI x 25 ((x.1 21 5) : Int32).toNatClampNeg p).1 21 5) + 1)))))

set_option maxHeartbeats 4000000 in
set_option maxRecDepth 100000 in
theorem c_X10_newOrder {g : Gx} {a : Nat → Nat} {x : XS}   {p : Int32} {u : Int32 × XS}  (h : f_X10_newOrder  p x = some u) : Mx g yX10_newOrder cX10_newOrder 2 (some .int) 1 0 0 LM2 a x [.ref (a 0), .int p] (pr (some (.int u.1)) u.2) := by
  refine Mx_of (by decide +kernel) (Nat.le_of_ble_eq_true rfl) ?_
  intro k hk he hg
  subst hg
  rw [f_X10_newOrder] at h
  refine xaload_n hk dX10_newOrder_0 rfl ?_
  refine xgetR (ci := 10) (f := 12) hk dX10_newOrder_1 ⟨rfl, by decide, _, rfl, rfl⟩ kX10_39 ?_
  refine xgetNI (ci := 9) (f := 5) hk dX10_newOrder_4 ⟨rfl, by decide, _, rfl, rfl⟩ kX10_150 ?_
  refine xbipush (v := 16) hk dX10_newOrder_7 (by decide) ?_
  refine xicmp_ne hk 14 dX10_newOrder_9 (by decide) (fun h9 => ?_) (fun h9 => ?_)
  · rw [if_neg h9] at h
    refine xaload_n hk dX10_newOrder_14 rfl ?_
    refine xgetR (ci := 10) (f := 12) hk dX10_newOrder_15 ⟨rfl, by decide, _, rfl, rfl⟩ kX10_39 ?_
    refine xgetNR (ci := 9) (f := 7) hk dX10_newOrder_18 ⟨rfl, by decide, _, rfl, rfl⟩ kX10_137 ?_
    refine xaload_n hk dX10_newOrder_21 rfl ?_
    refine xgetR (ci := 10) (f := 12) hk dX10_newOrder_22 ⟨rfl, by decide, _, rfl, rfl⟩ kX10_39 ?_
    refine xgetNI (ci := 9) (f := 5) hk dX10_newOrder_25 ⟨rfl, by decide, _, rfl, rfl⟩ kX10_150 ?_
    refine xiload_n hk dX10_newOrder_28 rfl ?_
    obtain ⟨hi29, h⟩ := og_some h
    refine xiast hk dX10_newOrder_29 rfl (inB_v hi29) ?_
    refine xaload_n hk dX10_newOrder_30 rfl ?_
    refine xgetR (ci := 10) (f := 12) hk dX10_newOrder_31 ⟨rfl, by decide, _, rfl, rfl⟩ kX10_39 ?_
    refine xdup hk dX10_newOrder_34 rfl ?_
    refine xgetNI (ci := 9) (f := 5) hk dX10_newOrder_35 ⟨rfl, by decide, _, rfl, rfl⟩ kX10_150 ?_
    refine xiconst (v := 1) hk dX10_newOrder_38 (by decide) ?_
    refine xiadd hk dX10_newOrder_39 ?_
    refine xputIN (ci := 9) (f := 5) hk dX10_newOrder_40 ⟨rfl, by decide, _, rfl, rfl⟩ kX10_150 ⟨rfl, by decide +kernel⟩ ?_
    refine xiconst (v := 0) hk dX10_newOrder_43 (by decide) ?_
    refine xiret hk he dX10_newOrder_44 ⟨by decide, by decide⟩ ?_
    obtain rfl := Option.some.inj h
    exact ⟨rfl, rfl⟩
  · rw [if_pos h9] at h
    refine xiconst (v := 4) hk dX10_newOrder_12 (by decide) ?_
    refine xiret hk he dX10_newOrder_13 ⟨by decide, by decide⟩ ?_
    obtain rfl := Option.some.inj h
    exact ⟨rfl, rfl⟩

def f_X10_ofOrder  (p : Int32) (x : XS) : Option (Int32 × XS) := ob (f_X10_look_ p 2 x) (fun u3 => og (inB p 401) (og (inB ((u3.2.1 21 5) - 1) 16) (some (u3.1, (setI u3.2 26 (((u3.2.1 21 5) - 1) : Int32).toNatClampNeg (u3.2.1 6 (p : Int32).toNatClampNeg))))))

set_option maxHeartbeats 4000000 in
set_option maxRecDepth 100000 in
theorem c_X10_ofOrder {g : Gx} {a : Nat → Nat} {x : XS}   {p : Int32} {u : Int32 × XS}  (h : f_X10_ofOrder  p x = some u) : Mx g yX10_ofOrder cX10_ofOrder 3 (some .int) 4 0 0 LM2 a x [.ref (a 0), .int p] (pr (some (.int u.1)) u.2) := by
  refine Mx_of (by decide +kernel) (Nat.le_of_ble_eq_true rfl) ?_
  intro k hk he hg
  subst hg
  rw [f_X10_ofOrder] at h
  refine xaload_n hk dX10_ofOrder_0 rfl ?_
  refine xiload_n hk dX10_ofOrder_1 rfl ?_
  refine xiconst (v := 2) hk dX10_ofOrder_2 (by decide) ?_
  obtain ⟨u3, e3, h⟩ := ob_some h
  refine xcallV hk (c_X10_look_ e3) bX10_look_ kX10_335 dX10_ofOrder_3 rfl ⟨_, _, _, _, rfl, rfl⟩ rfl (by first | decide | omega) ⟨by decide, by decide⟩ (Nat.le_of_ble_eq_true rfl) (det ?_)
  refine xistore_n hk dX10_ofOrder_6 (by decide) ?_
  refine xaload_n hk dX10_ofOrder_7 rfl ?_
  refine xgetR (ci := 10) (f := 12) hk dX10_ofOrder_8 ⟨rfl, by decide, _, rfl, rfl⟩ kX10_39 ?_
  refine xgetNR (ci := 9) (f := 8) hk dX10_ofOrder_11 ⟨rfl, by decide, _, rfl, rfl⟩ kX10_134 ?_
  refine xaload_n hk dX10_ofOrder_14 rfl ?_
  refine xgetR (ci := 10) (f := 12) hk dX10_ofOrder_15 ⟨rfl, by decide, _, rfl, rfl⟩ kX10_39 ?_
  refine xgetNI (ci := 9) (f := 5) hk dX10_ofOrder_18 ⟨rfl, by decide, _, rfl, rfl⟩ kX10_150 ?_
  refine xiconst (v := 1) hk dX10_ofOrder_21 (by decide) ?_
  refine xisub hk dX10_ofOrder_22 ?_
  refine xaload_n hk dX10_ofOrder_23 rfl ?_
  refine xgetR (ci := 10) (f := 8) hk dX10_ofOrder_24 ⟨rfl, by decide, _, rfl, rfl⟩ kX10_29 ?_
  refine xiload_n hk dX10_ofOrder_27 rfl ?_
  obtain ⟨hi28, h⟩ := og_some h
  refine xiald hk dX10_ofOrder_28 rfl (inB_v hi28) ?_
  obtain ⟨hi29, h⟩ := og_some h
  refine xiast hk dX10_ofOrder_29 rfl (inB_v hi29) ?_
  refine xiload_n hk dX10_ofOrder_30 rfl ?_
  refine xiret hk he dX10_ofOrder_31 ⟨by decide, by decide⟩ ?_
  obtain rfl := Option.some.inj h
  exact ⟨rfl, rfl⟩

def f_X10_errorOf  (p : Int32) (x : XS) : Option (Int32 × XS) := og (inB p 401) ((if (x.1 5 (p : Int32).toNatClampNeg) = 1 then ob (f_X10_newFamily p x) (fun u54 => some (u54.1, u54.2)) else (if (x.1 5 (p : Int32).toNatClampNeg) = 2 then ob (f_X10_newStatement p x) (fun u60 => some (u60.1, u60.2)) else (if (x.1 5 (p : Int32).toNatClampNeg) = 3 then ob (f_X10_claim p x) (fun u66 => some (u66.1, u66.2)) else (if (x.1 5 (p : Int32).toNatClampNeg) = 4 then ob (f_X10_claim p x) (fun u66 => some (u66.1, u66.2)) else (if (x.1 5 (p : Int32).toNatClampNeg) = 5 then og (inB p 401) (ob (f_X10_newOrder (x.1 2 (p : Int32).toNatClampNeg) x) (fun u77 => some (u77.1, u77.2))) else (if (x.1 5 (p : Int32).toNatClampNeg) = 6 then ob (f_X10_ofOrder p x) (fun u83 => some (u83.1, u83.2)) else (if (x.1 5 (p : Int32).toNatClampNeg) = 7 then ob (f_X10_look_ p 1 x) (fun u90 => some (u90.1, u90.2)) else (if (x.1 5 (p : Int32).toNatClampNeg) = 8 then ob (f_X10_look_ p 2 x) (fun u97 => some (u97.1, u97.2)) else some (0, x))))))))))

set_option maxHeartbeats 4000000 in
set_option maxRecDepth 100000 in
theorem c_X10_errorOf {g : Gx} {a : Nat → Nat} {x : XS}   {p : Int32} {u : Int32 × XS}  (h : f_X10_errorOf  p x = some u) : Mx g yX10_errorOf cX10_errorOf 2 (some .int) 5 0 0 LM2 a x [.ref (a 0), .int p] (pr (some (.int u.1)) u.2) := by
  refine Mx_of (by decide +kernel) (Nat.le_of_ble_eq_true rfl) ?_
  intro k hk he hg
  subst hg
  rw [f_X10_errorOf] at h
  refine xaload_n hk dX10_errorOf_0 rfl ?_
  refine xgetR (ci := 10) (f := 7) hk dX10_errorOf_1 ⟨rfl, by decide, _, rfl, rfl⟩ kX10_26 ?_
  refine xiload_n hk dX10_errorOf_4 rfl ?_
  obtain ⟨hi5, h⟩ := og_some h
  refine xiald hk dX10_errorOf_5 rfl (inB_v hi5) ?_
  by_cases hs6_1 : (x.1 5 (p : Int32).toNatClampNeg) = 1
  · rw [if_pos hs6_1] at h
    refine xtableIn hk 52 dX10_errorOf_6 (by rw [hs6_1]; decide +kernel) (by rw [hs6_1]; decide +kernel) (off := 46) (by rw [hs6_1]; decide +kernel) (by decide) ?_
    refine xaload_n hk dX10_errorOf_52 rfl ?_
    refine xiload_n hk dX10_errorOf_53 rfl ?_
    obtain ⟨u54, e54, h⟩ := ob_some h
    refine xcallV hk (c_X10_newFamily e54) bX10_newFamily kX10_343 dX10_errorOf_54 rfl ⟨_, _, _, _, rfl, rfl⟩ rfl (by first | decide | omega) ⟨by decide, by decide⟩ (Nat.le_of_ble_eq_true rfl) (det ?_)
    refine xiret hk he dX10_errorOf_57 ⟨by decide, by decide⟩ ?_
    obtain rfl := Option.some.inj h
    exact ⟨rfl, rfl⟩
  rw [if_neg hs6_1] at h
  by_cases hs6_2 : (x.1 5 (p : Int32).toNatClampNeg) = 2
  · rw [if_pos hs6_2] at h
    refine xtableIn hk 58 dX10_errorOf_6 (by rw [hs6_2]; decide +kernel) (by rw [hs6_2]; decide +kernel) (off := 52) (by rw [hs6_2]; decide +kernel) (by decide) ?_
    refine xaload_n hk dX10_errorOf_58 rfl ?_
    refine xiload_n hk dX10_errorOf_59 rfl ?_
    obtain ⟨u60, e60, h⟩ := ob_some h
    refine xcallV hk (c_X10_newStatement e60) bX10_newStatement kX10_346 dX10_errorOf_60 rfl ⟨_, _, _, _, rfl, rfl⟩ rfl (by first | decide | omega) ⟨by decide, by decide⟩ (Nat.le_of_ble_eq_true rfl) (det ?_)
    refine xiret hk he dX10_errorOf_63 ⟨by decide, by decide⟩ ?_
    obtain rfl := Option.some.inj h
    exact ⟨rfl, rfl⟩
  rw [if_neg hs6_2] at h
  by_cases hs6_3 : (x.1 5 (p : Int32).toNatClampNeg) = 3
  · rw [if_pos hs6_3] at h
    refine xtableIn hk 64 dX10_errorOf_6 (by rw [hs6_3]; decide +kernel) (by rw [hs6_3]; decide +kernel) (off := 58) (by rw [hs6_3]; decide +kernel) (by decide) ?_
    refine xaload_n hk dX10_errorOf_64 rfl ?_
    refine xiload_n hk dX10_errorOf_65 rfl ?_
    obtain ⟨u66, e66, h⟩ := ob_some h
    refine xcallV hk (c_X10_claim e66) bX10_claim kX10_349 dX10_errorOf_66 rfl ⟨_, _, _, _, rfl, rfl⟩ rfl (by first | decide | omega) ⟨by decide, by decide⟩ (Nat.le_of_ble_eq_true rfl) (det ?_)
    refine xiret hk he dX10_errorOf_69 ⟨by decide, by decide⟩ ?_
    obtain rfl := Option.some.inj h
    exact ⟨rfl, rfl⟩
  rw [if_neg hs6_3] at h
  by_cases hs6_4 : (x.1 5 (p : Int32).toNatClampNeg) = 4
  · rw [if_pos hs6_4] at h
    refine xtableIn hk 64 dX10_errorOf_6 (by rw [hs6_4]; decide +kernel) (by rw [hs6_4]; decide +kernel) (off := 58) (by rw [hs6_4]; decide +kernel) (by decide) ?_
    refine xaload_n hk dX10_errorOf_64 rfl ?_
    refine xiload_n hk dX10_errorOf_65 rfl ?_
    obtain ⟨u66, e66, h⟩ := ob_some h
    refine xcallV hk (c_X10_claim e66) bX10_claim kX10_349 dX10_errorOf_66 rfl ⟨_, _, _, _, rfl, rfl⟩ rfl (by first | decide | omega) ⟨by decide, by decide⟩ (Nat.le_of_ble_eq_true rfl) (det ?_)
    refine xiret hk he dX10_errorOf_69 ⟨by decide, by decide⟩ ?_
    obtain rfl := Option.some.inj h
    exact ⟨rfl, rfl⟩
  rw [if_neg hs6_4] at h
  by_cases hs6_5 : (x.1 5 (p : Int32).toNatClampNeg) = 5
  · rw [if_pos hs6_5] at h
    refine xtableIn hk 70 dX10_errorOf_6 (by rw [hs6_5]; decide +kernel) (by rw [hs6_5]; decide +kernel) (off := 64) (by rw [hs6_5]; decide +kernel) (by decide) ?_
    refine xaload_n hk dX10_errorOf_70 rfl ?_
    refine xaload_n hk dX10_errorOf_71 rfl ?_
    refine xgetR (ci := 10) (f := 4) hk dX10_errorOf_72 ⟨rfl, by decide, _, rfl, rfl⟩ kX10_17 ?_
    refine xiload_n hk dX10_errorOf_75 rfl ?_
    obtain ⟨hi76, h⟩ := og_some h
    refine xiald hk dX10_errorOf_76 rfl (inB_v hi76) ?_
    obtain ⟨u77, e77, h⟩ := ob_some h
    refine xcallV hk (c_X10_newOrder e77) bX10_newOrder kX10_352 dX10_errorOf_77 rfl ⟨_, _, _, _, rfl, rfl⟩ rfl (by first | decide | omega) ⟨by decide, by decide⟩ (Nat.le_of_ble_eq_true rfl) (det ?_)
    refine xiret hk he dX10_errorOf_80 ⟨by decide, by decide⟩ ?_
    obtain rfl := Option.some.inj h
    exact ⟨rfl, rfl⟩
  rw [if_neg hs6_5] at h
  by_cases hs6_6 : (x.1 5 (p : Int32).toNatClampNeg) = 6
  · rw [if_pos hs6_6] at h
    refine xtableIn hk 81 dX10_errorOf_6 (by rw [hs6_6]; decide +kernel) (by rw [hs6_6]; decide +kernel) (off := 75) (by rw [hs6_6]; decide +kernel) (by decide) ?_
    refine xaload_n hk dX10_errorOf_81 rfl ?_
    refine xiload_n hk dX10_errorOf_82 rfl ?_
    obtain ⟨u83, e83, h⟩ := ob_some h
    refine xcallV hk (c_X10_ofOrder e83) bX10_ofOrder kX10_355 dX10_errorOf_83 rfl ⟨_, _, _, _, rfl, rfl⟩ rfl (by first | decide | omega) ⟨by decide, by decide⟩ (Nat.le_of_ble_eq_true rfl) (det ?_)
    refine xiret hk he dX10_errorOf_86 ⟨by decide, by decide⟩ ?_
    obtain rfl := Option.some.inj h
    exact ⟨rfl, rfl⟩
  rw [if_neg hs6_6] at h
  by_cases hs6_7 : (x.1 5 (p : Int32).toNatClampNeg) = 7
  · rw [if_pos hs6_7] at h
    refine xtableIn hk 87 dX10_errorOf_6 (by rw [hs6_7]; decide +kernel) (by rw [hs6_7]; decide +kernel) (off := 81) (by rw [hs6_7]; decide +kernel) (by decide) ?_
    refine xaload_n hk dX10_errorOf_87 rfl ?_
    refine xiload_n hk dX10_errorOf_88 rfl ?_
    refine xiconst (v := 1) hk dX10_errorOf_89 (by decide) ?_
    obtain ⟨u90, e90, h⟩ := ob_some h
    refine xcallV hk (c_X10_look_ e90) bX10_look_ kX10_335 dX10_errorOf_90 rfl ⟨_, _, _, _, rfl, rfl⟩ rfl (by first | decide | omega) ⟨by decide, by decide⟩ (Nat.le_of_ble_eq_true rfl) (det ?_)
    refine xiret hk he dX10_errorOf_93 ⟨by decide, by decide⟩ ?_
    obtain rfl := Option.some.inj h
    exact ⟨rfl, rfl⟩
  rw [if_neg hs6_7] at h
  by_cases hs6_8 : (x.1 5 (p : Int32).toNatClampNeg) = 8
  · rw [if_pos hs6_8] at h
    refine xtableIn hk 94 dX10_errorOf_6 (by rw [hs6_8]; decide +kernel) (by rw [hs6_8]; decide +kernel) (off := 88) (by rw [hs6_8]; decide +kernel) (by decide) ?_
    refine xaload_n hk dX10_errorOf_94 rfl ?_
    refine xiload_n hk dX10_errorOf_95 rfl ?_
    refine xiconst (v := 2) hk dX10_errorOf_96 (by decide) ?_
    obtain ⟨u97, e97, h⟩ := ob_some h
    refine xcallV hk (c_X10_look_ e97) bX10_look_ kX10_335 dX10_errorOf_97 rfl ⟨_, _, _, _, rfl, rfl⟩ rfl (by first | decide | omega) ⟨by decide, by decide⟩ (Nat.le_of_ble_eq_true rfl) (det ?_)
    refine xiret hk he dX10_errorOf_100 ⟨by decide, by decide⟩ ?_
    obtain rfl := Option.some.inj h
    exact ⟨rfl, rfl⟩
  rw [if_neg hs6_8] at h
  by_cases ht6 : (Int32.toInt (x.1 5 (p : Int32).toNatClampNeg)) < 1 ∨ 8 < (Int32.toInt (x.1 5 (p : Int32).toNatClampNeg))
  · refine xtableOut hk 101 dX10_errorOf_6 ht6 (by decide) ?_
    refine xiconst (v := 0) hk dX10_errorOf_101 (by decide) ?_
    refine xiret hk he dX10_errorOf_102 ⟨by decide, by decide⟩ ?_
    obtain rfl := Option.some.inj h
    exact ⟨rfl, rfl⟩
  · refine xtableIn hk 101 dX10_errorOf_6 (fun z => ht6 (Or.inl z)) (fun z => ht6 (Or.inr z)) (off := 95) (tsw (n := 8) ht6 (by decide) [1, 2, 3, 4, 5, 6, 7, 8] (List.forall_mem_cons.mpr ⟨lv_neT hs6_1 (by decide), (List.forall_mem_cons.mpr ⟨lv_neT hs6_2 (by decide), (List.forall_mem_cons.mpr ⟨lv_neT hs6_3 (by decide), (List.forall_mem_cons.mpr ⟨lv_neT hs6_4 (by decide), (List.forall_mem_cons.mpr ⟨lv_neT hs6_5 (by decide), (List.forall_mem_cons.mpr ⟨lv_neT hs6_6 (by decide), (List.forall_mem_cons.mpr ⟨lv_neT hs6_7 (by decide), (List.forall_mem_cons.mpr ⟨lv_neT hs6_8 (by decide), (fun _ h => absurd h List.not_mem_nil)⟩)⟩)⟩)⟩)⟩)⟩)⟩)⟩) (by decide +kernel)) (by decide) ?_
    refine xiconst (v := 0) hk dX10_errorOf_101 (by decide) ?_
    refine xiret hk he dX10_errorOf_102 ⟨by decide, by decide⟩ ?_
    obtain rfl := Option.some.inj h
    exact ⟨rfl, rfl⟩

def f_X10_word_L32  (k2 : Int32 → Int32 → Int32 → XS → Option (Int32 × XS)) : Nat → Int32 → Int32 → Int32 → Int32 → Int32 → XS → Option (Int32 × XS)
  | 0, _, _, _, _, _, _ => none
  | n + 1, l1, l2, l3, l4, l5, x => (if l4 = 0 then (if l4 = 0 then (k2 l1 l2 (l3 + 1) x) else some (l3, x)) else (if l2 ≤ l5 then (if l4 = 0 then (k2 l1 l2 (l3 + 1) x) else some (l3, x)) else og (inB l3 27) (og (inB l5 (txB (l3 : Int32).toNatClampNeg).length) (og (inB (l1 + l5) 2000) ((if (chT (l3 : Int32).toNatClampNeg l5) = (x.1 1 ((l1 + l5) : Int32).toNatClampNeg) then (f_X10_word_L32  k2 n l1 l2 l3 1 (l5 + 1) x) else (f_X10_word_L32  k2 n l1 l2 l3 0 (l5 + 1) x)))))))
def f_X10_word_L2   : Nat → Int32 → Int32 → Int32 → XS → Option (Int32 × XS)
  | 0, _, _, _, _ => none
  | n + 1, l1, l2, l3, x => (if 27 ≤ l3 then some (40, x) else og (inB l3 27) ((if (lenT (l3 : Int32).toNatClampNeg) = l2 then (f_X10_word_L32  (f_X10_word_L2   n) 402 l1 l2 l3 1 0 x) else (f_X10_word_L32  (f_X10_word_L2   n) 402 l1 l2 l3 0 0 x))))
def f_X10_word  (p : Int32) (q : Int32) (x : XS) : Option (Int32 × XS) := (f_X10_word_L2   402 p q 0 x)

set_option maxHeartbeats 4000000 in
set_option maxRecDepth 100000 in
theorem c_X10_word {g : Gx} {a : Nat → Nat} {x : XS}   {p : Int32} {q : Int32} {u : Int32 × XS}  (h : f_X10_word  p q x = some u) : Mx g yX10_word cX10_word 6 (some .int) 5 0 0 LM2 a x [.ref (a 0), .int p, .int q] (pr (some (.int u.1)) u.2) := by
  refine Mx_of (by decide +kernel) (Nat.le_of_ble_eq_true rfl) ?_
  intro k hk he hg
  subst hg
  rw [f_X10_word] at h
  refine xiconst (v := 0) hk dX10_word_0 (by decide) ?_
  refine xistore_n hk dX10_word_1 (by decide) ?_
  have loop2 : ∀ (n2 : Nat) (l1 : Int32) (l2 : Int32) (l3 : Int32) (x : XS), f_X10_word_L2   n2 l1 l2 l3 x = some u → Wx k 0 0 LM2 a x 2 [(0, .ref (a 0)), (1, .int l1), (2, .int l2), (3, .int l3)] [] := by
    intro n2
    induction n2 with
    | zero => intro l1 l2 l3 x h; rw [f_X10_word_L2] at h; cases h
    | succ n2 ih2 =>
      intro l1 l2 l3 x h
      rw [f_X10_word_L2] at h
      refine xiload_n hk dX10_word_2 rfl ?_
      refine xgetsW hk dX10_word_3 kX10_222 ?_
      refine xwordsLen hk dX10_word_6 ?_
      refine xicmp_ge hk 91 dX10_word_7 (by decide) (fun h7 => ?_) (fun h7 => ?_)
      · rw [if_pos h7] at h
        refine xbipush (v := 40) hk dX10_word_91 (by decide) ?_
        refine xiret hk he dX10_word_93 ⟨by decide, by decide⟩ ?_
        obtain rfl := Option.some.inj h
        exact ⟨rfl, rfl⟩
      · rw [if_neg h7] at h
        refine xgetsW hk dX10_word_10 kX10_222 ?_
        refine xiload_n hk dX10_word_13 rfl ?_
        obtain ⟨hi14, h⟩ := og_some h
        refine xwordsGet hk dX10_word_14 (inB_v hi14) ?_
        refine xcallT hk (c_length (i := (l3 : Int32).toNatClampNeg) (Nat.lt_of_lt_of_le (inB_lt hi14 (by decide)) (by decide))) bJ0_length_8abf5 kX10_226 dX10_word_15 rfl (Nat.lt_of_lt_of_le (inB_lt hi14 (by decide)) (by decide)) rfl rfl (by first | decide | omega) ⟨by decide, by decide⟩ (Nat.le_of_ble_eq_true rfl) (det ?_)
        refine xiload_n hk dX10_word_18 rfl ?_
        refine xicmp_ne hk 26 dX10_word_19 (by decide) (fun h19 => ?_) (fun h19 => ?_)
        · rw [if_neg h19] at h
          refine xiconst (v := 0) hk dX10_word_26 (by decide) ?_
          refine xistore hk dX10_word_27 (by decide) ?_
          refine xiconst (v := 0) hk dX10_word_29 (by decide) ?_
          refine xistore hk dX10_word_30 (by decide) ?_
          have loop32 : ∀ (n32 : Nat) (l1 : Int32) (l2 : Int32) (l3 : Int32) (l4 : Int32) (l5 : Int32) (x : XS), f_X10_word_L32  (f_X10_word_L2   n2) n32 l1 l2 l3 l4 l5 x = some u → Wx k 0 0 LM2 a x 32 [(0, .ref (a 0)), (1, .int l1), (2, .int l2), (3, .int l3), (4, .int l4), (5, .int l5)] [] := by
            intro n32
            induction n32 with
            | zero => intro l1 l2 l3 l4 l5 x h; rw [f_X10_word_L32] at h; cases h
            | succ n32 ih32 =>
              intro l1 l2 l3 l4 l5 x h
              rw [f_X10_word_L32] at h
              refine xiload hk dX10_word_32 rfl ?_
              refine xif_eq hk 78 dX10_word_34 (by decide) (fun h34 => ?_) (fun h34 => ?_)
              · rw [if_pos h34] at h
                refine xiload hk dX10_word_78 rfl ?_
                refine xif_eq hk 85 dX10_word_80 (by decide) (fun h80 => ?_) (fun h80 => ?_)
                · rw [if_pos h80] at h
                  refine xiinc (v := (l3 + 1)) hk dX10_word_85 rfl (by decide) rfl ?_
                  refine xgoto hk 2 dX10_word_88 (by decide) ?_
                  refine xsub [(0, .ref (a 0)), (1, .int l1), (2, .int l2), (3, .int (l3 + 1))] rfl ?_
                  exact ih2 _ _ _ _ h
                · rw [if_neg h80] at h
                  refine xiload_n hk dX10_word_83 rfl ?_
                  refine xiret hk he dX10_word_84 ⟨by decide, by decide⟩ ?_
                  obtain rfl := Option.some.inj h
                  exact ⟨rfl, rfl⟩
              · rw [if_neg h34] at h
                refine xiload hk dX10_word_37 rfl ?_
                refine xiload_n hk dX10_word_39 rfl ?_
                refine xicmp_ge hk 78 dX10_word_40 (by decide) (fun h40 => ?_) (fun h40 => ?_)
                · rw [if_pos h40] at h
                  refine xiload hk dX10_word_78 rfl ?_
                  refine xif_eq hk 85 dX10_word_80 (by decide) (fun h80 => ?_) (fun h80 => ?_)
                  · rw [if_pos h80] at h
                    refine xiinc (v := (l3 + 1)) hk dX10_word_85 rfl (by decide) rfl ?_
                    refine xgoto hk 2 dX10_word_88 (by decide) ?_
                    refine xsub [(0, .ref (a 0)), (1, .int l1), (2, .int l2), (3, .int (l3 + 1))] rfl ?_
                    exact ih2 _ _ _ _ h
                  · rw [if_neg h80] at h
                    refine xiload_n hk dX10_word_83 rfl ?_
                    refine xiret hk he dX10_word_84 ⟨by decide, by decide⟩ ?_
                    obtain rfl := Option.some.inj h
                    exact ⟨rfl, rfl⟩
                · rw [if_neg h40] at h
                  refine xgetsW hk dX10_word_43 kX10_222 ?_
                  refine xiload_n hk dX10_word_46 rfl ?_
                  obtain ⟨hi47, h⟩ := og_some h
                  refine xwordsGet hk dX10_word_47 (inB_v hi47) ?_
                  refine xiload hk dX10_word_48 rfl ?_
                  obtain ⟨hi50, h⟩ := og_some h
                  refine xcallT hk (c_charAt (i := (l3 : Int32).toNatClampNeg) (Nat.lt_of_lt_of_le (inB_lt hi47 (by decide)) (by decide)) (inB_v hi50)) bJ0_charAt_5068e kX10_229 dX10_word_50 rfl (Nat.lt_of_lt_of_le (inB_lt hi47 (by decide)) (by decide)) rfl rfl (by first | decide | omega) ⟨by decide, by decide⟩ (Nat.le_of_ble_eq_true rfl) (det ?_)
                  refine xaload_n hk dX10_word_53 rfl ?_
                  refine xgetR (ci := 10) (f := 1) hk dX10_word_54 ⟨rfl, by decide, _, rfl, rfl⟩ kX10_9 ?_
                  refine xiload_n hk dX10_word_57 rfl ?_
                  refine xiload hk dX10_word_58 rfl ?_
                  refine xiadd hk dX10_word_60 ?_
                  obtain ⟨hi61, h⟩ := og_some h
                  refine xiald hk dX10_word_61 rfl (inB_v hi61) ?_
                  refine xicmp_ne hk 69 dX10_word_62 (by decide) (fun h62 => ?_) (fun h62 => ?_)
                  · rw [if_neg h62] at h
                    refine xiconst (v := 0) hk dX10_word_69 (by decide) ?_
                    refine xistore hk dX10_word_70 (by decide) ?_
                    refine xiinc (v := (l5 + 1)) hk dX10_word_72 rfl (by decide) rfl ?_
                    refine xgoto hk 32 dX10_word_75 (by decide) ?_
                    refine xsub [(0, .ref (a 0)), (1, .int l1), (2, .int l2), (3, .int l3), (4, .int 0), (5, .int (l5 + 1))] rfl ?_
                    exact ih32 _ _ _ _ _ _ h
                  · rw [if_pos h62] at h
                    refine xiconst (v := 1) hk dX10_word_65 (by decide) ?_
                    refine xgoto hk 70 dX10_word_66 (by decide) ?_
                    refine xistore hk dX10_word_70 (by decide) ?_
                    refine xiinc (v := (l5 + 1)) hk dX10_word_72 rfl (by decide) rfl ?_
                    refine xgoto hk 32 dX10_word_75 (by decide) ?_
                    refine xsub [(0, .ref (a 0)), (1, .int l1), (2, .int l2), (3, .int l3), (4, .int 1), (5, .int (l5 + 1))] rfl ?_
                    exact ih32 _ _ _ _ _ _ h
          refine xsub [(0, .ref (a 0)), (1, .int l1), (2, .int l2), (3, .int l3), (4, .int 0), (5, .int 0)] rfl ?_
          exact loop32 _ _ _ _ _ _ _ h
        · rw [if_pos h19] at h
          refine xiconst (v := 1) hk dX10_word_22 (by decide) ?_
          refine xgoto hk 27 dX10_word_23 (by decide) ?_
          refine xistore hk dX10_word_27 (by decide) ?_
          refine xiconst (v := 0) hk dX10_word_29 (by decide) ?_
          refine xistore hk dX10_word_30 (by decide) ?_
          have loop32 : ∀ (n32 : Nat) (l1 : Int32) (l2 : Int32) (l3 : Int32) (l4 : Int32) (l5 : Int32) (x : XS), f_X10_word_L32  (f_X10_word_L2   n2) n32 l1 l2 l3 l4 l5 x = some u → Wx k 0 0 LM2 a x 32 [(0, .ref (a 0)), (1, .int l1), (2, .int l2), (3, .int l3), (4, .int l4), (5, .int l5)] [] := by
            intro n32
            induction n32 with
            | zero => intro l1 l2 l3 l4 l5 x h; rw [f_X10_word_L32] at h; cases h
            | succ n32 ih32 =>
              intro l1 l2 l3 l4 l5 x h
              rw [f_X10_word_L32] at h
              refine xiload hk dX10_word_32 rfl ?_
              refine xif_eq hk 78 dX10_word_34 (by decide) (fun h34 => ?_) (fun h34 => ?_)
              · rw [if_pos h34] at h
                refine xiload hk dX10_word_78 rfl ?_
                refine xif_eq hk 85 dX10_word_80 (by decide) (fun h80 => ?_) (fun h80 => ?_)
                · rw [if_pos h80] at h
                  refine xiinc (v := (l3 + 1)) hk dX10_word_85 rfl (by decide) rfl ?_
                  refine xgoto hk 2 dX10_word_88 (by decide) ?_
                  refine xsub [(0, .ref (a 0)), (1, .int l1), (2, .int l2), (3, .int (l3 + 1))] rfl ?_
                  exact ih2 _ _ _ _ h
                · rw [if_neg h80] at h
                  refine xiload_n hk dX10_word_83 rfl ?_
                  refine xiret hk he dX10_word_84 ⟨by decide, by decide⟩ ?_
                  obtain rfl := Option.some.inj h
                  exact ⟨rfl, rfl⟩
              · rw [if_neg h34] at h
                refine xiload hk dX10_word_37 rfl ?_
                refine xiload_n hk dX10_word_39 rfl ?_
                refine xicmp_ge hk 78 dX10_word_40 (by decide) (fun h40 => ?_) (fun h40 => ?_)
                · rw [if_pos h40] at h
                  refine xiload hk dX10_word_78 rfl ?_
                  refine xif_eq hk 85 dX10_word_80 (by decide) (fun h80 => ?_) (fun h80 => ?_)
                  · rw [if_pos h80] at h
                    refine xiinc (v := (l3 + 1)) hk dX10_word_85 rfl (by decide) rfl ?_
                    refine xgoto hk 2 dX10_word_88 (by decide) ?_
                    refine xsub [(0, .ref (a 0)), (1, .int l1), (2, .int l2), (3, .int (l3 + 1))] rfl ?_
                    exact ih2 _ _ _ _ h
                  · rw [if_neg h80] at h
                    refine xiload_n hk dX10_word_83 rfl ?_
                    refine xiret hk he dX10_word_84 ⟨by decide, by decide⟩ ?_
                    obtain rfl := Option.some.inj h
                    exact ⟨rfl, rfl⟩
                · rw [if_neg h40] at h
                  refine xgetsW hk dX10_word_43 kX10_222 ?_
                  refine xiload_n hk dX10_word_46 rfl ?_
                  obtain ⟨hi47, h⟩ := og_some h
                  refine xwordsGet hk dX10_word_47 (inB_v hi47) ?_
                  refine xiload hk dX10_word_48 rfl ?_
                  obtain ⟨hi50, h⟩ := og_some h
                  refine xcallT hk (c_charAt (i := (l3 : Int32).toNatClampNeg) (Nat.lt_of_lt_of_le (inB_lt hi47 (by decide)) (by decide)) (inB_v hi50)) bJ0_charAt_5068e kX10_229 dX10_word_50 rfl (Nat.lt_of_lt_of_le (inB_lt hi47 (by decide)) (by decide)) rfl rfl (by first | decide | omega) ⟨by decide, by decide⟩ (Nat.le_of_ble_eq_true rfl) (det ?_)
                  refine xaload_n hk dX10_word_53 rfl ?_
                  refine xgetR (ci := 10) (f := 1) hk dX10_word_54 ⟨rfl, by decide, _, rfl, rfl⟩ kX10_9 ?_
                  refine xiload_n hk dX10_word_57 rfl ?_
                  refine xiload hk dX10_word_58 rfl ?_
                  refine xiadd hk dX10_word_60 ?_
                  obtain ⟨hi61, h⟩ := og_some h
                  refine xiald hk dX10_word_61 rfl (inB_v hi61) ?_
                  refine xicmp_ne hk 69 dX10_word_62 (by decide) (fun h62 => ?_) (fun h62 => ?_)
                  · rw [if_neg h62] at h
                    refine xiconst (v := 0) hk dX10_word_69 (by decide) ?_
                    refine xistore hk dX10_word_70 (by decide) ?_
                    refine xiinc (v := (l5 + 1)) hk dX10_word_72 rfl (by decide) rfl ?_
                    refine xgoto hk 32 dX10_word_75 (by decide) ?_
                    refine xsub [(0, .ref (a 0)), (1, .int l1), (2, .int l2), (3, .int l3), (4, .int 0), (5, .int (l5 + 1))] rfl ?_
                    exact ih32 _ _ _ _ _ _ h
                  · rw [if_pos h62] at h
                    refine xiconst (v := 1) hk dX10_word_65 (by decide) ?_
                    refine xgoto hk 70 dX10_word_66 (by decide) ?_
                    refine xistore hk dX10_word_70 (by decide) ?_
                    refine xiinc (v := (l5 + 1)) hk dX10_word_72 rfl (by decide) rfl ?_
                    refine xgoto hk 32 dX10_word_75 (by decide) ?_
                    refine xsub [(0, .ref (a 0)), (1, .int l1), (2, .int l2), (3, .int l3), (4, .int 1), (5, .int (l5 + 1))] rfl ?_
                    exact ih32 _ _ _ _ _ _ h
          refine xsub [(0, .ref (a 0)), (1, .int l1), (2, .int l2), (3, .int l3), (4, .int 1), (5, .int 0)] rfl ?_
          exact loop32 _ _ _ _ _ _ _ h
  refine xsub [(0, .ref (a 0)), (1, .int p), (2, .int q), (3, .int 0)] rfl ?_
  exact loop2 _ _ _ _ _ h

def f_X10_kindAt_L34   : Nat → Int32 → Int32 → Int32 → Int32 → XS → Option (Int32 × XS)
  | 0, _, _, _, _, _ => none
  | n + 1, l1, l2, l3, l4, x => ob (f_X10_byteOf l4 x) (fun u37 => ob (f_X10_isDigit u37.1 u37.2) (fun u40 => (if (b2i u40.1) = 0 then ob (f_X10_isLetter l3 u40.2) (fun u47 => (if (b2i u47.1) = 0 then og (inB l2 401) (ob (f_X10_isLetter l3 (setI u47.2 4 (l2 : Int32).toNatClampNeg (l4 - l1))) (fun u86 => (if (b2i u86.1) = 0 then (if (l4 - l1) ≤ 6 then ob (f_X10_isLetter l3 u86.2) (fun u107 => (if (b2i u107.1) = 0 then some (41, u107.2) else ob (f_X10_word l1 (l4 - l1) u107.2) (fun u119 => some (u119.1, u119.2)))) else some (901, u86.2)) else (if (l4 - l1) ≤ 10 then ob (f_X10_isLetter l3 u86.2) (fun u107 => (if (b2i u107.1) = 0 then some (41, u107.2) else ob (f_X10_word l1 (l4 - l1) u107.2) (fun u119 => some (u119.1, u119.2)))) else some (901, u86.2))))) else ob (f_X10_byteOf l4 u47.2) (fun u56 => ob (f_X10_isLetter u56.1 u56.2) (fun u59 => (if (b2i u59.1) = 0 then og (inB l2 401) (ob (f_X10_isLetter l3 (setI u59.2 4 (l2 : Int32).toNatClampNeg (l4 - l1))) (fun u86 => (if (b2i u86.1) = 0 then (if (l4 - l1) ≤ 6 then ob (f_X10_isLetter l3 u86.2) (fun u107 => (if (b2i u107.1) = 0 then some (41, u107.2) else ob (f_X10_word l1 (l4 - l1) u107.2) (fun u119 => some (u119.1, u119.2)))) else some (901, u86.2)) else (if (l4 - l1) ≤ 10 then ob (f_X10_isLetter l3 u86.2) (fun u107 => (if (b2i u107.1) = 0 then some (41, u107.2) else ob (f_X10_word l1 (l4 - l1) u107.2) (fun u119 => some (u119.1, u119.2)))) else some (901, u86.2))))) else (f_X10_kindAt_L34   n l1 l2 l3 (l4 + 1) u59.2)))))) else (f_X10_kindAt_L34   n l1 l2 l3 (l4 + 1) u40.2))))
def f_X10_kindAt  (p : Int32) (q : Int32) (x : XS) : Option (Int32 × XS) := ob (f_X10_byteOf p x) (fun u2 => (if u2.1 = (-1) then some (900, u2.2) else ob (f_X10_isLetter u2.1 u2.2) (fun u21 => (if (b2i u21.1) = 0 then ob (f_X10_isDigit u2.1 u21.2) (fun u28 => (if (b2i u28.1) = 0 then (if u2.1 = 60 then ob (f_X10_byteOf (p + 1) u28.2) (fun u143 => (if u143.1 = 61 then og (inB q 401) ((if u2.1 = 60 then some (300, (setI u143.2 4 (q : Int32).toNatClampNeg 2)) else some (301, (setI u143.2 4 (q : Int32).toNatClampNeg 2)))) else og (inB q 401) ((if u2.1 ≤ 0 then some (901, (setI u143.2 4 (q : Int32).toNatClampNeg 1)) else (if 128 ≤ u2.1 then some (901, (setI u143.2 4 (q : Int32).toNatClampNeg 1)) else (if (ixT 28 ((u2.1).toUInt32 % 65536).toInt32) < 0 then some (901, (setI u143.2 4 (q : Int32).toNatClampNeg 1)) else some ((50 + u2.1), (setI u143.2 4 (q : Int32).toNatClampNeg 1)))))))) else (if u2.1 = 62 then ob (f_X10_byteOf (p + 1) u28.2) (fun u143 => (if u143.1 = 61 then og (inB q 401) ((if u2.1 = 60 then some (300, (setI u143.2 4 (q : Int32).toNatClampNeg 2)) else some (301, (setI u143.2 4 (q : Int32).toNatClampNeg 2)))) else og (inB q 401) ((if u2.1 ≤ 0 then some (901, (setI u143.2 4 (q : Int32).toNatClampNeg 1)) else (if 128 ≤ u2.1 then some (901, (setI u143.2 4 (q : Int32).toNatClampNeg 1)) else (if (ixT 28 ((u2.1).toUInt32 % 65536).toInt32) < 0 then some (901, (setI u143.2 4 (q : Int32).toNatClampNeg 1)) else some ((50 + u2.1), (setI u143.2 4 (q : Int32).toNatClampNeg 1)))))))) else og (inB q 401) ((if u2.1 ≤ 0 then some (901, (setI u28.2 4 (q : Int32).toNatClampNeg 1)) else (if 128 ≤ u2.1 then some (901, (setI u28.2 4 (q : Int32).toNatClampNeg 1)) else (if (ixT 28 ((u2.1).toUInt32 % 65536).toInt32) < 0 then some (901, (setI u28.2 4 (q : Int32).toNatClampNeg 1)) else some ((50 + u2.1), (setI u28.2 4 (q : Int32).toNatClampNeg 1)))))))) else (f_X10_kindAt_L34   2100 p q u2.1 (p + 1) u28.2))) else (f_X10_kindAt_L34   2100 p q u2.1 (p + 1) u21.2)))))

set_option maxHeartbeats 4000000 in
set_option maxRecDepth 100000 in
theorem c_X10_kindAt {g : Gx} {a : Nat → Nat} {x : XS}   {p : Int32} {q : Int32} {u : Int32 × XS}  (h : f_X10_kindAt  p q x = some u) : Mx g yX10_kindAt cX10_kindAt 6 (some .int) 6 0 0 LM2 a x [.ref (a 0), .int p, .int q] (pr (some (.int u.1)) u.2) := by
  refine Mx_of (by decide +kernel) (Nat.le_of_ble_eq_true rfl) ?_
  intro k hk he hg
  subst hg
  rw [f_X10_kindAt] at h
  refine xaload_n hk dX10_kindAt_0 rfl ?_
  refine xiload_n hk dX10_kindAt_1 rfl ?_
  obtain ⟨u2, e2, h⟩ := ob_some h
  refine xcallV hk (c_X10_byteOf e2) bX10_byteOf kX10_203 dX10_kindAt_2 rfl ⟨_, _, _, _, rfl, rfl⟩ rfl (by first | decide | omega) ⟨by decide, by decide⟩ (Nat.le_of_ble_eq_true rfl) (det ?_)
  refine xistore_n hk dX10_kindAt_5 (by decide) ?_
  refine xiload_n hk dX10_kindAt_6 rfl ?_
  refine xiconst (v := 1) hk dX10_kindAt_7 (by decide) ?_
  refine xiadd hk dX10_kindAt_8 ?_
  refine xistore hk dX10_kindAt_9 (by decide) ?_
  refine xiload_n hk dX10_kindAt_11 rfl ?_
  refine xiconst (v := (-1)) hk dX10_kindAt_12 (by decide) ?_
  refine xicmp_ne hk 20 dX10_kindAt_13 (by decide) (fun h13 => ?_) (fun h13 => ?_)
  · rw [if_neg h13] at h
    refine xiload_n hk dX10_kindAt_20 rfl ?_
    obtain ⟨u21, e21, h⟩ := ob_some h
    refine xcallS hk (c_X10_isLetter e21) bX10_isLetter kX10_206 dX10_kindAt_21 rfl rfl (by first | decide | omega) ⟨by decide, by decide⟩ (Nat.le_of_ble_eq_true rfl) (det ?_)
    refine xif_ne hk 34 dX10_kindAt_24 (by decide) (fun h24 => ?_) (fun h24 => ?_)
    · rw [if_neg h24] at h
      have loop34 : ∀ (n34 : Nat) (l1 : Int32) (l2 : Int32) (l3 : Int32) (l4 : Int32) (x : XS), f_X10_kindAt_L34   n34 l1 l2 l3 l4 x = some u → Wx k 0 0 LM2 a x 34 [(0, .ref (a 0)), (1, .int l1), (2, .int l2), (3, .int l3), (4, .int l4)] [] := by
        intro n34
        induction n34 with
        | zero => intro l1 l2 l3 l4 x h; rw [f_X10_kindAt_L34] at h; cases h
        | succ n34 ih34 =>
          intro l1 l2 l3 l4 x h
          rw [f_X10_kindAt_L34] at h
          refine xaload_n hk dX10_kindAt_34 rfl ?_
          refine xiload hk dX10_kindAt_35 rfl ?_
          obtain ⟨u37, e37, h⟩ := ob_some h
          refine xcallV hk (c_X10_byteOf e37) bX10_byteOf kX10_203 dX10_kindAt_37 rfl ⟨_, _, _, _, rfl, rfl⟩ rfl (by first | decide | omega) ⟨by decide, by decide⟩ (Nat.le_of_ble_eq_true rfl) (det ?_)
          obtain ⟨u40, e40, h⟩ := ob_some h
          refine xcallS hk (c_X10_isDigit e40) bX10_isDigit kX10_209 dX10_kindAt_40 rfl rfl (by first | decide | omega) ⟨by decide, by decide⟩ (Nat.le_of_ble_eq_true rfl) (det ?_)
          refine xif_ne hk 65 dX10_kindAt_43 (by decide) (fun h43 => ?_) (fun h43 => ?_)
          · rw [if_neg h43] at h
            refine xiinc (v := (l4 + 1)) hk dX10_kindAt_65 rfl (by decide) rfl ?_
            refine xgoto hk 34 dX10_kindAt_68 (by decide) ?_
            refine xsub [(0, .ref (a 0)), (1, .int l1), (2, .int l2), (3, .int l3), (4, .int (l4 + 1))] rfl ?_
            exact ih34 _ _ _ _ _ h
          · rw [if_pos h43] at h
            refine xiload_n hk dX10_kindAt_46 rfl ?_
            obtain ⟨u47, e47, h⟩ := ob_some h
            refine xcallS hk (c_X10_isLetter e47) bX10_isLetter kX10_206 dX10_kindAt_47 rfl rfl (by first | decide | omega) ⟨by decide, by decide⟩ (Nat.le_of_ble_eq_true rfl) (det ?_)
            refine xif_eq hk 71 dX10_kindAt_50 (by decide) (fun h50 => ?_) (fun h50 => ?_)
            · rw [if_pos h50] at h
              refine xaload_n hk dX10_kindAt_71 rfl ?_
              refine xgetR (ci := 10) (f := 6) hk dX10_kindAt_72 ⟨rfl, by decide, _, rfl, rfl⟩ kX10_23 ?_
              refine xiload_n hk dX10_kindAt_75 rfl ?_
              refine xiload hk dX10_kindAt_76 rfl ?_
              refine xiload_n hk dX10_kindAt_78 rfl ?_
              refine xisub hk dX10_kindAt_79 ?_
              obtain ⟨hi80, h⟩ := og_some h
              refine xiast hk dX10_kindAt_80 rfl (inB_v hi80) ?_
              refine xiload hk dX10_kindAt_81 rfl ?_
              refine xiload_n hk dX10_kindAt_83 rfl ?_
              refine xisub hk dX10_kindAt_84 ?_
              refine xiload_n hk dX10_kindAt_85 rfl ?_
              obtain ⟨u86, e86, h⟩ := ob_some h
              refine xcallS hk (c_X10_isLetter e86) bX10_isLetter kX10_206 dX10_kindAt_86 rfl rfl (by first | decide | omega) ⟨by decide, by decide⟩ (Nat.le_of_ble_eq_true rfl) (det ?_)
              refine xif_eq hk 97 dX10_kindAt_89 (by decide) (fun h89 => ?_) (fun h89 => ?_)
              · rw [if_pos h89] at h
                refine xbipush (v := 6) hk dX10_kindAt_97 (by decide) ?_
                refine xicmp_le hk 106 dX10_kindAt_99 (by decide) (fun h99 => ?_) (fun h99 => ?_)
                · rw [if_pos h99] at h
                  refine xiload_n hk dX10_kindAt_106 rfl ?_
                  obtain ⟨u107, e107, h⟩ := ob_some h
                  refine xcallS hk (c_X10_isLetter e107) bX10_isLetter kX10_206 dX10_kindAt_107 rfl rfl (by first | decide | omega) ⟨by decide, by decide⟩ (Nat.le_of_ble_eq_true rfl) (det ?_)
                  refine xif_eq hk 125 dX10_kindAt_110 (by decide) (fun h110 => ?_) (fun h110 => ?_)
                  · rw [if_pos h110] at h
                    refine xbipush (v := 41) hk dX10_kindAt_125 (by decide) ?_
                    refine xiret hk he dX10_kindAt_127 ⟨by decide, by decide⟩ ?_
                    obtain rfl := Option.some.inj h
                    exact ⟨rfl, rfl⟩
                  · rw [if_neg h110] at h
                    refine xaload_n hk dX10_kindAt_113 rfl ?_
                    refine xiload_n hk dX10_kindAt_114 rfl ?_
                    refine xiload hk dX10_kindAt_115 rfl ?_
                    refine xiload_n hk dX10_kindAt_117 rfl ?_
                    refine xisub hk dX10_kindAt_118 ?_
                    obtain ⟨u119, e119, h⟩ := ob_some h
                    refine xcallV hk (c_X10_word e119) bX10_word kX10_212 dX10_kindAt_119 rfl ⟨_, _, _, _, rfl, rfl⟩ rfl (by first | decide | omega) ⟨by decide, by decide⟩ (Nat.le_of_ble_eq_true rfl) (det ?_)
                    refine xgoto hk 127 dX10_kindAt_122 (by decide) ?_
                    refine xiret hk he dX10_kindAt_127 ⟨by decide, by decide⟩ ?_
                    obtain rfl := Option.some.inj h
                    exact ⟨rfl, rfl⟩
                · rw [if_neg h99] at h
                  refine xsipush (v := 901) hk dX10_kindAt_102 (by decide) ?_
                  refine xiret hk he dX10_kindAt_105 ⟨by decide, by decide⟩ ?_
                  obtain rfl := Option.some.inj h
                  exact ⟨rfl, rfl⟩
              · rw [if_neg h89] at h
                refine xbipush (v := 10) hk dX10_kindAt_92 (by decide) ?_
                refine xgoto hk 99 dX10_kindAt_94 (by decide) ?_
                refine xicmp_le hk 106 dX10_kindAt_99 (by decide) (fun h99 => ?_) (fun h99 => ?_)
                · rw [if_pos h99] at h
                  refine xiload_n hk dX10_kindAt_106 rfl ?_
                  obtain ⟨u107, e107, h⟩ := ob_some h
                  refine xcallS hk (c_X10_isLetter e107) bX10_isLetter kX10_206 dX10_kindAt_107 rfl rfl (by first | decide | omega) ⟨by decide, by decide⟩ (Nat.le_of_ble_eq_true rfl) (det ?_)
                  refine xif_eq hk 125 dX10_kindAt_110 (by decide) (fun h110 => ?_) (fun h110 => ?_)
                  · rw [if_pos h110] at h
                    refine xbipush (v := 41) hk dX10_kindAt_125 (by decide) ?_
                    refine xiret hk he dX10_kindAt_127 ⟨by decide, by decide⟩ ?_
                    obtain rfl := Option.some.inj h
                    exact ⟨rfl, rfl⟩
                  · rw [if_neg h110] at h
                    refine xaload_n hk dX10_kindAt_113 rfl ?_
                    refine xiload_n hk dX10_kindAt_114 rfl ?_
                    refine xiload hk dX10_kindAt_115 rfl ?_
                    refine xiload_n hk dX10_kindAt_117 rfl ?_
                    refine xisub hk dX10_kindAt_118 ?_
                    obtain ⟨u119, e119, h⟩ := ob_some h
                    refine xcallV hk (c_X10_word e119) bX10_word kX10_212 dX10_kindAt_119 rfl ⟨_, _, _, _, rfl, rfl⟩ rfl (by first | decide | omega) ⟨by decide, by decide⟩ (Nat.le_of_ble_eq_true rfl) (det ?_)
                    refine xgoto hk 127 dX10_kindAt_122 (by decide) ?_
                    refine xiret hk he dX10_kindAt_127 ⟨by decide, by decide⟩ ?_
                    obtain rfl := Option.some.inj h
                    exact ⟨rfl, rfl⟩
                · rw [if_neg h99] at h
                  refine xsipush (v := 901) hk dX10_kindAt_102 (by decide) ?_
                  refine xiret hk he dX10_kindAt_105 ⟨by decide, by decide⟩ ?_
                  obtain rfl := Option.some.inj h
                  exact ⟨rfl, rfl⟩
            · rw [if_neg h50] at h
              refine xaload_n hk dX10_kindAt_53 rfl ?_
              refine xiload hk dX10_kindAt_54 rfl ?_
              obtain ⟨u56, e56, h⟩ := ob_some h
              refine xcallV hk (c_X10_byteOf e56) bX10_byteOf kX10_203 dX10_kindAt_56 rfl ⟨_, _, _, _, rfl, rfl⟩ rfl (by first | decide | omega) ⟨by decide, by decide⟩ (Nat.le_of_ble_eq_true rfl) (det ?_)
              obtain ⟨u59, e59, h⟩ := ob_some h
              refine xcallS hk (c_X10_isLetter e59) bX10_isLetter kX10_206 dX10_kindAt_59 rfl rfl (by first | decide | omega) ⟨by decide, by decide⟩ (Nat.le_of_ble_eq_true rfl) (det ?_)
              refine xif_eq hk 71 dX10_kindAt_62 (by decide) (fun h62 => ?_) (fun h62 => ?_)
              · rw [if_pos h62] at h
                refine xaload_n hk dX10_kindAt_71 rfl ?_
                refine xgetR (ci := 10) (f := 6) hk dX10_kindAt_72 ⟨rfl, by decide, _, rfl, rfl⟩ kX10_23 ?_
                refine xiload_n hk dX10_kindAt_75 rfl ?_
                refine xiload hk dX10_kindAt_76 rfl ?_
                refine xiload_n hk dX10_kindAt_78 rfl ?_
                refine xisub hk dX10_kindAt_79 ?_
                obtain ⟨hi80, h⟩ := og_some h
                refine xiast hk dX10_kindAt_80 rfl (inB_v hi80) ?_
                refine xiload hk dX10_kindAt_81 rfl ?_
                refine xiload_n hk dX10_kindAt_83 rfl ?_
                refine xisub hk dX10_kindAt_84 ?_
                refine xiload_n hk dX10_kindAt_85 rfl ?_
                obtain ⟨u86, e86, h⟩ := ob_some h
                refine xcallS hk (c_X10_isLetter e86) bX10_isLetter kX10_206 dX10_kindAt_86 rfl rfl (by first | decide | omega) ⟨by decide, by decide⟩ (Nat.le_of_ble_eq_true rfl) (det ?_)
                refine xif_eq hk 97 dX10_kindAt_89 (by decide) (fun h89 => ?_) (fun h89 => ?_)
                · rw [if_pos h89] at h
                  refine xbipush (v := 6) hk dX10_kindAt_97 (by decide) ?_
                  refine xicmp_le hk 106 dX10_kindAt_99 (by decide) (fun h99 => ?_) (fun h99 => ?_)
                  · rw [if_pos h99] at h
                    refine xiload_n hk dX10_kindAt_106 rfl ?_
                    obtain ⟨u107, e107, h⟩ := ob_some h
                    refine xcallS hk (c_X10_isLetter e107) bX10_isLetter kX10_206 dX10_kindAt_107 rfl rfl (by first | decide | omega) ⟨by decide, by decide⟩ (Nat.le_of_ble_eq_true rfl) (det ?_)
                    refine xif_eq hk 125 dX10_kindAt_110 (by decide) (fun h110 => ?_) (fun h110 => ?_)
                    · rw [if_pos h110] at h
                      refine xbipush (v := 41) hk dX10_kindAt_125 (by decide) ?_
                      refine xiret hk he dX10_kindAt_127 ⟨by decide, by decide⟩ ?_
                      obtain rfl := Option.some.inj h
                      exact ⟨rfl, rfl⟩
                    · rw [if_neg h110] at h
                      refine xaload_n hk dX10_kindAt_113 rfl ?_
                      refine xiload_n hk dX10_kindAt_114 rfl ?_
                      refine xiload hk dX10_kindAt_115 rfl ?_
                      refine xiload_n hk dX10_kindAt_117 rfl ?_
                      refine xisub hk dX10_kindAt_118 ?_
                      obtain ⟨u119, e119, h⟩ := ob_some h
                      refine xcallV hk (c_X10_word e119) bX10_word kX10_212 dX10_kindAt_119 rfl ⟨_, _, _, _, rfl, rfl⟩ rfl (by first | decide | omega) ⟨by decide, by decide⟩ (Nat.le_of_ble_eq_true rfl) (det ?_)
                      refine xgoto hk 127 dX10_kindAt_122 (by decide) ?_
                      refine xiret hk he dX10_kindAt_127 ⟨by decide, by decide⟩ ?_
                      obtain rfl := Option.some.inj h
                      exact ⟨rfl, rfl⟩
                  · rw [if_neg h99] at h
                    refine xsipush (v := 901) hk dX10_kindAt_102 (by decide) ?_
                    refine xiret hk he dX10_kindAt_105 ⟨by decide, by decide⟩ ?_
                    obtain rfl := Option.some.inj h
                    exact ⟨rfl, rfl⟩
                · rw [if_neg h89] at h
                  refine xbipush (v := 10) hk dX10_kindAt_92 (by decide) ?_
                  refine xgoto hk 99 dX10_kindAt_94 (by decide) ?_
                  refine xicmp_le hk 106 dX10_kindAt_99 (by decide) (fun h99 => ?_) (fun h99 => ?_)
                  · rw [if_pos h99] at h
                    refine xiload_n hk dX10_kindAt_106 rfl ?_
                    obtain ⟨u107, e107, h⟩ := ob_some h
                    refine xcallS hk (c_X10_isLetter e107) bX10_isLetter kX10_206 dX10_kindAt_107 rfl rfl (by first | decide | omega) ⟨by decide, by decide⟩ (Nat.le_of_ble_eq_true rfl) (det ?_)
                    refine xif_eq hk 125 dX10_kindAt_110 (by decide) (fun h110 => ?_) (fun h110 => ?_)
                    · rw [if_pos h110] at h
                      refine xbipush (v := 41) hk dX10_kindAt_125 (by decide) ?_
                      refine xiret hk he dX10_kindAt_127 ⟨by decide, by decide⟩ ?_
                      obtain rfl := Option.some.inj h
                      exact ⟨rfl, rfl⟩
                    · rw [if_neg h110] at h
                      refine xaload_n hk dX10_kindAt_113 rfl ?_
                      refine xiload_n hk dX10_kindAt_114 rfl ?_
                      refine xiload hk dX10_kindAt_115 rfl ?_
                      refine xiload_n hk dX10_kindAt_117 rfl ?_
                      refine xisub hk dX10_kindAt_118 ?_
                      obtain ⟨u119, e119, h⟩ := ob_some h
                      refine xcallV hk (c_X10_word e119) bX10_word kX10_212 dX10_kindAt_119 rfl ⟨_, _, _, _, rfl, rfl⟩ rfl (by first | decide | omega) ⟨by decide, by decide⟩ (Nat.le_of_ble_eq_true rfl) (det ?_)
                      refine xgoto hk 127 dX10_kindAt_122 (by decide) ?_
                      refine xiret hk he dX10_kindAt_127 ⟨by decide, by decide⟩ ?_
                      obtain rfl := Option.some.inj h
                      exact ⟨rfl, rfl⟩
                  · rw [if_neg h99] at h
                    refine xsipush (v := 901) hk dX10_kindAt_102 (by decide) ?_
                    refine xiret hk he dX10_kindAt_105 ⟨by decide, by decide⟩ ?_
                    obtain rfl := Option.some.inj h
                    exact ⟨rfl, rfl⟩
              · rw [if_neg h62] at h
                refine xiinc (v := (l4 + 1)) hk dX10_kindAt_65 rfl (by decide) rfl ?_
                refine xgoto hk 34 dX10_kindAt_68 (by decide) ?_
                refine xsub [(0, .ref (a 0)), (1, .int l1), (2, .int l2), (3, .int l3), (4, .int (l4 + 1))] rfl ?_
                exact ih34 _ _ _ _ _ h
      refine xsub [(0, .ref (a 0)), (1, .int p), (2, .int q), (3, .int u2.1), (4, .int (p + 1))] rfl ?_
      exact loop34 _ _ _ _ _ _ h
    · rw [if_pos h24] at h
      refine xiload_n hk dX10_kindAt_27 rfl ?_
      obtain ⟨u28, e28, h⟩ := ob_some h
      refine xcallS hk (c_X10_isDigit e28) bX10_isDigit kX10_209 dX10_kindAt_28 rfl rfl (by first | decide | omega) ⟨by decide, by decide⟩ (Nat.le_of_ble_eq_true rfl) (det ?_)
      refine xif_eq hk 128 dX10_kindAt_31 (by decide) (fun h31 => ?_) (fun h31 => ?_)
      · rw [if_pos h31] at h
        refine xiload_n hk dX10_kindAt_128 rfl ?_
        refine xbipush (v := 60) hk dX10_kindAt_129 (by decide) ?_
        refine xicmp_eq hk 140 dX10_kindAt_131 (by decide) (fun h131 => ?_) (fun h131 => ?_)
        · rw [if_pos h131] at h
          refine xaload_n hk dX10_kindAt_140 rfl ?_
          refine xiload hk dX10_kindAt_141 rfl ?_
          obtain ⟨u143, e143, h⟩ := ob_some h
          refine xcallV hk (c_X10_byteOf e143) bX10_byteOf kX10_203 dX10_kindAt_143 rfl ⟨_, _, _, _, rfl, rfl⟩ rfl (by first | decide | omega) ⟨by decide, by decide⟩ (Nat.le_of_ble_eq_true rfl) (det ?_)
          refine xbipush (v := 61) hk dX10_kindAt_146 (by decide) ?_
          refine xicmp_ne hk 155 dX10_kindAt_148 (by decide) (fun h148 => ?_) (fun h148 => ?_)
          · rw [if_neg h148] at h
            refine xiconst (v := 0) hk dX10_kindAt_155 (by decide) ?_
            refine xistore hk dX10_kindAt_156 (by decide) ?_
            refine xaload_n hk dX10_kindAt_158 rfl ?_
            refine xgetR (ci := 10) (f := 6) hk dX10_kindAt_159 ⟨rfl, by decide, _, rfl, rfl⟩ kX10_23 ?_
            refine xiload_n hk dX10_kindAt_162 rfl ?_
            refine xiload hk dX10_kindAt_163 rfl ?_
            refine xif_eq hk 172 dX10_kindAt_165 (by decide) (fun h165 => ?_) (fun h165 => ?_)
            · refine xiconst (v := 1) hk dX10_kindAt_172 (by decide) ?_
              obtain ⟨hi173, h⟩ := og_some h
              refine xiast hk dX10_kindAt_173 rfl (inB_v hi173) ?_
              refine xiload hk dX10_kindAt_174 rfl ?_
              refine xif_eq hk 195 dX10_kindAt_176 (by decide) (fun h176 => ?_) (fun h176 => ?_)
              · refine xiload_n hk dX10_kindAt_195 rfl ?_
                refine xif_le hk 223 dX10_kindAt_196 (by decide) (fun h196 => ?_) (fun h196 => ?_)
                · rw [if_pos h196] at h
                  refine xsipush (v := 901) hk dX10_kindAt_223 (by decide) ?_
                  refine xiret hk he dX10_kindAt_226 ⟨by decide, by decide⟩ ?_
                  obtain rfl := Option.some.inj h
                  exact ⟨rfl, rfl⟩
                · rw [if_neg h196] at h
                  refine xiload_n hk dX10_kindAt_199 rfl ?_
                  refine xsipush (v := 128) hk dX10_kindAt_200 (by decide) ?_
                  refine xicmp_ge hk 223 dX10_kindAt_203 (by decide) (fun h203 => ?_) (fun h203 => ?_)
                  · rw [if_pos h203] at h
                    refine xsipush (v := 901) hk dX10_kindAt_223 (by decide) ?_
                    refine xiret hk he dX10_kindAt_226 ⟨by decide, by decide⟩ ?_
                    obtain rfl := Option.some.inj h
                    exact ⟨rfl, rfl⟩
                  · rw [if_neg h203] at h
                    refine xldcT (i := 28) hk dX10_kindAt_206 ⟨by decide +kernel, by decide +kernel⟩ (by decide) ?_
                    refine xiload_n hk dX10_kindAt_208 rfl ?_
                    refine xi2c hk dX10_kindAt_209 ?_
                    refine xcallT hk (c_indexOf (i := 28) (by decide)) bJ0_indexOf_0f7a4 kX10_217 dX10_kindAt_210 rfl (by decide) rfl rfl (by first | decide | omega) ⟨by decide, by decide⟩ (Nat.le_of_ble_eq_true rfl) (det ?_)
                    refine xif_lt hk 223 dX10_kindAt_213 (by decide) (fun h213 => ?_) (fun h213 => ?_)
                    · rw [if_pos h213] at h
                      refine xsipush (v := 901) hk dX10_kindAt_223 (by decide) ?_
                      refine xiret hk he dX10_kindAt_226 ⟨by decide, by decide⟩ ?_
                      obtain rfl := Option.some.inj h
                      exact ⟨rfl, rfl⟩
                    · rw [if_neg h213] at h
                      refine xbipush (v := 50) hk dX10_kindAt_216 (by decide) ?_
                      refine xiload_n hk dX10_kindAt_218 rfl ?_
                      refine xiadd hk dX10_kindAt_219 ?_
                      refine xgoto hk 226 dX10_kindAt_220 (by decide) ?_
                      refine xiret hk he dX10_kindAt_226 ⟨by decide, by decide⟩ ?_
                      obtain rfl := Option.some.inj h
                      exact ⟨rfl, rfl⟩
              · exact absurd h176 (by decide)
            · exact absurd h165 (by decide)
          · rw [if_pos h148] at h
            refine xiconst (v := 1) hk dX10_kindAt_151 (by decide) ?_
            refine xgoto hk 156 dX10_kindAt_152 (by decide) ?_
            refine xistore hk dX10_kindAt_156 (by decide) ?_
            refine xaload_n hk dX10_kindAt_158 rfl ?_
            refine xgetR (ci := 10) (f := 6) hk dX10_kindAt_159 ⟨rfl, by decide, _, rfl, rfl⟩ kX10_23 ?_
            refine xiload_n hk dX10_kindAt_162 rfl ?_
            refine xiload hk dX10_kindAt_163 rfl ?_
            refine xif_eq hk 172 dX10_kindAt_165 (by decide) (fun h165 => ?_) (fun h165 => ?_)
            · exact absurd h165 (by decide)
            · refine xiconst (v := 2) hk dX10_kindAt_168 (by decide) ?_
              refine xgoto hk 173 dX10_kindAt_169 (by decide) ?_
              obtain ⟨hi173, h⟩ := og_some h
              refine xiast hk dX10_kindAt_173 rfl (inB_v hi173) ?_
              refine xiload hk dX10_kindAt_174 rfl ?_
              refine xif_eq hk 195 dX10_kindAt_176 (by decide) (fun h176 => ?_) (fun h176 => ?_)
              · exact absurd h176 (by decide)
              · refine xiload_n hk dX10_kindAt_179 rfl ?_
                refine xbipush (v := 60) hk dX10_kindAt_180 (by decide) ?_
                refine xicmp_ne hk 191 dX10_kindAt_182 (by decide) (fun h182 => ?_) (fun h182 => ?_)
                · rw [if_neg h182] at h
                  refine xsipush (v := 301) hk dX10_kindAt_191 (by decide) ?_
                  refine xiret hk he dX10_kindAt_194 ⟨by decide, by decide⟩ ?_
                  obtain rfl := Option.some.inj h
                  exact ⟨rfl, rfl⟩
                · rw [if_pos h182] at h
                  refine xsipush (v := 300) hk dX10_kindAt_185 (by decide) ?_
                  refine xgoto hk 194 dX10_kindAt_188 (by decide) ?_
                  refine xiret hk he dX10_kindAt_194 ⟨by decide, by decide⟩ ?_
                  obtain rfl := Option.some.inj h
                  exact ⟨rfl, rfl⟩
        · rw [if_neg h131] at h
          refine xiload_n hk dX10_kindAt_134 rfl ?_
          refine xbipush (v := 62) hk dX10_kindAt_135 (by decide) ?_
          refine xicmp_ne hk 155 dX10_kindAt_137 (by decide) (fun h137 => ?_) (fun h137 => ?_)
          · rw [if_neg h137] at h
            refine xiconst (v := 0) hk dX10_kindAt_155 (by decide) ?_
            refine xistore hk dX10_kindAt_156 (by decide) ?_
            refine xaload_n hk dX10_kindAt_158 rfl ?_
            refine xgetR (ci := 10) (f := 6) hk dX10_kindAt_159 ⟨rfl, by decide, _, rfl, rfl⟩ kX10_23 ?_
            refine xiload_n hk dX10_kindAt_162 rfl ?_
            refine xiload hk dX10_kindAt_163 rfl ?_
            refine xif_eq hk 172 dX10_kindAt_165 (by decide) (fun h165 => ?_) (fun h165 => ?_)
            · refine xiconst (v := 1) hk dX10_kindAt_172 (by decide) ?_
              obtain ⟨hi173, h⟩ := og_some h
              refine xiast hk dX10_kindAt_173 rfl (inB_v hi173) ?_
              refine xiload hk dX10_kindAt_174 rfl ?_
              refine xif_eq hk 195 dX10_kindAt_176 (by decide) (fun h176 => ?_) (fun h176 => ?_)
              · refine xiload_n hk dX10_kindAt_195 rfl ?_
                refine xif_le hk 223 dX10_kindAt_196 (by decide) (fun h196 => ?_) (fun h196 => ?_)
                · rw [if_pos h196] at h
                  refine xsipush (v := 901) hk dX10_kindAt_223 (by decide) ?_
                  refine xiret hk he dX10_kindAt_226 ⟨by decide, by decide⟩ ?_
                  obtain rfl := Option.some.inj h
                  exact ⟨rfl, rfl⟩
                · rw [if_neg h196] at h
                  refine xiload_n hk dX10_kindAt_199 rfl ?_
                  refine xsipush (v := 128) hk dX10_kindAt_200 (by decide) ?_
                  refine xicmp_ge hk 223 dX10_kindAt_203 (by decide) (fun h203 => ?_) (fun h203 => ?_)
                  · rw [if_pos h203] at h
                    refine xsipush (v := 901) hk dX10_kindAt_223 (by decide) ?_
                    refine xiret hk he dX10_kindAt_226 ⟨by decide, by decide⟩ ?_
                    obtain rfl := Option.some.inj h
                    exact ⟨rfl, rfl⟩
                  · rw [if_neg h203] at h
                    refine xldcT (i := 28) hk dX10_kindAt_206 ⟨by decide +kernel, by decide +kernel⟩ (by decide) ?_
                    refine xiload_n hk dX10_kindAt_208 rfl ?_
                    refine xi2c hk dX10_kindAt_209 ?_
                    refine xcallT hk (c_indexOf (i := 28) (by decide)) bJ0_indexOf_0f7a4 kX10_217 dX10_kindAt_210 rfl (by decide) rfl rfl (by first | decide | omega) ⟨by decide, by decide⟩ (Nat.le_of_ble_eq_true rfl) (det ?_)
                    refine xif_lt hk 223 dX10_kindAt_213 (by decide) (fun h213 => ?_) (fun h213 => ?_)
                    · rw [if_pos h213] at h
                      refine xsipush (v := 901) hk dX10_kindAt_223 (by decide) ?_
                      refine xiret hk he dX10_kindAt_226 ⟨by decide, by decide⟩ ?_
                      obtain rfl := Option.some.inj h
                      exact ⟨rfl, rfl⟩
                    · rw [if_neg h213] at h
                      refine xbipush (v := 50) hk dX10_kindAt_216 (by decide) ?_
                      refine xiload_n hk dX10_kindAt_218 rfl ?_
                      refine xiadd hk dX10_kindAt_219 ?_
                      refine xgoto hk 226 dX10_kindAt_220 (by decide) ?_
                      refine xiret hk he dX10_kindAt_226 ⟨by decide, by decide⟩ ?_
                      obtain rfl := Option.some.inj h
                      exact ⟨rfl, rfl⟩
              · exact absurd h176 (by decide)
            · exact absurd h165 (by decide)
          · rw [if_pos h137] at h
            refine xaload_n hk dX10_kindAt_140 rfl ?_
            refine xiload hk dX10_kindAt_141 rfl ?_
            obtain ⟨u143, e143, h⟩ := ob_some h
            refine xcallV hk (c_X10_byteOf e143) bX10_byteOf kX10_203 dX10_kindAt_143 rfl ⟨_, _, _, _, rfl, rfl⟩ rfl (by first | decide | omega) ⟨by decide, by decide⟩ (Nat.le_of_ble_eq_true rfl) (det ?_)
            refine xbipush (v := 61) hk dX10_kindAt_146 (by decide) ?_
            refine xicmp_ne hk 155 dX10_kindAt_148 (by decide) (fun h148 => ?_) (fun h148 => ?_)
            · rw [if_neg h148] at h
              refine xiconst (v := 0) hk dX10_kindAt_155 (by decide) ?_
              refine xistore hk dX10_kindAt_156 (by decide) ?_
              refine xaload_n hk dX10_kindAt_158 rfl ?_
              refine xgetR (ci := 10) (f := 6) hk dX10_kindAt_159 ⟨rfl, by decide, _, rfl, rfl⟩ kX10_23 ?_
              refine xiload_n hk dX10_kindAt_162 rfl ?_
              refine xiload hk dX10_kindAt_163 rfl ?_
              refine xif_eq hk 172 dX10_kindAt_165 (by decide) (fun h165 => ?_) (fun h165 => ?_)
              · refine xiconst (v := 1) hk dX10_kindAt_172 (by decide) ?_
                obtain ⟨hi173, h⟩ := og_some h
                refine xiast hk dX10_kindAt_173 rfl (inB_v hi173) ?_
                refine xiload hk dX10_kindAt_174 rfl ?_
                refine xif_eq hk 195 dX10_kindAt_176 (by decide) (fun h176 => ?_) (fun h176 => ?_)
                · refine xiload_n hk dX10_kindAt_195 rfl ?_
                  refine xif_le hk 223 dX10_kindAt_196 (by decide) (fun h196 => ?_) (fun h196 => ?_)
                  · rw [if_pos h196] at h
                    refine xsipush (v := 901) hk dX10_kindAt_223 (by decide) ?_
                    refine xiret hk he dX10_kindAt_226 ⟨by decide, by decide⟩ ?_
                    obtain rfl := Option.some.inj h
                    exact ⟨rfl, rfl⟩
                  · rw [if_neg h196] at h
                    refine xiload_n hk dX10_kindAt_199 rfl ?_
                    refine xsipush (v := 128) hk dX10_kindAt_200 (by decide) ?_
                    refine xicmp_ge hk 223 dX10_kindAt_203 (by decide) (fun h203 => ?_) (fun h203 => ?_)
                    · rw [if_pos h203] at h
                      refine xsipush (v := 901) hk dX10_kindAt_223 (by decide) ?_
                      refine xiret hk he dX10_kindAt_226 ⟨by decide, by decide⟩ ?_
                      obtain rfl := Option.some.inj h
                      exact ⟨rfl, rfl⟩
                    · rw [if_neg h203] at h
                      refine xldcT (i := 28) hk dX10_kindAt_206 ⟨by decide +kernel, by decide +kernel⟩ (by decide) ?_
                      refine xiload_n hk dX10_kindAt_208 rfl ?_
                      refine xi2c hk dX10_kindAt_209 ?_
                      refine xcallT hk (c_indexOf (i := 28) (by decide)) bJ0_indexOf_0f7a4 kX10_217 dX10_kindAt_210 rfl (by decide) rfl rfl (by first | decide | omega) ⟨by decide, by decide⟩ (Nat.le_of_ble_eq_true rfl) (det ?_)
                      refine xif_lt hk 223 dX10_kindAt_213 (by decide) (fun h213 => ?_) (fun h213 => ?_)
                      · rw [if_pos h213] at h
                        refine xsipush (v := 901) hk dX10_kindAt_223 (by decide) ?_
                        refine xiret hk he dX10_kindAt_226 ⟨by decide, by decide⟩ ?_
                        obtain rfl := Option.some.inj h
                        exact ⟨rfl, rfl⟩
                      · rw [if_neg h213] at h
                        refine xbipush (v := 50) hk dX10_kindAt_216 (by decide) ?_
                        refine xiload_n hk dX10_kindAt_218 rfl ?_
                        refine xiadd hk dX10_kindAt_219 ?_
                        refine xgoto hk 226 dX10_kindAt_220 (by decide) ?_
                        refine xiret hk he dX10_kindAt_226 ⟨by decide, by decide⟩ ?_
                        obtain rfl := Option.some.inj h
                        exact ⟨rfl, rfl⟩
                · exact absurd h176 (by decide)
              · exact absurd h165 (by decide)
            · rw [if_pos h148] at h
              refine xiconst (v := 1) hk dX10_kindAt_151 (by decide) ?_
              refine xgoto hk 156 dX10_kindAt_152 (by decide) ?_
              refine xistore hk dX10_kindAt_156 (by decide) ?_
              refine xaload_n hk dX10_kindAt_158 rfl ?_
              refine xgetR (ci := 10) (f := 6) hk dX10_kindAt_159 ⟨rfl, by decide, _, rfl, rfl⟩ kX10_23 ?_
              refine xiload_n hk dX10_kindAt_162 rfl ?_
              refine xiload hk dX10_kindAt_163 rfl ?_
              refine xif_eq hk 172 dX10_kindAt_165 (by decide) (fun h165 => ?_) (fun h165 => ?_)
              · exact absurd h165 (by decide)
              · refine xiconst (v := 2) hk dX10_kindAt_168 (by decide) ?_
                refine xgoto hk 173 dX10_kindAt_169 (by decide) ?_
                obtain ⟨hi173, h⟩ := og_some h
                refine xiast hk dX10_kindAt_173 rfl (inB_v hi173) ?_
                refine xiload hk dX10_kindAt_174 rfl ?_
                refine xif_eq hk 195 dX10_kindAt_176 (by decide) (fun h176 => ?_) (fun h176 => ?_)
                · exact absurd h176 (by decide)
                · refine xiload_n hk dX10_kindAt_179 rfl ?_
                  refine xbipush (v := 60) hk dX10_kindAt_180 (by decide) ?_
                  refine xicmp_ne hk 191 dX10_kindAt_182 (by decide) (fun h182 => ?_) (fun h182 => ?_)
                  · rw [if_neg h182] at h
                    refine xsipush (v := 301) hk dX10_kindAt_191 (by decide) ?_
                    refine xiret hk he dX10_kindAt_194 ⟨by decide, by decide⟩ ?_
                    obtain rfl := Option.some.inj h
                    exact ⟨rfl, rfl⟩
                  · rw [if_pos h182] at h
                    refine xsipush (v := 300) hk dX10_kindAt_185 (by decide) ?_
                    refine xgoto hk 194 dX10_kindAt_188 (by decide) ?_
                    refine xiret hk he dX10_kindAt_194 ⟨by decide, by decide⟩ ?_
                    obtain rfl := Option.some.inj h
                    exact ⟨rfl, rfl⟩
      · rw [if_neg h31] at h
        have loop34 : ∀ (n34 : Nat) (l1 : Int32) (l2 : Int32) (l3 : Int32) (l4 : Int32) (x : XS), f_X10_kindAt_L34   n34 l1 l2 l3 l4 x = some u → Wx k 0 0 LM2 a x 34 [(0, .ref (a 0)), (1, .int l1), (2, .int l2), (3, .int l3), (4, .int l4)] [] := by
          intro n34
          induction n34 with
          | zero => intro l1 l2 l3 l4 x h; rw [f_X10_kindAt_L34] at h; cases h
          | succ n34 ih34 =>
            intro l1 l2 l3 l4 x h
            rw [f_X10_kindAt_L34] at h
            refine xaload_n hk dX10_kindAt_34 rfl ?_
            refine xiload hk dX10_kindAt_35 rfl ?_
            obtain ⟨u37, e37, h⟩ := ob_some h
            refine xcallV hk (c_X10_byteOf e37) bX10_byteOf kX10_203 dX10_kindAt_37 rfl ⟨_, _, _, _, rfl, rfl⟩ rfl (by first | decide | omega) ⟨by decide, by decide⟩ (Nat.le_of_ble_eq_true rfl) (det ?_)
            obtain ⟨u40, e40, h⟩ := ob_some h
            refine xcallS hk (c_X10_isDigit e40) bX10_isDigit kX10_209 dX10_kindAt_40 rfl rfl (by first | decide | omega) ⟨by decide, by decide⟩ (Nat.le_of_ble_eq_true rfl) (det ?_)
            refine xif_ne hk 65 dX10_kindAt_43 (by decide) (fun h43 => ?_) (fun h43 => ?_)
            · rw [if_neg h43] at h
              refine xiinc (v := (l4 + 1)) hk dX10_kindAt_65 rfl (by decide) rfl ?_
              refine xgoto hk 34 dX10_kindAt_68 (by decide) ?_
              refine xsub [(0, .ref (a 0)), (1, .int l1), (2, .int l2), (3, .int l3), (4, .int (l4 + 1))] rfl ?_
              exact ih34 _ _ _ _ _ h
            · rw [if_pos h43] at h
              refine xiload_n hk dX10_kindAt_46 rfl ?_
              obtain ⟨u47, e47, h⟩ := ob_some h
              refine xcallS hk (c_X10_isLetter e47) bX10_isLetter kX10_206 dX10_kindAt_47 rfl rfl (by first | decide | omega) ⟨by decide, by decide⟩ (Nat.le_of_ble_eq_true rfl) (det ?_)
              refine xif_eq hk 71 dX10_kindAt_50 (by decide) (fun h50 => ?_) (fun h50 => ?_)
              · rw [if_pos h50] at h
                refine xaload_n hk dX10_kindAt_71 rfl ?_
                refine xgetR (ci := 10) (f := 6) hk dX10_kindAt_72 ⟨rfl, by decide, _, rfl, rfl⟩ kX10_23 ?_
                refine xiload_n hk dX10_kindAt_75 rfl ?_
                refine xiload hk dX10_kindAt_76 rfl ?_
                refine xiload_n hk dX10_kindAt_78 rfl ?_
                refine xisub hk dX10_kindAt_79 ?_
                obtain ⟨hi80, h⟩ := og_some h
                refine xiast hk dX10_kindAt_80 rfl (inB_v hi80) ?_
                refine xiload hk dX10_kindAt_81 rfl ?_
                refine xiload_n hk dX10_kindAt_83 rfl ?_
                refine xisub hk dX10_kindAt_84 ?_
                refine xiload_n hk dX10_kindAt_85 rfl ?_
                obtain ⟨u86, e86, h⟩ := ob_some h
                refine xcallS hk (c_X10_isLetter e86) bX10_isLetter kX10_206 dX10_kindAt_86 rfl rfl (by first | decide | omega) ⟨by decide, by decide⟩ (Nat.le_of_ble_eq_true rfl) (det ?_)
                refine xif_eq hk 97 dX10_kindAt_89 (by decide) (fun h89 => ?_) (fun h89 => ?_)
                · rw [if_pos h89] at h
                  refine xbipush (v := 6) hk dX10_kindAt_97 (by decide) ?_
                  refine xicmp_le hk 106 dX10_kindAt_99 (by decide) (fun h99 => ?_) (fun h99 => ?_)
                  · rw [if_pos h99] at h
                    refine xiload_n hk dX10_kindAt_106 rfl ?_
                    obtain ⟨u107, e107, h⟩ := ob_some h
                    refine xcallS hk (c_X10_isLetter e107) bX10_isLetter kX10_206 dX10_kindAt_107 rfl rfl (by first | decide | omega) ⟨by decide, by decide⟩ (Nat.le_of_ble_eq_true rfl) (det ?_)
                    refine xif_eq hk 125 dX10_kindAt_110 (by decide) (fun h110 => ?_) (fun h110 => ?_)
                    · rw [if_pos h110] at h
                      refine xbipush (v := 41) hk dX10_kindAt_125 (by decide) ?_
                      refine xiret hk he dX10_kindAt_127 ⟨by decide, by decide⟩ ?_
                      obtain rfl := Option.some.inj h
                      exact ⟨rfl, rfl⟩
                    · rw [if_neg h110] at h
                      refine xaload_n hk dX10_kindAt_113 rfl ?_
                      refine xiload_n hk dX10_kindAt_114 rfl ?_
                      refine xiload hk dX10_kindAt_115 rfl ?_
                      refine xiload_n hk dX10_kindAt_117 rfl ?_
                      refine xisub hk dX10_kindAt_118 ?_
                      obtain ⟨u119, e119, h⟩ := ob_some h
                      refine xcallV hk (c_X10_word e119) bX10_word kX10_212 dX10_kindAt_119 rfl ⟨_, _, _, _, rfl, rfl⟩ rfl (by first | decide | omega) ⟨by decide, by decide⟩ (Nat.le_of_ble_eq_true rfl) (det ?_)
                      refine xgoto hk 127 dX10_kindAt_122 (by decide) ?_
                      refine xiret hk he dX10_kindAt_127 ⟨by decide, by decide⟩ ?_
                      obtain rfl := Option.some.inj h
                      exact ⟨rfl, rfl⟩
                  · rw [if_neg h99] at h
                    refine xsipush (v := 901) hk dX10_kindAt_102 (by decide) ?_
                    refine xiret hk he dX10_kindAt_105 ⟨by decide, by decide⟩ ?_
                    obtain rfl := Option.some.inj h
                    exact ⟨rfl, rfl⟩
                · rw [if_neg h89] at h
                  refine xbipush (v := 10) hk dX10_kindAt_92 (by decide) ?_
                  refine xgoto hk 99 dX10_kindAt_94 (by decide) ?_
                  refine xicmp_le hk 106 dX10_kindAt_99 (by decide) (fun h99 => ?_) (fun h99 => ?_)
                  · rw [if_pos h99] at h
                    refine xiload_n hk dX10_kindAt_106 rfl ?_
                    obtain ⟨u107, e107, h⟩ := ob_some h
                    refine xcallS hk (c_X10_isLetter e107) bX10_isLetter kX10_206 dX10_kindAt_107 rfl rfl (by first | decide | omega) ⟨by decide, by decide⟩ (Nat.le_of_ble_eq_true rfl) (det ?_)
                    refine xif_eq hk 125 dX10_kindAt_110 (by decide) (fun h110 => ?_) (fun h110 => ?_)
                    · rw [if_pos h110] at h
                      refine xbipush (v := 41) hk dX10_kindAt_125 (by decide) ?_
                      refine xiret hk he dX10_kindAt_127 ⟨by decide, by decide⟩ ?_
                      obtain rfl := Option.some.inj h
                      exact ⟨rfl, rfl⟩
                    · rw [if_neg h110] at h
                      refine xaload_n hk dX10_kindAt_113 rfl ?_
                      refine xiload_n hk dX10_kindAt_114 rfl ?_
                      refine xiload hk dX10_kindAt_115 rfl ?_
                      refine xiload_n hk dX10_kindAt_117 rfl ?_
                      refine xisub hk dX10_kindAt_118 ?_
                      obtain ⟨u119, e119, h⟩ := ob_some h
                      refine xcallV hk (c_X10_word e119) bX10_word kX10_212 dX10_kindAt_119 rfl ⟨_, _, _, _, rfl, rfl⟩ rfl (by first | decide | omega) ⟨by decide, by decide⟩ (Nat.le_of_ble_eq_true rfl) (det ?_)
                      refine xgoto hk 127 dX10_kindAt_122 (by decide) ?_
                      refine xiret hk he dX10_kindAt_127 ⟨by decide, by decide⟩ ?_
                      obtain rfl := Option.some.inj h
                      exact ⟨rfl, rfl⟩
                  · rw [if_neg h99] at h
                    refine xsipush (v := 901) hk dX10_kindAt_102 (by decide) ?_
                    refine xiret hk he dX10_kindAt_105 ⟨by decide, by decide⟩ ?_
                    obtain rfl := Option.some.inj h
                    exact ⟨rfl, rfl⟩
              · rw [if_neg h50] at h
                refine xaload_n hk dX10_kindAt_53 rfl ?_
                refine xiload hk dX10_kindAt_54 rfl ?_
                obtain ⟨u56, e56, h⟩ := ob_some h
                refine xcallV hk (c_X10_byteOf e56) bX10_byteOf kX10_203 dX10_kindAt_56 rfl ⟨_, _, _, _, rfl, rfl⟩ rfl (by first | decide | omega) ⟨by decide, by decide⟩ (Nat.le_of_ble_eq_true rfl) (det ?_)
                obtain ⟨u59, e59, h⟩ := ob_some h
                refine xcallS hk (c_X10_isLetter e59) bX10_isLetter kX10_206 dX10_kindAt_59 rfl rfl (by first | decide | omega) ⟨by decide, by decide⟩ (Nat.le_of_ble_eq_true rfl) (det ?_)
                refine xif_eq hk 71 dX10_kindAt_62 (by decide) (fun h62 => ?_) (fun h62 => ?_)
                · rw [if_pos h62] at h
                  refine xaload_n hk dX10_kindAt_71 rfl ?_
                  refine xgetR (ci := 10) (f := 6) hk dX10_kindAt_72 ⟨rfl, by decide, _, rfl, rfl⟩ kX10_23 ?_
                  refine xiload_n hk dX10_kindAt_75 rfl ?_
                  refine xiload hk dX10_kindAt_76 rfl ?_
                  refine xiload_n hk dX10_kindAt_78 rfl ?_
                  refine xisub hk dX10_kindAt_79 ?_
                  obtain ⟨hi80, h⟩ := og_some h
                  refine xiast hk dX10_kindAt_80 rfl (inB_v hi80) ?_
                  refine xiload hk dX10_kindAt_81 rfl ?_
                  refine xiload_n hk dX10_kindAt_83 rfl ?_
                  refine xisub hk dX10_kindAt_84 ?_
                  refine xiload_n hk dX10_kindAt_85 rfl ?_
                  obtain ⟨u86, e86, h⟩ := ob_some h
                  refine xcallS hk (c_X10_isLetter e86) bX10_isLetter kX10_206 dX10_kindAt_86 rfl rfl (by first | decide | omega) ⟨by decide, by decide⟩ (Nat.le_of_ble_eq_true rfl) (det ?_)
                  refine xif_eq hk 97 dX10_kindAt_89 (by decide) (fun h89 => ?_) (fun h89 => ?_)
                  · rw [if_pos h89] at h
                    refine xbipush (v := 6) hk dX10_kindAt_97 (by decide) ?_
                    refine xicmp_le hk 106 dX10_kindAt_99 (by decide) (fun h99 => ?_) (fun h99 => ?_)
                    · rw [if_pos h99] at h
                      refine xiload_n hk dX10_kindAt_106 rfl ?_
                      obtain ⟨u107, e107, h⟩ := ob_some h
                      refine xcallS hk (c_X10_isLetter e107) bX10_isLetter kX10_206 dX10_kindAt_107 rfl rfl (by first | decide | omega) ⟨by decide, by decide⟩ (Nat.le_of_ble_eq_true rfl) (det ?_)
                      refine xif_eq hk 125 dX10_kindAt_110 (by decide) (fun h110 => ?_) (fun h110 => ?_)
                      · rw [if_pos h110] at h
                        refine xbipush (v := 41) hk dX10_kindAt_125 (by decide) ?_
                        refine xiret hk he dX10_kindAt_127 ⟨by decide, by decide⟩ ?_
                        obtain rfl := Option.some.inj h
                        exact ⟨rfl, rfl⟩
                      · rw [if_neg h110] at h
                        refine xaload_n hk dX10_kindAt_113 rfl ?_
                        refine xiload_n hk dX10_kindAt_114 rfl ?_
                        refine xiload hk dX10_kindAt_115 rfl ?_
                        refine xiload_n hk dX10_kindAt_117 rfl ?_
                        refine xisub hk dX10_kindAt_118 ?_
                        obtain ⟨u119, e119, h⟩ := ob_some h
                        refine xcallV hk (c_X10_word e119) bX10_word kX10_212 dX10_kindAt_119 rfl ⟨_, _, _, _, rfl, rfl⟩ rfl (by first | decide | omega) ⟨by decide, by decide⟩ (Nat.le_of_ble_eq_true rfl) (det ?_)
                        refine xgoto hk 127 dX10_kindAt_122 (by decide) ?_
                        refine xiret hk he dX10_kindAt_127 ⟨by decide, by decide⟩ ?_
                        obtain rfl := Option.some.inj h
                        exact ⟨rfl, rfl⟩
                    · rw [if_neg h99] at h
                      refine xsipush (v := 901) hk dX10_kindAt_102 (by decide) ?_
                      refine xiret hk he dX10_kindAt_105 ⟨by decide, by decide⟩ ?_
                      obtain rfl := Option.some.inj h
                      exact ⟨rfl, rfl⟩
                  · rw [if_neg h89] at h
                    refine xbipush (v := 10) hk dX10_kindAt_92 (by decide) ?_
                    refine xgoto hk 99 dX10_kindAt_94 (by decide) ?_
                    refine xicmp_le hk 106 dX10_kindAt_99 (by decide) (fun h99 => ?_) (fun h99 => ?_)
                    · rw [if_pos h99] at h
                      refine xiload_n hk dX10_kindAt_106 rfl ?_
                      obtain ⟨u107, e107, h⟩ := ob_some h
                      refine xcallS hk (c_X10_isLetter e107) bX10_isLetter kX10_206 dX10_kindAt_107 rfl rfl (by first | decide | omega) ⟨by decide, by decide⟩ (Nat.le_of_ble_eq_true rfl) (det ?_)
                      refine xif_eq hk 125 dX10_kindAt_110 (by decide) (fun h110 => ?_) (fun h110 => ?_)
                      · rw [if_pos h110] at h
                        refine xbipush (v := 41) hk dX10_kindAt_125 (by decide) ?_
                        refine xiret hk he dX10_kindAt_127 ⟨by decide, by decide⟩ ?_
                        obtain rfl := Option.some.inj h
                        exact ⟨rfl, rfl⟩
                      · rw [if_neg h110] at h
                        refine xaload_n hk dX10_kindAt_113 rfl ?_
                        refine xiload_n hk dX10_kindAt_114 rfl ?_
                        refine xiload hk dX10_kindAt_115 rfl ?_
                        refine xiload_n hk dX10_kindAt_117 rfl ?_
                        refine xisub hk dX10_kindAt_118 ?_
                        obtain ⟨u119, e119, h⟩ := ob_some h
                        refine xcallV hk (c_X10_word e119) bX10_word kX10_212 dX10_kindAt_119 rfl ⟨_, _, _, _, rfl, rfl⟩ rfl (by first | decide | omega) ⟨by decide, by decide⟩ (Nat.le_of_ble_eq_true rfl) (det ?_)
                        refine xgoto hk 127 dX10_kindAt_122 (by decide) ?_
                        refine xiret hk he dX10_kindAt_127 ⟨by decide, by decide⟩ ?_
                        obtain rfl := Option.some.inj h
                        exact ⟨rfl, rfl⟩
                    · rw [if_neg h99] at h
                      refine xsipush (v := 901) hk dX10_kindAt_102 (by decide) ?_
                      refine xiret hk he dX10_kindAt_105 ⟨by decide, by decide⟩ ?_
                      obtain rfl := Option.some.inj h
                      exact ⟨rfl, rfl⟩
                · rw [if_neg h62] at h
                  refine xiinc (v := (l4 + 1)) hk dX10_kindAt_65 rfl (by decide) rfl ?_
                  refine xgoto hk 34 dX10_kindAt_68 (by decide) ?_
                  refine xsub [(0, .ref (a 0)), (1, .int l1), (2, .int l2), (3, .int l3), (4, .int (l4 + 1))] rfl ?_
                  exact ih34 _ _ _ _ _ h
        refine xsub [(0, .ref (a 0)), (1, .int p), (2, .int q), (3, .int u2.1), (4, .int (p + 1))] rfl ?_
        exact loop34 _ _ _ _ _ _ h
  · rw [if_pos h13] at h
    refine xsipush (v := 900) hk dX10_kindAt_16 (by decide) ?_
    refine xiret hk he dX10_kindAt_19 ⟨by decide, by decide⟩ ?_
    obtain rfl := Option.some.inj h
    exact ⟨rfl, rfl⟩

def f_X10_cut_L11  (k4 : Int32 → Int32 → XS → Option XS) : Nat → Int32 → Int32 → XS → Option XS
  | 0, _, _, _ => none
  | n + 1, l1, l2, x => ob (f_X10_byteOf l1 x) (fun u13 => (if u13.1 = 32 then (f_X10_cut_L11  k4 n (l1 + 1) l2 u13.2) else ob (f_X10_byteOf l1 u13.2) (fun u23 => (if u23.1 = 10 then (f_X10_cut_L11  k4 n (l1 + 1) l2 u23.2) else og (inB l2 401) (og (inB l2 401) (og (inB l2 401) (ob (f_X10_kindAt l1 l2 (setI (setI (setI u23.2 3 (l2 : Int32).toNatClampNeg l1) 5 (l2 : Int32).toNatClampNeg 0) 6 (l2 : Int32).toNatClampNeg 0)) (fun u66 => og (inB l2 401) ((if l2 = 400 then og (inB l2 401) ((if ((setI u66.2 2 (l2 : Int32).toNatClampNeg u66.1).1 2 (l2 : Int32).toNatClampNeg) = 900 then og (inB l2 401) ((if ((setI u66.2 2 (l2 : Int32).toNatClampNeg u66.1).1 2 (l2 : Int32).toNatClampNeg) < 900 then og (inB l2 401) ((k4 (l1 + ((setI u66.2 2 (l2 : Int32).toNatClampNeg u66.1).1 4 (l2 : Int32).toNatClampNeg)) (l2 + 1) (setI u66.2 2 (l2 : Int32).toNatClampNeg u66.1))) else some (setI u66.2 2 (l2 : Int32).toNatClampNeg u66.1))) else og (inB l2 401) (og (inB l2 401) ((if ((setI (setI u66.2 2 (l2 : Int32).toNatClampNeg u66.1) 2 (l2 : Int32).toNatClampNeg 901).1 2 (l2 : Int32).toNatClampNeg) < 900 then og (inB l2 401) ((k4 (l1 + ((setI (setI u66.2 2 (l2 : Int32).toNatClampNeg u66.1) 2 (l2 : Int32).toNatClampNeg 901).1 4 (l2 : Int32).toNatClampNeg)) (l2 + 1) (setI (setI u66.2 2 (l2 : Int32).toNatClampNeg u66.1) 2 (l2 : Int32).toNatClampNeg 901))) else some (setI (setI u66.2 2 (l2 : Int32).toNatClampNeg u66.1) 2 (l2 : Int32).toNatClampNeg 901)))))) else og (inB l2 401) ((if ((setI u66.2 2 (l2 : Int32).toNatClampNeg u66.1).1 2 (l2 : Int32).toNatClampNeg) < 900 then og (inB l2 401) ((k4 (l1 + ((setI u66.2 2 (l2 : Int32).toNatClampNeg u66.1).1 4 (l2 : Int32).toNatClampNeg)) (l2 + 1) (setI u66.2 2 (l2 : Int32).toNatClampNeg u66.1))) else some (setI u66.2 2 (l2 : Int32).toNatClampNeg u66.1)))))))))))))
def f_X10_cut_L4   : Nat → Int32 → Int32 → XS → Option XS
  | 0, _, _, _ => none
  | n + 1, l1, l2, x => (if 400 < l2 then some x else (f_X10_cut_L11  (f_X10_cut_L4   n) 2100 l1 l2 x))
def f_X10_cut   (x : XS) : Option XS := (f_X10_cut_L4   2100 0 0 x)

set_option maxHeartbeats 4000000 in
set_option maxRecDepth 100000 in
theorem c_X10_cut {g : Gx} {a : Nat → Nat} {x : XS}    {u : XS}  (h : f_X10_cut   x = some u) : Mx g yX10_cut cX10_cut 3 none 7 0 0 LM2 a x [.ref (a 0)] (pr none u) := by
  refine Mx_of (by decide +kernel) (Nat.le_of_ble_eq_true rfl) ?_
  intro k hk he hg
  subst hg
  rw [f_X10_cut] at h
  refine xiconst (v := 0) hk dX10_cut_0 (by decide) ?_
  refine xistore_n hk dX10_cut_1 (by decide) ?_
  refine xiconst (v := 0) hk dX10_cut_2 (by decide) ?_
  refine xistore_n hk dX10_cut_3 (by decide) ?_
  have loop4 : ∀ (n4 : Nat) (l1 : Int32) (l2 : Int32) (x : XS), f_X10_cut_L4   n4 l1 l2 x = some u → Wx k 0 0 LM2 a x 4 [(0, .ref (a 0)), (1, .int l1), (2, .int l2)] [] := by
    intro n4
    induction n4 with
    | zero => intro l1 l2 x h; rw [f_X10_cut_L4] at h; cases h
    | succ n4 ih4 =>
      intro l1 l2 x h
      rw [f_X10_cut_L4] at h
      refine xiload_n hk dX10_cut_4 rfl ?_
      refine xsipush (v := 400) hk dX10_cut_5 (by decide) ?_
      refine xicmp_gt hk 126 dX10_cut_8 (by decide) (fun h8 => ?_) (fun h8 => ?_)
      · rw [if_pos h8] at h
        refine xvret hk he dX10_cut_126 ⟨by decide, by decide⟩ ?_
        obtain rfl := Option.some.inj h
        exact ⟨rfl, rfl⟩
      · rw [if_neg h8] at h
        have loop11 : ∀ (n11 : Nat) (l1 : Int32) (l2 : Int32) (x : XS), f_X10_cut_L11  (f_X10_cut_L4   n4) n11 l1 l2 x = some u → Wx k 0 0 LM2 a x 11 [(0, .ref (a 0)), (1, .int l1), (2, .int l2)] [] := by
          intro n11
          induction n11 with
          | zero => intro l1 l2 x h; rw [f_X10_cut_L11] at h; cases h
          | succ n11 ih11 =>
            intro l1 l2 x h
            rw [f_X10_cut_L11] at h
            refine xaload_n hk dX10_cut_11 rfl ?_
            refine xiload_n hk dX10_cut_12 rfl ?_
            obtain ⟨u13, e13, h⟩ := ob_some h
            refine xcallV hk (c_X10_byteOf e13) bX10_byteOf kX10_203 dX10_cut_13 rfl ⟨_, _, _, _, rfl, rfl⟩ rfl (by first | decide | omega) ⟨by decide, by decide⟩ (Nat.le_of_ble_eq_true rfl) (det ?_)
            refine xbipush (v := 32) hk dX10_cut_16 (by decide) ?_
            refine xicmp_eq hk 31 dX10_cut_18 (by decide) (fun h18 => ?_) (fun h18 => ?_)
            · rw [if_pos h18] at h
              refine xiinc (v := (l1 + 1)) hk dX10_cut_31 rfl (by decide) rfl ?_
              refine xgoto hk 11 dX10_cut_34 (by decide) ?_
              refine xsub [(0, .ref (a 0)), (1, .int (l1 + 1)), (2, .int l2)] rfl ?_
              exact ih11 _ _ _ h
            · rw [if_neg h18] at h
              refine xaload_n hk dX10_cut_21 rfl ?_
              refine xiload_n hk dX10_cut_22 rfl ?_
              obtain ⟨u23, e23, h⟩ := ob_some h
              refine xcallV hk (c_X10_byteOf e23) bX10_byteOf kX10_203 dX10_cut_23 rfl ⟨_, _, _, _, rfl, rfl⟩ rfl (by first | decide | omega) ⟨by decide, by decide⟩ (Nat.le_of_ble_eq_true rfl) (det ?_)
              refine xbipush (v := 10) hk dX10_cut_26 (by decide) ?_
              refine xicmp_ne hk 37 dX10_cut_28 (by decide) (fun h28 => ?_) (fun h28 => ?_)
              · rw [if_neg h28] at h
                refine xaload_n hk dX10_cut_37 rfl ?_
                refine xgetR (ci := 10) (f := 5) hk dX10_cut_38 ⟨rfl, by decide, _, rfl, rfl⟩ kX10_20 ?_
                refine xiload_n hk dX10_cut_41 rfl ?_
                refine xiload_n hk dX10_cut_42 rfl ?_
                obtain ⟨hi43, h⟩ := og_some h
                refine xiast hk dX10_cut_43 rfl (inB_v hi43) ?_
                refine xaload_n hk dX10_cut_44 rfl ?_
                refine xgetR (ci := 10) (f := 7) hk dX10_cut_45 ⟨rfl, by decide, _, rfl, rfl⟩ kX10_26 ?_
                refine xiload_n hk dX10_cut_48 rfl ?_
                refine xiconst (v := 0) hk dX10_cut_49 (by decide) ?_
                obtain ⟨hi50, h⟩ := og_some h
                refine xiast hk dX10_cut_50 rfl (inB_v hi50) ?_
                refine xaload_n hk dX10_cut_51 rfl ?_
                refine xgetR (ci := 10) (f := 8) hk dX10_cut_52 ⟨rfl, by decide, _, rfl, rfl⟩ kX10_29 ?_
                refine xiload_n hk dX10_cut_55 rfl ?_
                refine xiconst (v := 0) hk dX10_cut_56 (by decide) ?_
                obtain ⟨hi57, h⟩ := og_some h
                refine xiast hk dX10_cut_57 rfl (inB_v hi57) ?_
                refine xaload_n hk dX10_cut_58 rfl ?_
                refine xgetR (ci := 10) (f := 4) hk dX10_cut_59 ⟨rfl, by decide, _, rfl, rfl⟩ kX10_17 ?_
                refine xiload_n hk dX10_cut_62 rfl ?_
                refine xaload_n hk dX10_cut_63 rfl ?_
                refine xiload_n hk dX10_cut_64 rfl ?_
                refine xiload_n hk dX10_cut_65 rfl ?_
                obtain ⟨u66, e66, h⟩ := ob_some h
                refine xcallV hk (c_X10_kindAt e66) bX10_kindAt kX10_233 dX10_cut_66 rfl ⟨_, _, _, _, rfl, rfl⟩ rfl (by first | decide | omega) ⟨by decide, by decide⟩ (Nat.le_of_ble_eq_true rfl) (det ?_)
                obtain ⟨hi69, h⟩ := og_some h
                refine xiast hk dX10_cut_69 rfl (inB_v hi69) ?_
                refine xiload_n hk dX10_cut_70 rfl ?_
                refine xsipush (v := 400) hk dX10_cut_71 (by decide) ?_
                refine xicmp_ne hk 98 dX10_cut_74 (by decide) (fun h74 => ?_) (fun h74 => ?_)
                · rw [if_neg h74] at h
                  refine xaload_n hk dX10_cut_98 rfl ?_
                  refine xgetR (ci := 10) (f := 4) hk dX10_cut_99 ⟨rfl, by decide, _, rfl, rfl⟩ kX10_17 ?_
                  refine xiload_n hk dX10_cut_102 rfl ?_
                  obtain ⟨hi103, h⟩ := og_some h
                  refine xiald hk dX10_cut_103 rfl (inB_v hi103) ?_
                  refine xsipush (v := 900) hk dX10_cut_104 (by decide) ?_
                  refine xicmp_lt hk 111 dX10_cut_107 (by decide) (fun h107 => ?_) (fun h107 => ?_)
                  · rw [if_pos h107] at h
                    refine xiload_n hk dX10_cut_111 rfl ?_
                    refine xaload_n hk dX10_cut_112 rfl ?_
                    refine xgetR (ci := 10) (f := 6) hk dX10_cut_113 ⟨rfl, by decide, _, rfl, rfl⟩ kX10_23 ?_
                    refine xiload_n hk dX10_cut_116 rfl ?_
                    obtain ⟨hi117, h⟩ := og_some h
                    refine xiald hk dX10_cut_117 rfl (inB_v hi117) ?_
                    refine xiadd hk dX10_cut_118 ?_
                    refine xistore_n hk dX10_cut_119 (by decide) ?_
                    refine xiinc (v := (l2 + 1)) hk dX10_cut_120 rfl (by decide) rfl ?_
                    refine xgoto hk 4 dX10_cut_123 (by decide) ?_
                    refine xsub [(0, .ref (a 0)), (1, .int (l1 + ((setI u66.2 2 (l2 : Int32).toNatClampNeg u66.1).1 4 (l2 : Int32).toNatClampNeg))), (2, .int (l2 + 1))] rfl ?_
                    exact ih4 _ _ _ h
                  · rw [if_neg h107] at h
                    refine xvret hk he dX10_cut_110 ⟨by decide, by decide⟩ ?_
                    obtain rfl := Option.some.inj h
                    exact ⟨rfl, rfl⟩
                · rw [if_pos h74] at h
                  refine xaload_n hk dX10_cut_77 rfl ?_
                  refine xgetR (ci := 10) (f := 4) hk dX10_cut_78 ⟨rfl, by decide, _, rfl, rfl⟩ kX10_17 ?_
                  refine xiload_n hk dX10_cut_81 rfl ?_
                  obtain ⟨hi82, h⟩ := og_some h
                  refine xiald hk dX10_cut_82 rfl (inB_v hi82) ?_
                  refine xsipush (v := 900) hk dX10_cut_83 (by decide) ?_
                  refine xicmp_eq hk 98 dX10_cut_86 (by decide) (fun h86 => ?_) (fun h86 => ?_)
                  · rw [if_pos h86] at h
                    refine xaload_n hk dX10_cut_98 rfl ?_
                    refine xgetR (ci := 10) (f := 4) hk dX10_cut_99 ⟨rfl, by decide, _, rfl, rfl⟩ kX10_17 ?_
                    refine xiload_n hk dX10_cut_102 rfl ?_
                    obtain ⟨hi103, h⟩ := og_some h
                    refine xiald hk dX10_cut_103 rfl (inB_v hi103) ?_
                    refine xsipush (v := 900) hk dX10_cut_104 (by decide) ?_
                    refine xicmp_lt hk 111 dX10_cut_107 (by decide) (fun h107 => ?_) (fun h107 => ?_)
                    · rw [if_pos h107] at h
                      refine xiload_n hk dX10_cut_111 rfl ?_
                      refine xaload_n hk dX10_cut_112 rfl ?_
                      refine xgetR (ci := 10) (f := 6) hk dX10_cut_113 ⟨rfl, by decide, _, rfl, rfl⟩ kX10_23 ?_
                      refine xiload_n hk dX10_cut_116 rfl ?_
                      obtain ⟨hi117, h⟩ := og_some h
                      refine xiald hk dX10_cut_117 rfl (inB_v hi117) ?_
                      refine xiadd hk dX10_cut_118 ?_
                      refine xistore_n hk dX10_cut_119 (by decide) ?_
                      refine xiinc (v := (l2 + 1)) hk dX10_cut_120 rfl (by decide) rfl ?_
                      refine xgoto hk 4 dX10_cut_123 (by decide) ?_
                      refine xsub [(0, .ref (a 0)), (1, .int (l1 + ((setI u66.2 2 (l2 : Int32).toNatClampNeg u66.1).1 4 (l2 : Int32).toNatClampNeg))), (2, .int (l2 + 1))] rfl ?_
                      exact ih4 _ _ _ h
                    · rw [if_neg h107] at h
                      refine xvret hk he dX10_cut_110 ⟨by decide, by decide⟩ ?_
                      obtain rfl := Option.some.inj h
                      exact ⟨rfl, rfl⟩
                  · rw [if_neg h86] at h
                    refine xaload_n hk dX10_cut_89 rfl ?_
                    refine xgetR (ci := 10) (f := 4) hk dX10_cut_90 ⟨rfl, by decide, _, rfl, rfl⟩ kX10_17 ?_
                    refine xiload_n hk dX10_cut_93 rfl ?_
                    refine xsipush (v := 901) hk dX10_cut_94 (by decide) ?_
                    obtain ⟨hi97, h⟩ := og_some h
                    refine xiast hk dX10_cut_97 rfl (inB_v hi97) ?_
                    refine xaload_n hk dX10_cut_98 rfl ?_
                    refine xgetR (ci := 10) (f := 4) hk dX10_cut_99 ⟨rfl, by decide, _, rfl, rfl⟩ kX10_17 ?_
                    refine xiload_n hk dX10_cut_102 rfl ?_
                    obtain ⟨hi103, h⟩ := og_some h
                    refine xiald hk dX10_cut_103 rfl (inB_v hi103) ?_
                    refine xsipush (v := 900) hk dX10_cut_104 (by decide) ?_
                    refine xicmp_lt hk 111 dX10_cut_107 (by decide) (fun h107 => ?_) (fun h107 => ?_)
                    · rw [if_pos h107] at h
                      refine xiload_n hk dX10_cut_111 rfl ?_
                      refine xaload_n hk dX10_cut_112 rfl ?_
                      refine xgetR (ci := 10) (f := 6) hk dX10_cut_113 ⟨rfl, by decide, _, rfl, rfl⟩ kX10_23 ?_
                      refine xiload_n hk dX10_cut_116 rfl ?_
                      obtain ⟨hi117, h⟩ := og_some h
                      refine xiald hk dX10_cut_117 rfl (inB_v hi117) ?_
                      refine xiadd hk dX10_cut_118 ?_
                      refine xistore_n hk dX10_cut_119 (by decide) ?_
                      refine xiinc (v := (l2 + 1)) hk dX10_cut_120 rfl (by decide) rfl ?_
                      refine xgoto hk 4 dX10_cut_123 (by decide) ?_
                      refine xsub [(0, .ref (a 0)), (1, .int (l1 + ((setI (setI u66.2 2 (l2 : Int32).toNatClampNeg u66.1) 2 (l2 : Int32).toNatClampNeg 901).1 4 (l2 : Int32).toNatClampNeg))), (2, .int (l2 + 1))] rfl ?_
                      exact ih4 _ _ _ h
                    · rw [if_neg h107] at h
                      refine xvret hk he dX10_cut_110 ⟨by decide, by decide⟩ ?_
                      obtain rfl := Option.some.inj h
                      exact ⟨rfl, rfl⟩
              · rw [if_pos h28] at h
                refine xiinc (v := (l1 + 1)) hk dX10_cut_31 rfl (by decide) rfl ?_
                refine xgoto hk 11 dX10_cut_34 (by decide) ?_
                refine xsub [(0, .ref (a 0)), (1, .int (l1 + 1)), (2, .int l2)] rfl ?_
                exact ih11 _ _ _ h
        refine xsub [(0, .ref (a 0)), (1, .int l1), (2, .int l2)] rfl ?_
        exact loop11 _ _ _ _ h
  refine xsub [(0, .ref (a 0)), (1, .int 0), (2, .int 0)] rfl ?_
  exact loop4 _ _ _ _ h

