theorem kX10_296 : Cond.methodLink RX10 296 yX10_isSign ∈ GW := gw_mem 1424 (by decide +kernel) (by decide +kernel)
theorem bX10_isSign : CBv yX10_isSign cX10_isSign 2 (some .boolean) 1 := ⟨⟨gw_mem 1427 (by decide +kernel) (by decide +kernel), gw_mem 14 (by decide +kernel) (by decide +kernel), by decide +kernel, by decide⟩, gw_mem 1426 (by decide +kernel) (by decide +kernel), gw_sel 63 (by decide +kernel) (by decide +kernel)⟩
theorem kX10_293 : Cond.methodLink RX10 293 yX10_isDeeper ∈ GW := gw_mem 1416 (by decide +kernel) (by decide +kernel)
theorem bX10_isDeeper : CBv yX10_isDeeper cX10_isDeeper 1 (some .boolean) 0 := ⟨⟨gw_mem 1419 (by decide +kernel) (by decide +kernel), gw_mem 14 (by decide +kernel) (by decide +kernel), by decide +kernel, by decide⟩, gw_mem 1418 (by decide +kernel) (by decide +kernel), gw_sel 61 (by decide +kernel) (by decide +kernel)⟩
theorem kX10_305 : Cond.methodLink RX10 305 yX10_isSum ∈ GW := gw_mem 1448 (by decide +kernel) (by decide +kernel)
theorem bX10_isSum : CBv yX10_isSum cX10_isSum 2 (some .boolean) 0 := ⟨⟨gw_mem 1451 (by decide +kernel) (by decide +kernel), gw_mem 14 (by decide +kernel) (by decide +kernel), by decide +kernel, by decide⟩, gw_mem 1450 (by decide +kernel) (by decide +kernel), gw_sel 69 (by decide +kernel) (by decide +kernel)⟩
theorem kX10_256 : Cond.methodLink RX10 256 yX10_eatSign ∈ GW := gw_mem 1428 (by decide +kernel) (by decide +kernel)
theorem bX10_eatSign : CBv yX10_eatSign cX10_eatSign 2 (some .boolean) 1 := ⟨⟨gw_mem 1431 (by decide +kernel) (by decide +kernel), gw_mem 14 (by decide +kernel) (by decide +kernel), by decide +kernel, by decide⟩, gw_mem 1430 (by decide +kernel) (by decide +kernel), gw_sel 64 (by decide +kernel) (by decide +kernel)⟩
theorem kX10_320 : Cond.methodLink RX10 320 yX10_isInside ∈ GW := gw_mem 1464 (by decide +kernel) (by decide +kernel)
theorem bX10_isInside : CBv yX10_isInside cX10_isInside 3 (some .boolean) 2 := ⟨⟨gw_mem 1467 (by decide +kernel) (by decide +kernel), gw_mem 14 (by decide +kernel) (by decide +kernel), by decide +kernel, by decide⟩, gw_mem 1466 (by decide +kernel) (by decide +kernel), gw_sel 73 (by decide +kernel) (by decide +kernel)⟩
theorem kX10_314 : Cond.methodLink RX10 314 yX10_isValue ∈ GW := gw_mem 1456 (by decide +kernel) (by decide +kernel)
theorem bX10_isValue : CBv yX10_isValue cX10_isValue 2 (some .boolean) 0 := ⟨⟨gw_mem 1459 (by decide +kernel) (by decide +kernel), gw_mem 14 (by decide +kernel) (by decide +kernel), by decide +kernel, by decide⟩, gw_mem 1458 (by decide +kernel) (by decide +kernel), gw_sel 71 (by decide +kernel) (by decide +kernel)⟩
theorem kX10_317 : Cond.methodLink RX10 317 yX10_numberAt ∈ GW := gw_mem 1460 (by decide +kernel) (by decide +kernel)
theorem bX10_numberAt : CBv yX10_numberAt cX10_numberAt 4 (some .int) 1 := ⟨⟨gw_mem 1463 (by decide +kernel) (by decide +kernel), gw_mem 14 (by decide +kernel) (by decide +kernel), by decide +kernel, by decide⟩, gw_mem 1462 (by decide +kernel) (by decide +kernel), gw_sel 72 (by decide +kernel) (by decide +kernel)⟩
theorem kX10_311 : Cond.methodLink RX10 311 yX10_isProduct ∈ GW := gw_mem 1452 (by decide +kernel) (by decide +kernel)
theorem bX10_isProduct : CBv yX10_isProduct cX10_isProduct 2 (some .boolean) 0 := ⟨⟨gw_mem 1455 (by decide +kernel) (by decide +kernel), gw_mem 14 (by decide +kernel) (by decide +kernel), by decide +kernel, by decide⟩, gw_mem 1454 (by decide +kernel) (by decide +kernel), gw_sel 70 (by decide +kernel) (by decide +kernel)⟩
theorem kX10_302 : Cond.methodLink RX10 302 yX10_isOfClaims ∈ GW := gw_mem 1440 (by decide +kernel) (by decide +kernel)
theorem bX10_isOfClaims : CBv yX10_isOfClaims cX10_isOfClaims 2 (some .boolean) 1 := ⟨⟨gw_mem 1443 (by decide +kernel) (by decide +kernel), gw_mem 14 (by decide +kernel) (by decide +kernel), by decide +kernel, by decide⟩, gw_mem 1442 (by decide +kernel) (by decide +kernel), gw_sel 67 (by decide +kernel) (by decide +kernel)⟩
theorem kX10_299 : Cond.methodLink RX10 299 yX10_isNamed ∈ GW := gw_mem 1432 (by decide +kernel) (by decide +kernel)
theorem bX10_isNamed : CBv yX10_isNamed cX10_isNamed 2 (some .boolean) 1 := ⟨⟨gw_mem 1435 (by decide +kernel) (by decide +kernel), gw_mem 14 (by decide +kernel) (by decide +kernel), by decide +kernel, by decide⟩, gw_mem 1434 (by decide +kernel) (by decide +kernel), gw_sel 65 (by decide +kernel) (by decide +kernel)⟩
theorem kX10_269 : Cond.methodLink RX10 269 yX10_isTest ∈ GW := gw_mem 1404 (by decide +kernel) (by decide +kernel)
theorem bX10_isTest : CBv yX10_isTest cX10_isTest 1 (some .boolean) 0 := ⟨⟨gw_mem 1407 (by decide +kernel) (by decide +kernel), gw_mem 14 (by decide +kernel) (by decide +kernel), by decide +kernel, by decide⟩, gw_mem 1406 (by decide +kernel) (by decide +kernel), gw_sel 58 (by decide +kernel) (by decide +kernel)⟩
theorem kX10_278 : Cond.methodLink RX10 278 yX10_isSingle ∈ GW := gw_mem 1412 (by decide +kernel) (by decide +kernel)
theorem bX10_isSingle : CBv yX10_isSingle cX10_isSingle 2 (some .boolean) 0 := ⟨⟨gw_mem 1415 (by decide +kernel) (by decide +kernel), gw_mem 14 (by decide +kernel) (by decide +kernel), by decide +kernel, by decide⟩, gw_mem 1414 (by decide +kernel) (by decide +kernel), gw_sel 60 (by decide +kernel) (by decide +kernel)⟩
theorem kX10_272 : Cond.methodLink RX10 272 yX10_isBoth ∈ GW := gw_mem 1408 (by decide +kernel) (by decide +kernel)
theorem bX10_isBoth : CBv yX10_isBoth cX10_isBoth 1 (some .boolean) 0 := ⟨⟨gw_mem 1411 (by decide +kernel) (by decide +kernel), gw_mem 14 (by decide +kernel) (by decide +kernel), by decide +kernel, by decide⟩, gw_mem 1410 (by decide +kernel) (by decide +kernel), gw_sel 59 (by decide +kernel) (by decide +kernel)⟩
theorem kX10_266 : Cond.fieldLinkNest RX10 266 "FeudBookModel$Plan" "ordersRead" "I" "FeudBookModel" ∈ NW := nw_mem 1145 (by decide +kernel) rfl
theorem kX10_250 : Cond.methodLink RX10 250 yX10_isOrder ∈ GW := gw_mem 1399 (by decide +kernel) (by decide +kernel)
theorem bX10_isOrder : CBv yX10_isOrder cX10_isOrder 2 (some .boolean) 0 := ⟨⟨gw_mem 1402 (by decide +kernel) (by decide +kernel), gw_mem 14 (by decide +kernel) (by decide +kernel), by decide +kernel, by decide⟩, gw_mem 1401 (by decide +kernel) (by decide +kernel), gw_sel 57 (by decide +kernel) (by decide +kernel)⟩
theorem kX10_253 : Cond.methodLink RX10 253 yX10_isStatementLine ∈ GW := gw_mem 1468 (by decide +kernel) (by decide +kernel)
theorem bX10_isStatementLine : CBv yX10_isStatementLine cX10_isStatementLine 2 (some .boolean) 0 := ⟨⟨gw_mem 1471 (by decide +kernel) (by decide +kernel), gw_mem 14 (by decide +kernel) (by decide +kernel), by decide +kernel, by decide⟩, gw_mem 1470 (by decide +kernel) (by decide +kernel), gw_sel 74 (by decide +kernel) (by decide +kernel)⟩
theorem kX10_246 : Cond.methodLink RX10 246 yX10_isFamily ∈ GW := gw_mem 1387 (by decide +kernel) (by decide +kernel)
theorem bX10_isFamily : CBv yX10_isFamily cX10_isFamily 1 (some .boolean) 0 := ⟨⟨gw_mem 1390 (by decide +kernel) (by decide +kernel), gw_mem 14 (by decide +kernel) (by decide +kernel), by decide +kernel, by decide⟩, gw_mem 1389 (by decide +kernel) (by decide +kernel), gw_sel 54 (by decide +kernel) (by decide +kernel)⟩
def f_X10_isInside (S : XS → Option (Bool × XS)) (p : Int32) (q : Int32) (x : XS) : Option (Bool × XS) := ob (f_X10_isSign 40 x) (fun u3 => (if (b2i u3.1) = 0 then some (false, u3.2) else ob (f_X10_isDeeper u3.2) (fun u10 => (if (b2i u10.1) = 0 then some (false, u10.2) else ob (S u10.2) (fun u17 => (if (b2i u17.1) = 0 then some (false, u17.2) else (if q = 0 then (if q = 0 then ob (f_X10_eatSign 41 (setI u17.2 0 10 ((u17.2.1 0 10) - 1))) (fun u67 => some (u67.1, u67.2)) else ob (f_X10_put p (setI u17.2 0 10 ((u17.2.1 0 10) - 1))) (fun u61 => ob (f_X10_eatSign 41 u61) (fun u67 => some (u67.1, u67.2)))) else ob (f_X10_eatSign 44 u17.2) (fun u30 => (if (b2i u30.1) = 0 then some (false, u30.2) else ob (S u30.2) (fun u37 => (if (b2i u37.1) = 0 then some (false, u37.2) else (if q = 0 then ob (f_X10_eatSign 41 (setI u37.2 0 10 ((u37.2.1 0 10) - 1))) (fun u67 => some (u67.1, u67.2)) else ob (f_X10_put p (setI u37.2 0 10 ((u37.2.1 0 10) - 1))) (fun u61 => ob (f_X10_eatSign 41 u61) (fun u67 => some (u67.1, u67.2)))))))))))))))

set_option maxHeartbeats 4000000 in
set_option maxRecDepth 100000 in
theorem c_X10_isInside {g : Gx} {a : Nat → Nat} {x : XS} {S : XS → Option (Bool × XS)} {r : Nat} (hS : ∀ (x : XS) (u : Bool × XS), S x = some u → Mx g yX10_isSum cX10_isSum 2 (some .boolean) (10 * r + 4) 0 0 LM2 a x [.ref (a 0)] (pr (some (.int (b2i u.1))) u.2)) {p : Int32} {q : Int32} {u : Bool × XS}  (h : f_X10_isInside S p q x = some u) : Mx g yX10_isInside cX10_isInside 3 (some .boolean) (10 * r + 11) 0 0 LM2 a x [.ref (a 0), .int p, .int q] (pr (some (.int (b2i u.1))) u.2) := by
  refine Mx_of (by decide +kernel) (Nat.le_of_ble_eq_true rfl) ?_
  intro k hk he hg
  subst hg
  rw [f_X10_isInside] at h
  refine xaload_n hk dX10_isInside_0 rfl ?_
  refine xbipush (v := 40) hk dX10_isInside_1 (by decide) ?_
  obtain ⟨u3, e3, h⟩ := ob_some h
  refine xcallV hk (c_X10_isSign e3) bX10_isSign kX10_296 dX10_isInside_3 rfl ⟨_, _, _, _, rfl, rfl⟩ rfl (by first | decide | omega) ⟨by decide, by decide⟩ (Nat.le_of_ble_eq_true rfl) (det ?_)
  refine xif_eq hk 43 dX10_isInside_6 (by decide) (fun h6 => ?_) (fun h6 => ?_)
  · rw [if_pos h6] at h
    refine xiconst (v := 0) hk dX10_isInside_43 (by decide) ?_
    refine xzret hk he dX10_isInside_44 ⟨by decide, by decide⟩ (by first | with_reducible exact nar_b _ | rfl) ?_
    obtain rfl := Option.some.inj h
    exact ⟨rfl, rfl⟩
  · rw [if_neg h6] at h
    refine xaload_n hk dX10_isInside_9 rfl ?_
    obtain ⟨u10, e10, h⟩ := ob_some h
    refine xcallV hk (c_X10_isDeeper e10) bX10_isDeeper kX10_293 dX10_isInside_10 rfl ⟨_, _, _, _, rfl, rfl⟩ rfl (by first | decide | omega) ⟨by decide, by decide⟩ (Nat.le_of_ble_eq_true rfl) (det ?_)
    refine xif_eq hk 43 dX10_isInside_13 (by decide) (fun h13 => ?_) (fun h13 => ?_)
    · rw [if_pos h13] at h
      refine xiconst (v := 0) hk dX10_isInside_43 (by decide) ?_
      refine xzret hk he dX10_isInside_44 ⟨by decide, by decide⟩ (by first | with_reducible exact nar_b _ | rfl) ?_
      obtain rfl := Option.some.inj h
      exact ⟨rfl, rfl⟩
    · rw [if_neg h13] at h
      refine xaload_n hk dX10_isInside_16 rfl ?_
      obtain ⟨u17, e17, h⟩ := ob_some h
      refine xcallV hk (hS _ _ e17) bX10_isSum kX10_305 dX10_isInside_17 rfl ⟨_, _, _, _, rfl, rfl⟩ rfl (by first | decide | omega) ⟨by decide, by decide⟩ (Nat.le_of_ble_eq_true rfl) (det ?_)
      refine xif_eq hk 43 dX10_isInside_20 (by decide) (fun h20 => ?_) (fun h20 => ?_)
      · rw [if_pos h20] at h
        refine xiconst (v := 0) hk dX10_isInside_43 (by decide) ?_
        refine xzret hk he dX10_isInside_44 ⟨by decide, by decide⟩ (by first | with_reducible exact nar_b _ | rfl) ?_
        obtain rfl := Option.some.inj h
        exact ⟨rfl, rfl⟩
      · rw [if_neg h20] at h
        refine xiload_n hk dX10_isInside_23 rfl ?_
        refine xif_eq hk 45 dX10_isInside_24 (by decide) (fun h24 => ?_) (fun h24 => ?_)
        · rw [if_pos h24] at h
          refine xaload_n hk dX10_isInside_45 rfl ?_
          refine xdup hk dX10_isInside_46 rfl ?_
          refine xgetI (ci := 10) (f := 10) hk dX10_isInside_47 ⟨rfl, by decide, _, rfl, rfl⟩ kX10_281 ?_
          refine xiconst (v := 1) hk dX10_isInside_50 (by decide) ?_
          refine xisub hk dX10_isInside_51 ?_
          refine xputI (ci := 10) (f := 10) hk dX10_isInside_52 ⟨rfl, by decide, _, rfl, rfl⟩ kX10_281 ⟨rfl, by decide +kernel⟩ ?_
          refine xiload_n hk dX10_isInside_55 rfl ?_
          refine xif_eq hk 64 dX10_isInside_56 (by decide) (fun h56 => ?_) (fun h56 => ?_)
          · rw [if_pos h56] at h
            refine xaload_n hk dX10_isInside_64 rfl ?_
            refine xbipush (v := 41) hk dX10_isInside_65 (by decide) ?_
            obtain ⟨u67, e67, h⟩ := ob_some h
            refine xcallV hk (c_X10_eatSign e67) bX10_eatSign kX10_256 dX10_isInside_67 rfl ⟨_, _, _, _, rfl, rfl⟩ rfl (by first | decide | omega) ⟨by decide, by decide⟩ (Nat.le_of_ble_eq_true rfl) (det ?_)
            refine xzret hk he dX10_isInside_70 ⟨by decide, by decide⟩ (by first | with_reducible exact nar_b _ | rfl) ?_
            obtain rfl := Option.some.inj h
            exact ⟨rfl, rfl⟩
          · rw [if_neg h56] at h
            refine xaload_n hk dX10_isInside_59 rfl ?_
            refine xiload_n hk dX10_isInside_60 rfl ?_
            obtain ⟨u61, e61, h⟩ := ob_some h
            refine xcallV hk (c_X10_put e61) bX10_put kX10_275 dX10_isInside_61 rfl ⟨_, _, _, _, rfl, rfl⟩ rfl (by first | decide | omega) ⟨by decide, by decide⟩ (Nat.le_of_ble_eq_true rfl) (det ?_)
            refine xaload_n hk dX10_isInside_64 rfl ?_
            refine xbipush (v := 41) hk dX10_isInside_65 (by decide) ?_
            obtain ⟨u67, e67, h⟩ := ob_some h
            refine xcallV hk (c_X10_eatSign e67) bX10_eatSign kX10_256 dX10_isInside_67 rfl ⟨_, _, _, _, rfl, rfl⟩ rfl (by first | decide | omega) ⟨by decide, by decide⟩ (Nat.le_of_ble_eq_true rfl) (det ?_)
            refine xzret hk he dX10_isInside_70 ⟨by decide, by decide⟩ (by first | with_reducible exact nar_b _ | rfl) ?_
            obtain rfl := Option.some.inj h
            exact ⟨rfl, rfl⟩
        · rw [if_neg h24] at h
          refine xaload_n hk dX10_isInside_27 rfl ?_
          refine xbipush (v := 44) hk dX10_isInside_28 (by decide) ?_
          obtain ⟨u30, e30, h⟩ := ob_some h
          refine xcallV hk (c_X10_eatSign e30) bX10_eatSign kX10_256 dX10_isInside_30 rfl ⟨_, _, _, _, rfl, rfl⟩ rfl (by first | decide | omega) ⟨by decide, by decide⟩ (Nat.le_of_ble_eq_true rfl) (det ?_)
          refine xif_eq hk 43 dX10_isInside_33 (by decide) (fun h33 => ?_) (fun h33 => ?_)
          · rw [if_pos h33] at h
            refine xiconst (v := 0) hk dX10_isInside_43 (by decide) ?_
            refine xzret hk he dX10_isInside_44 ⟨by decide, by decide⟩ (by first | with_reducible exact nar_b _ | rfl) ?_
            obtain rfl := Option.some.inj h
            exact ⟨rfl, rfl⟩
          · rw [if_neg h33] at h
            refine xaload_n hk dX10_isInside_36 rfl ?_
            obtain ⟨u37, e37, h⟩ := ob_some h
            refine xcallV hk (hS _ _ e37) bX10_isSum kX10_305 dX10_isInside_37 rfl ⟨_, _, _, _, rfl, rfl⟩ rfl (by first | decide | omega) ⟨by decide, by decide⟩ (Nat.le_of_ble_eq_true rfl) (det ?_)
            refine xif_ne hk 45 dX10_isInside_40 (by decide) (fun h40 => ?_) (fun h40 => ?_)
            · rw [if_neg h40] at h
              refine xaload_n hk dX10_isInside_45 rfl ?_
              refine xdup hk dX10_isInside_46 rfl ?_
              refine xgetI (ci := 10) (f := 10) hk dX10_isInside_47 ⟨rfl, by decide, _, rfl, rfl⟩ kX10_281 ?_
              refine xiconst (v := 1) hk dX10_isInside_50 (by decide) ?_
              refine xisub hk dX10_isInside_51 ?_
              refine xputI (ci := 10) (f := 10) hk dX10_isInside_52 ⟨rfl, by decide, _, rfl, rfl⟩ kX10_281 ⟨rfl, by decide +kernel⟩ ?_
              refine xiload_n hk dX10_isInside_55 rfl ?_
              refine xif_eq hk 64 dX10_isInside_56 (by decide) (fun h56 => ?_) (fun h56 => ?_)
              · rw [if_pos h56] at h
                refine xaload_n hk dX10_isInside_64 rfl ?_
                refine xbipush (v := 41) hk dX10_isInside_65 (by decide) ?_
                obtain ⟨u67, e67, h⟩ := ob_some h
                refine xcallV hk (c_X10_eatSign e67) bX10_eatSign kX10_256 dX10_isInside_67 rfl ⟨_, _, _, _, rfl, rfl⟩ rfl (by first | decide | omega) ⟨by decide, by decide⟩ (Nat.le_of_ble_eq_true rfl) (det ?_)
                refine xzret hk he dX10_isInside_70 ⟨by decide, by decide⟩ (by first | with_reducible exact nar_b _ | rfl) ?_
                obtain rfl := Option.some.inj h
                exact ⟨rfl, rfl⟩
              · rw [if_neg h56] at h
                refine xaload_n hk dX10_isInside_59 rfl ?_
                refine xiload_n hk dX10_isInside_60 rfl ?_
                obtain ⟨u61, e61, h⟩ := ob_some h
                refine xcallV hk (c_X10_put e61) bX10_put kX10_275 dX10_isInside_61 rfl ⟨_, _, _, _, rfl, rfl⟩ rfl (by first | decide | omega) ⟨by decide, by decide⟩ (Nat.le_of_ble_eq_true rfl) (det ?_)
                refine xaload_n hk dX10_isInside_64 rfl ?_
                refine xbipush (v := 41) hk dX10_isInside_65 (by decide) ?_
                obtain ⟨u67, e67, h⟩ := ob_some h
                refine xcallV hk (c_X10_eatSign e67) bX10_eatSign kX10_256 dX10_isInside_67 rfl ⟨_, _, _, _, rfl, rfl⟩ rfl (by first | decide | omega) ⟨by decide, by decide⟩ (Nat.le_of_ble_eq_true rfl) (det ?_)
                refine xzret hk he dX10_isInside_70 ⟨by decide, by decide⟩ (by first | with_reducible exact nar_b _ | rfl) ?_
                obtain rfl := Option.some.inj h
                exact ⟨rfl, rfl⟩
            · rw [if_pos h40] at h
              refine xiconst (v := 0) hk dX10_isInside_43 (by decide) ?_
              refine xzret hk he dX10_isInside_44 ⟨by decide, by decide⟩ (by first | with_reducible exact nar_b _ | rfl) ?_
              obtain rfl := Option.some.inj h
              exact ⟨rfl, rfl⟩

def f_X10_isValue (S : XS → Option (Bool × XS)) (V : XS → Option (Bool × XS))  (x : XS) : Option (Bool × XS) := og (inB (x.1 0 9) 401) (ob (f_X10_is 41 x) (fun u13 => (if (b2i u13.1) = 0 then ob (f_X10_is 15 u13.2) (fun u52 => (if (b2i u52.1) = 0 then ob (f_X10_is 16 u52.2) (fun u61 => (if (b2i u61.1) = 0 then ob (f_X10_is 17 u61.2) (fun u70 => (if (b2i u70.1) = 0 then ob (f_X10_is 18 u70.2) (fun u79 => (if (b2i u79.1) = 0 then ob (f_X10_isSign 45 u79.2) (fun u105 => (if (b2i u105.1) = 0 then ob (f_X10_eat 25 u105.2) (fun u150 => (if (b2i u150.1) = 0 then ob (f_X10_eat 26 u150.2) (fun u159 => (if (b2i u159.1) = 0 then ob (f_X10_isInside S (x.1 2 ((x.1 0 9) : Int32).toNatClampNeg) 0 u159.2) (fun u170 => some (u170.1, u170.2)) else ob (f_X10_isInside S (x.1 2 ((x.1 0 9) : Int32).toNatClampNeg) 1 u159.2) (fun u170 => some (u170.1, u170.2)))) else ob (f_X10_isInside S (x.1 2 ((x.1 0 9) : Int32).toNatClampNeg) 1 u150.2) (fun u170 => some (u170.1, u170.2)))) else ob (f_X10_isDeeper u105.2) (fun u112 => (if (b2i u112.1) = 0 then some (false, u112.2) else ob (V u112.2) (fun u119 => (if (b2i u119.1) = 0 then some (false, u119.2) else ob (f_X10_put 33 (setI u119.2 0 10 ((u119.2.1 0 10) - 1))) (fun u140 => some (true, u140)))))))) else ob (f_X10_put (x.1 2 ((x.1 0 9) : Int32).toNatClampNeg) u79.2) (fun u87 => some (true, (setI u87 0 9 ((u87.1 0 9) + 1)))))) else ob (f_X10_put (x.1 2 ((x.1 0 9) : Int32).toNatClampNeg) u70.2) (fun u87 => some (true, (setI u87 0 9 ((u87.1 0 9) + 1)))))) else ob (f_X10_put (x.1 2 ((x.1 0 9) : Int32).toNatClampNeg) u61.2) (fun u87 => some (true, (setI u87 0 9 ((u87.1 0 9) + 1)))))) else ob (f_X10_put (x.1 2 ((x.1 0 9) : Int32).toNatClampNeg) u52.2) (fun u87 => some (true, (setI u87 0 9 ((u87.1 0 9) + 1)))))) else ob (f_X10_put 32 u13.2) (fun u22 => ob (f_X10_numberAt (u22.1 0 9) u22) (fun u31 => ob (f_X10_put u31.1 u31.2) (fun u34 => some (true, (setI u34 0 9 ((u34.1 0 9) + 1)))))))))

set_option maxHeartbeats 4000000 in
set_option maxRecDepth 100000 in
theorem c_X10_isValue {g : Gx} {a : Nat → Nat} {x : XS} {S : XS → Option (Bool × XS)} {V : XS → Option (Bool × XS)} {r : Nat} (hS : ∀ (x : XS) (u : Bool × XS), S x = some u → Mx g yX10_isSum cX10_isSum 2 (some .boolean) (10 * r + 4) 0 0 LM2 a x [.ref (a 0)] (pr (some (.int (b2i u.1))) u.2)) (hV : ∀ (x : XS) (u : Bool × XS), V x = some u → Mx g yX10_isValue cX10_isValue 2 (some .boolean) (10 * r + 2) 0 0 LM2 a x [.ref (a 0)] (pr (some (.int (b2i u.1))) u.2))  {u : Bool × XS}  (h : f_X10_isValue S V  x = some u) : Mx g yX10_isValue cX10_isValue 2 (some .boolean) (10 * r + 12) 0 0 LM2 a x [.ref (a 0)] (pr (some (.int (b2i u.1))) u.2) := by
  refine Mx_of (by decide +kernel) (Nat.le_of_ble_eq_true rfl) ?_
  intro k hk he hg
  subst hg
  rw [f_X10_isValue] at h
  refine xaload_n hk dX10_isValue_0 rfl ?_
  refine xgetR (ci := 10) (f := 4) hk dX10_isValue_1 ⟨rfl, by decide, _, rfl, rfl⟩ kX10_17 ?_
  refine xaload_n hk dX10_isValue_4 rfl ?_
  refine xgetI (ci := 10) (f := 9) hk dX10_isValue_5 ⟨rfl, by decide, _, rfl, rfl⟩ kX10_236 ?_
  obtain ⟨hi8, h⟩ := og_some h
  refine xiald hk dX10_isValue_8 rfl (inB_v hi8) ?_
  refine xistore_n hk dX10_isValue_9 (by decide) ?_
  refine xaload_n hk dX10_isValue_10 rfl ?_
  refine xbipush (v := 41) hk dX10_isValue_11 (by decide) ?_
  obtain ⟨u13, e13, h⟩ := ob_some h
  refine xcallV hk (c_X10_is e13) bX10_is kX10_239 dX10_isValue_13 rfl ⟨_, _, _, _, rfl, rfl⟩ rfl (by first | decide | omega) ⟨by decide, by decide⟩ (Nat.le_of_ble_eq_true rfl) (det ?_)
  refine xif_eq hk 49 dX10_isValue_16 (by decide) (fun h16 => ?_) (fun h16 => ?_)
  · rw [if_pos h16] at h
    refine xaload_n hk dX10_isValue_49 rfl ?_
    refine xbipush (v := 15) hk dX10_isValue_50 (by decide) ?_
    obtain ⟨u52, e52, h⟩ := ob_some h
    refine xcallV hk (c_X10_is e52) bX10_is kX10_239 dX10_isValue_52 rfl ⟨_, _, _, _, rfl, rfl⟩ rfl (by first | decide | omega) ⟨by decide, by decide⟩ (Nat.le_of_ble_eq_true rfl) (det ?_)
    refine xif_ne hk 85 dX10_isValue_55 (by decide) (fun h55 => ?_) (fun h55 => ?_)
    · rw [if_neg h55] at h
      refine xaload_n hk dX10_isValue_85 rfl ?_
      refine xiload_n hk dX10_isValue_86 rfl ?_
      obtain ⟨u87, e87, h⟩ := ob_some h
      refine xcallV hk (c_X10_put e87) bX10_put kX10_275 dX10_isValue_87 rfl ⟨_, _, _, _, rfl, rfl⟩ rfl (by first | decide | omega) ⟨by decide, by decide⟩ (Nat.le_of_ble_eq_true rfl) (det ?_)
      refine xaload_n hk dX10_isValue_90 rfl ?_
      refine xdup hk dX10_isValue_91 rfl ?_
      refine xgetI (ci := 10) (f := 9) hk dX10_isValue_92 ⟨rfl, by decide, _, rfl, rfl⟩ kX10_236 ?_
      refine xiconst (v := 1) hk dX10_isValue_95 (by decide) ?_
      refine xiadd hk dX10_isValue_96 ?_
      refine xputI (ci := 10) (f := 9) hk dX10_isValue_97 ⟨rfl, by decide, _, rfl, rfl⟩ kX10_236 ⟨rfl, by decide +kernel⟩ ?_
      refine xiconst (v := 1) hk dX10_isValue_100 (by decide) ?_
      refine xzret hk he dX10_isValue_101 ⟨by decide, by decide⟩ (by first | with_reducible exact nar_b _ | rfl) ?_
      obtain rfl := Option.some.inj h
      exact ⟨rfl, rfl⟩
    · rw [if_pos h55] at h
      refine xaload_n hk dX10_isValue_58 rfl ?_
      refine xbipush (v := 16) hk dX10_isValue_59 (by decide) ?_
      obtain ⟨u61, e61, h⟩ := ob_some h
      refine xcallV hk (c_X10_is e61) bX10_is kX10_239 dX10_isValue_61 rfl ⟨_, _, _, _, rfl, rfl⟩ rfl (by first | decide | omega) ⟨by decide, by decide⟩ (Nat.le_of_ble_eq_true rfl) (det ?_)
      refine xif_ne hk 85 dX10_isValue_64 (by decide) (fun h64 => ?_) (fun h64 => ?_)
      · rw [if_neg h64] at h
        refine xaload_n hk dX10_isValue_85 rfl ?_
        refine xiload_n hk dX10_isValue_86 rfl ?_
        obtain ⟨u87, e87, h⟩ := ob_some h
        refine xcallV hk (c_X10_put e87) bX10_put kX10_275 dX10_isValue_87 rfl ⟨_, _, _, _, rfl, rfl⟩ rfl (by first | decide | omega) ⟨by decide, by decide⟩ (Nat.le_of_ble_eq_true rfl) (det ?_)
        refine xaload_n hk dX10_isValue_90 rfl ?_
        refine xdup hk dX10_isValue_91 rfl ?_
        refine xgetI (ci := 10) (f := 9) hk dX10_isValue_92 ⟨rfl, by decide, _, rfl, rfl⟩ kX10_236 ?_
        refine xiconst (v := 1) hk dX10_isValue_95 (by decide) ?_
        refine xiadd hk dX10_isValue_96 ?_
        refine xputI (ci := 10) (f := 9) hk dX10_isValue_97 ⟨rfl, by decide, _, rfl, rfl⟩ kX10_236 ⟨rfl, by decide +kernel⟩ ?_
        refine xiconst (v := 1) hk dX10_isValue_100 (by decide) ?_
        refine xzret hk he dX10_isValue_101 ⟨by decide, by decide⟩ (by first | with_reducible exact nar_b _ | rfl) ?_
        obtain rfl := Option.some.inj h
        exact ⟨rfl, rfl⟩
      · rw [if_pos h64] at h
        refine xaload_n hk dX10_isValue_67 rfl ?_
        refine xbipush (v := 17) hk dX10_isValue_68 (by decide) ?_
        obtain ⟨u70, e70, h⟩ := ob_some h
        refine xcallV hk (c_X10_is e70) bX10_is kX10_239 dX10_isValue_70 rfl ⟨_, _, _, _, rfl, rfl⟩ rfl (by first | decide | omega) ⟨by decide, by decide⟩ (Nat.le_of_ble_eq_true rfl) (det ?_)
        refine xif_ne hk 85 dX10_isValue_73 (by decide) (fun h73 => ?_) (fun h73 => ?_)
        · rw [if_neg h73] at h
          refine xaload_n hk dX10_isValue_85 rfl ?_
          refine xiload_n hk dX10_isValue_86 rfl ?_
          obtain ⟨u87, e87, h⟩ := ob_some h
          refine xcallV hk (c_X10_put e87) bX10_put kX10_275 dX10_isValue_87 rfl ⟨_, _, _, _, rfl, rfl⟩ rfl (by first | decide | omega) ⟨by decide, by decide⟩ (Nat.le_of_ble_eq_true rfl) (det ?_)
          refine xaload_n hk dX10_isValue_90 rfl ?_
          refine xdup hk dX10_isValue_91 rfl ?_
          refine xgetI (ci := 10) (f := 9) hk dX10_isValue_92 ⟨rfl, by decide, _, rfl, rfl⟩ kX10_236 ?_
          refine xiconst (v := 1) hk dX10_isValue_95 (by decide) ?_
          refine xiadd hk dX10_isValue_96 ?_
          refine xputI (ci := 10) (f := 9) hk dX10_isValue_97 ⟨rfl, by decide, _, rfl, rfl⟩ kX10_236 ⟨rfl, by decide +kernel⟩ ?_
          refine xiconst (v := 1) hk dX10_isValue_100 (by decide) ?_
          refine xzret hk he dX10_isValue_101 ⟨by decide, by decide⟩ (by first | with_reducible exact nar_b _ | rfl) ?_
          obtain rfl := Option.some.inj h
          exact ⟨rfl, rfl⟩
        · rw [if_pos h73] at h
          refine xaload_n hk dX10_isValue_76 rfl ?_
          refine xbipush (v := 18) hk dX10_isValue_77 (by decide) ?_
          obtain ⟨u79, e79, h⟩ := ob_some h
          refine xcallV hk (c_X10_is e79) bX10_is kX10_239 dX10_isValue_79 rfl ⟨_, _, _, _, rfl, rfl⟩ rfl (by first | decide | omega) ⟨by decide, by decide⟩ (Nat.le_of_ble_eq_true rfl) (det ?_)
          refine xif_eq hk 102 dX10_isValue_82 (by decide) (fun h82 => ?_) (fun h82 => ?_)
          · rw [if_pos h82] at h
            refine xaload_n hk dX10_isValue_102 rfl ?_
            refine xbipush (v := 45) hk dX10_isValue_103 (by decide) ?_
            obtain ⟨u105, e105, h⟩ := ob_some h
            refine xcallV hk (c_X10_isSign e105) bX10_isSign kX10_296 dX10_isValue_105 rfl ⟨_, _, _, _, rfl, rfl⟩ rfl (by first | decide | omega) ⟨by decide, by decide⟩ (Nat.le_of_ble_eq_true rfl) (det ?_)
            refine xif_eq hk 145 dX10_isValue_108 (by decide) (fun h108 => ?_) (fun h108 => ?_)
            · rw [if_pos h108] at h
              refine xaload_n hk dX10_isValue_145 rfl ?_
              refine xiload_n hk dX10_isValue_146 rfl ?_
              refine xaload_n hk dX10_isValue_147 rfl ?_
              refine xbipush (v := 25) hk dX10_isValue_148 (by decide) ?_
              obtain ⟨u150, e150, h⟩ := ob_some h
              refine xcallV hk (c_X10_eat e150) bX10_eat kX10_242 dX10_isValue_150 rfl ⟨_, _, _, _, rfl, rfl⟩ rfl (by first | decide | omega) ⟨by decide, by decide⟩ (Nat.le_of_ble_eq_true rfl) (det ?_)
              refine xif_ne hk 165 dX10_isValue_153 (by decide) (fun h153 => ?_) (fun h153 => ?_)
              · rw [if_neg h153] at h
                refine xiconst (v := 1) hk dX10_isValue_165 (by decide) ?_
                refine xgoto hk 170 dX10_isValue_166 (by decide) ?_
                obtain ⟨u170, e170, h⟩ := ob_some h
                refine xcallV hk (c_X10_isInside hS e170) bX10_isInside kX10_320 dX10_isValue_170 rfl ⟨_, _, _, _, rfl, rfl⟩ rfl (by first | decide | omega) ⟨by decide, by decide⟩ (Nat.le_of_ble_eq_true rfl) (det ?_)
                refine xzret hk he dX10_isValue_173 ⟨by decide, by decide⟩ (by first | with_reducible exact nar_b _ | rfl) ?_
                obtain rfl := Option.some.inj h
                exact ⟨rfl, rfl⟩
              · rw [if_pos h153] at h
                refine xaload_n hk dX10_isValue_156 rfl ?_
                refine xbipush (v := 26) hk dX10_isValue_157 (by decide) ?_
                obtain ⟨u159, e159, h⟩ := ob_some h
                refine xcallV hk (c_X10_eat e159) bX10_eat kX10_242 dX10_isValue_159 rfl ⟨_, _, _, _, rfl, rfl⟩ rfl (by first | decide | omega) ⟨by decide, by decide⟩ (Nat.le_of_ble_eq_true rfl) (det ?_)
                refine xif_eq hk 169 dX10_isValue_162 (by decide) (fun h162 => ?_) (fun h162 => ?_)
                · rw [if_pos h162] at h
                  refine xiconst (v := 0) hk dX10_isValue_169 (by decide) ?_
                  obtain ⟨u170, e170, h⟩ := ob_some h
                  refine xcallV hk (c_X10_isInside hS e170) bX10_isInside kX10_320 dX10_isValue_170 rfl ⟨_, _, _, _, rfl, rfl⟩ rfl (by first | decide | omega) ⟨by decide, by decide⟩ (Nat.le_of_ble_eq_true rfl) (det ?_)
                  refine xzret hk he dX10_isValue_173 ⟨by decide, by decide⟩ (by first | with_reducible exact nar_b _ | rfl) ?_
                  obtain rfl := Option.some.inj h
                  exact ⟨rfl, rfl⟩
                · rw [if_neg h162] at h
                  refine xiconst (v := 1) hk dX10_isValue_165 (by decide) ?_
                  refine xgoto hk 170 dX10_isValue_166 (by decide) ?_
                  obtain ⟨u170, e170, h⟩ := ob_some h
                  refine xcallV hk (c_X10_isInside hS e170) bX10_isInside kX10_320 dX10_isValue_170 rfl ⟨_, _, _, _, rfl, rfl⟩ rfl (by first | decide | omega) ⟨by decide, by decide⟩ (Nat.le_of_ble_eq_true rfl) (det ?_)
                  refine xzret hk he dX10_isValue_173 ⟨by decide, by decide⟩ (by first | with_reducible exact nar_b _ | rfl) ?_
                  obtain rfl := Option.some.inj h
                  exact ⟨rfl, rfl⟩
            · rw [if_neg h108] at h
              refine xaload_n hk dX10_isValue_111 rfl ?_
              obtain ⟨u112, e112, h⟩ := ob_some h
              refine xcallV hk (c_X10_isDeeper e112) bX10_isDeeper kX10_293 dX10_isValue_112 rfl ⟨_, _, _, _, rfl, rfl⟩ rfl (by first | decide | omega) ⟨by decide, by decide⟩ (Nat.le_of_ble_eq_true rfl) (det ?_)
              refine xif_eq hk 125 dX10_isValue_115 (by decide) (fun h115 => ?_) (fun h115 => ?_)
              · rw [if_pos h115] at h
                refine xiconst (v := 0) hk dX10_isValue_125 (by decide) ?_
                refine xzret hk he dX10_isValue_126 ⟨by decide, by decide⟩ (by first | with_reducible exact nar_b _ | rfl) ?_
                obtain rfl := Option.some.inj h
                exact ⟨rfl, rfl⟩
              · rw [if_neg h115] at h
                refine xaload_n hk dX10_isValue_118 rfl ?_
                obtain ⟨u119, e119, h⟩ := ob_some h
                refine xcallV hk (hV _ _ e119) bX10_isValue kX10_314 dX10_isValue_119 rfl ⟨_, _, _, _, rfl, rfl⟩ rfl (by first | decide | omega) ⟨by decide, by decide⟩ (Nat.le_of_ble_eq_true rfl) (det ?_)
                refine xif_ne hk 127 dX10_isValue_122 (by decide) (fun h122 => ?_) (fun h122 => ?_)
                · rw [if_neg h122] at h
                  refine xaload_n hk dX10_isValue_127 rfl ?_
                  refine xdup hk dX10_isValue_128 rfl ?_
                  refine xgetI (ci := 10) (f := 10) hk dX10_isValue_129 ⟨rfl, by decide, _, rfl, rfl⟩ kX10_281 ?_
                  refine xiconst (v := 1) hk dX10_isValue_132 (by decide) ?_
                  refine xisub hk dX10_isValue_133 ?_
                  refine xputI (ci := 10) (f := 10) hk dX10_isValue_134 ⟨rfl, by decide, _, rfl, rfl⟩ kX10_281 ⟨rfl, by decide +kernel⟩ ?_
                  refine xaload_n hk dX10_isValue_137 rfl ?_
                  refine xbipush (v := 33) hk dX10_isValue_138 (by decide) ?_
                  obtain ⟨u140, e140, h⟩ := ob_some h
                  refine xcallV hk (c_X10_put e140) bX10_put kX10_275 dX10_isValue_140 rfl ⟨_, _, _, _, rfl, rfl⟩ rfl (by first | decide | omega) ⟨by decide, by decide⟩ (Nat.le_of_ble_eq_true rfl) (det ?_)
                  refine xiconst (v := 1) hk dX10_isValue_143 (by decide) ?_
                  refine xzret hk he dX10_isValue_144 ⟨by decide, by decide⟩ (by first | with_reducible exact nar_b _ | rfl) ?_
                  obtain rfl := Option.some.inj h
                  exact ⟨rfl, rfl⟩
                · rw [if_pos h122] at h
                  refine xiconst (v := 0) hk dX10_isValue_125 (by decide) ?_
                  refine xzret hk he dX10_isValue_126 ⟨by decide, by decide⟩ (by first | with_reducible exact nar_b _ | rfl) ?_
                  obtain rfl := Option.some.inj h
                  exact ⟨rfl, rfl⟩
          · rw [if_neg h82] at h
            refine xaload_n hk dX10_isValue_85 rfl ?_
            refine xiload_n hk dX10_isValue_86 rfl ?_
            obtain ⟨u87, e87, h⟩ := ob_some h
            refine xcallV hk (c_X10_put e87) bX10_put kX10_275 dX10_isValue_87 rfl ⟨_, _, _, _, rfl, rfl⟩ rfl (by first | decide | omega) ⟨by decide, by decide⟩ (Nat.le_of_ble_eq_true rfl) (det ?_)
            refine xaload_n hk dX10_isValue_90 rfl ?_
            refine xdup hk dX10_isValue_91 rfl ?_
            refine xgetI (ci := 10) (f := 9) hk dX10_isValue_92 ⟨rfl, by decide, _, rfl, rfl⟩ kX10_236 ?_
            refine xiconst (v := 1) hk dX10_isValue_95 (by decide) ?_
            refine xiadd hk dX10_isValue_96 ?_
            refine xputI (ci := 10) (f := 9) hk dX10_isValue_97 ⟨rfl, by decide, _, rfl, rfl⟩ kX10_236 ⟨rfl, by decide +kernel⟩ ?_
            refine xiconst (v := 1) hk dX10_isValue_100 (by decide) ?_
            refine xzret hk he dX10_isValue_101 ⟨by decide, by decide⟩ (by first | with_reducible exact nar_b _ | rfl) ?_
            obtain rfl := Option.some.inj h
            exact ⟨rfl, rfl⟩
  · rw [if_neg h16] at h
    refine xaload_n hk dX10_isValue_19 rfl ?_
    refine xbipush (v := 32) hk dX10_isValue_20 (by decide) ?_
    obtain ⟨u22, e22, h⟩ := ob_some h
    refine xcallV hk (c_X10_put e22) bX10_put kX10_275 dX10_isValue_22 rfl ⟨_, _, _, _, rfl, rfl⟩ rfl (by first | decide | omega) ⟨by decide, by decide⟩ (Nat.le_of_ble_eq_true rfl) (det ?_)
    refine xaload_n hk dX10_isValue_25 rfl ?_
    refine xaload_n hk dX10_isValue_26 rfl ?_
    refine xaload_n hk dX10_isValue_27 rfl ?_
    refine xgetI (ci := 10) (f := 9) hk dX10_isValue_28 ⟨rfl, by decide, _, rfl, rfl⟩ kX10_236 ?_
    obtain ⟨u31, e31, h⟩ := ob_some h
    refine xcallV hk (c_X10_numberAt e31) bX10_numberAt kX10_317 dX10_isValue_31 rfl ⟨_, _, _, _, rfl, rfl⟩ rfl (by first | decide | omega) ⟨by decide, by decide⟩ (Nat.le_of_ble_eq_true rfl) (det ?_)
    obtain ⟨u34, e34, h⟩ := ob_some h
    refine xcallV hk (c_X10_put e34) bX10_put kX10_275 dX10_isValue_34 rfl ⟨_, _, _, _, rfl, rfl⟩ rfl (by first | decide | omega) ⟨by decide, by decide⟩ (Nat.le_of_ble_eq_true rfl) (det ?_)
    refine xaload_n hk dX10_isValue_37 rfl ?_
    refine xdup hk dX10_isValue_38 rfl ?_
    refine xgetI (ci := 10) (f := 9) hk dX10_isValue_39 ⟨rfl, by decide, _, rfl, rfl⟩ kX10_236 ?_
    refine xiconst (v := 1) hk dX10_isValue_42 (by decide) ?_
    refine xiadd hk dX10_isValue_43 ?_
    refine xputI (ci := 10) (f := 9) hk dX10_isValue_44 ⟨rfl, by decide, _, rfl, rfl⟩ kX10_236 ⟨rfl, by decide +kernel⟩ ?_
    refine xiconst (v := 1) hk dX10_isValue_47 (by decide) ?_
    refine xzret hk he dX10_isValue_48 ⟨by decide, by decide⟩ (by first | with_reducible exact nar_b _ | rfl) ?_
    obtain rfl := Option.some.inj h
    exact ⟨rfl, rfl⟩

def f_X10_isProduct_L9 (V : XS → Option (Bool × XS))  : Nat → XS → Option (Bool × XS)
  | 0, _ => none
  | n + 1, x => ob (f_X10_isSign 42 x) (fun u12 => (if (b2i u12.1) = 0 then ob (f_X10_isSign 47 u12.2) (fun u21 => (if (b2i u21.1) = 0 then some (true, u21.2) else ob (f_X10_isSign 42 u21.2) (fun u30 => (if (b2i u30.1) = 0 then ob (V (setI u30.2 0 9 ((u30.2.1 0 9) + 1))) (fun u55 => (if (b2i u55.1) = 0 then some (false, u55.2) else ob (f_X10_put 37 u55.2) (fun u65 => (f_X10_isProduct_L9 V  n  u65)))) else ob (V (setI u30.2 0 9 ((u30.2.1 0 9) + 1))) (fun u55 => (if (b2i u55.1) = 0 then some (false, u55.2) else ob (f_X10_put 36 u55.2) (fun u65 => (f_X10_isProduct_L9 V  n  u65)))))))) else ob (f_X10_isSign 42 u12.2) (fun u30 => (if (b2i u30.1) = 0 then ob (V (setI u30.2 0 9 ((u30.2.1 0 9) + 1))) (fun u55 => (if (b2i u55.1) = 0 then some (false, u55.2) else ob (f_X10_put 37 u55.2) (fun u65 => (f_X10_isProduct_L9 V  n  u65)))) else ob (V (setI u30.2 0 9 ((u30.2.1 0 9) + 1))) (fun u55 => (if (b2i u55.1) = 0 then some (false, u55.2) else ob (f_X10_put 36 u55.2) (fun u65 => (f_X10_isProduct_L9 V  n  u65))))))))
def f_X10_isProduct (V : XS → Option (Bool × XS))  (x : XS) : Option (Bool × XS) := ob (V x) (fun u1 => (if (b2i u1.1) = 0 then some (false, u1.2) else (f_X10_isProduct_L9 V  402  u1.2)))

set_option maxHeartbeats 4000000 in
set_option maxRecDepth 100000 in
theorem c_X10_isProduct {g : Gx} {a : Nat → Nat} {x : XS} {V : XS → Option (Bool × XS)} {r : Nat} (hV : ∀ (x : XS) (u : Bool × XS), V x = some u → Mx g yX10_isValue cX10_isValue 2 (some .boolean) (10 * r + 12) 0 0 LM2 a x [.ref (a 0)] (pr (some (.int (b2i u.1))) u.2))  {u : Bool × XS}  (h : f_X10_isProduct V  x = some u) : Mx g yX10_isProduct cX10_isProduct 2 (some .boolean) (10 * r + 13) 0 0 LM2 a x [.ref (a 0)] (pr (some (.int (b2i u.1))) u.2) := by
  refine Mx_of (by decide +kernel) (Nat.le_of_ble_eq_true rfl) ?_
  intro k hk he hg
  subst hg
  rw [f_X10_isProduct] at h
  refine xaload_n hk dX10_isProduct_0 rfl ?_
  obtain ⟨u1, e1, h⟩ := ob_some h
  refine xcallV hk (hV _ _ e1) bX10_isValue kX10_314 dX10_isProduct_1 rfl ⟨_, _, _, _, rfl, rfl⟩ rfl (by first | decide | omega) ⟨by decide, by decide⟩ (Nat.le_of_ble_eq_true rfl) (det ?_)
  refine xif_ne hk 9 dX10_isProduct_4 (by decide) (fun h4 => ?_) (fun h4 => ?_)
  · rw [if_neg h4] at h
    have loop9 : ∀ (n9 : Nat)  (x : XS), f_X10_isProduct_L9 V  n9  x = some u → Wx k 0 0 LM2 a x 9 [(0, .ref (a 0))] [] := by
      intro n9
      induction n9 with
      | zero => intro  x h; rw [f_X10_isProduct_L9] at h; cases h
      | succ n9 ih9 =>
        intro  x h
        rw [f_X10_isProduct_L9] at h
        refine xaload_n hk dX10_isProduct_9 rfl ?_
        refine xbipush (v := 42) hk dX10_isProduct_10 (by decide) ?_
        obtain ⟨u12, e12, h⟩ := ob_some h
        refine xcallV hk (c_X10_isSign e12) bX10_isSign kX10_296 dX10_isProduct_12 rfl ⟨_, _, _, _, rfl, rfl⟩ rfl (by first | decide | omega) ⟨by decide, by decide⟩ (Nat.le_of_ble_eq_true rfl) (det ?_)
        refine xif_ne hk 27 dX10_isProduct_15 (by decide) (fun h15 => ?_) (fun h15 => ?_)
        · rw [if_neg h15] at h
          refine xaload_n hk dX10_isProduct_27 rfl ?_
          refine xbipush (v := 42) hk dX10_isProduct_28 (by decide) ?_
          obtain ⟨u30, e30, h⟩ := ob_some h
          refine xcallV hk (c_X10_isSign e30) bX10_isSign kX10_296 dX10_isProduct_30 rfl ⟨_, _, _, _, rfl, rfl⟩ rfl (by first | decide | omega) ⟨by decide, by decide⟩ (Nat.le_of_ble_eq_true rfl) (det ?_)
          refine xif_eq hk 41 dX10_isProduct_33 (by decide) (fun h33 => ?_) (fun h33 => ?_)
          · rw [if_pos h33] at h
            refine xbipush (v := 37) hk dX10_isProduct_41 (by decide) ?_
            refine xistore_n hk dX10_isProduct_43 (by decide) ?_
            refine xaload_n hk dX10_isProduct_44 rfl ?_
            refine xdup hk dX10_isProduct_45 rfl ?_
            refine xgetI (ci := 10) (f := 9) hk dX10_isProduct_46 ⟨rfl, by decide, _, rfl, rfl⟩ kX10_236 ?_
            refine xiconst (v := 1) hk dX10_isProduct_49 (by decide) ?_
            refine xiadd hk dX10_isProduct_50 ?_
            refine xputI (ci := 10) (f := 9) hk dX10_isProduct_51 ⟨rfl, by decide, _, rfl, rfl⟩ kX10_236 ⟨rfl, by decide +kernel⟩ ?_
            refine xaload_n hk dX10_isProduct_54 rfl ?_
            obtain ⟨u55, e55, h⟩ := ob_some h
            refine xcallV hk (hV _ _ e55) bX10_isValue kX10_314 dX10_isProduct_55 rfl ⟨_, _, _, _, rfl, rfl⟩ rfl (by first | decide | omega) ⟨by decide, by decide⟩ (Nat.le_of_ble_eq_true rfl) (det ?_)
            refine xif_ne hk 63 dX10_isProduct_58 (by decide) (fun h58 => ?_) (fun h58 => ?_)
            · rw [if_neg h58] at h
              refine xaload_n hk dX10_isProduct_63 rfl ?_
              refine xiload_n hk dX10_isProduct_64 rfl ?_
              obtain ⟨u65, e65, h⟩ := ob_some h
              refine xcallV hk (c_X10_put e65) bX10_put kX10_275 dX10_isProduct_65 rfl ⟨_, _, _, _, rfl, rfl⟩ rfl (by first | decide | omega) ⟨by decide, by decide⟩ (Nat.le_of_ble_eq_true rfl) (det ?_)
              refine xgoto hk 9 dX10_isProduct_68 (by decide) ?_
              refine xsub [(0, .ref (a 0))] rfl ?_
              exact ih9  _ h
            · rw [if_pos h58] at h
              refine xiconst (v := 0) hk dX10_isProduct_61 (by decide) ?_
              refine xzret hk he dX10_isProduct_62 ⟨by decide, by decide⟩ (by first | with_reducible exact nar_b _ | rfl) ?_
              obtain rfl := Option.some.inj h
              exact ⟨rfl, rfl⟩
          · rw [if_neg h33] at h
            refine xbipush (v := 36) hk dX10_isProduct_36 (by decide) ?_
            refine xgoto hk 43 dX10_isProduct_38 (by decide) ?_
            refine xistore_n hk dX10_isProduct_43 (by decide) ?_
            refine xaload_n hk dX10_isProduct_44 rfl ?_
            refine xdup hk dX10_isProduct_45 rfl ?_
            refine xgetI (ci := 10) (f := 9) hk dX10_isProduct_46 ⟨rfl, by decide, _, rfl, rfl⟩ kX10_236 ?_
            refine xiconst (v := 1) hk dX10_isProduct_49 (by decide) ?_
            refine xiadd hk dX10_isProduct_50 ?_
            refine xputI (ci := 10) (f := 9) hk dX10_isProduct_51 ⟨rfl, by decide, _, rfl, rfl⟩ kX10_236 ⟨rfl, by decide +kernel⟩ ?_
            refine xaload_n hk dX10_isProduct_54 rfl ?_
            obtain ⟨u55, e55, h⟩ := ob_some h
            refine xcallV hk (hV _ _ e55) bX10_isValue kX10_314 dX10_isProduct_55 rfl ⟨_, _, _, _, rfl, rfl⟩ rfl (by first | decide | omega) ⟨by decide, by decide⟩ (Nat.le_of_ble_eq_true rfl) (det ?_)
            refine xif_ne hk 63 dX10_isProduct_58 (by decide) (fun h58 => ?_) (fun h58 => ?_)
            · rw [if_neg h58] at h
              refine xaload_n hk dX10_isProduct_63 rfl ?_
              refine xiload_n hk dX10_isProduct_64 rfl ?_
              obtain ⟨u65, e65, h⟩ := ob_some h
              refine xcallV hk (c_X10_put e65) bX10_put kX10_275 dX10_isProduct_65 rfl ⟨_, _, _, _, rfl, rfl⟩ rfl (by first | decide | omega) ⟨by decide, by decide⟩ (Nat.le_of_ble_eq_true rfl) (det ?_)
              refine xgoto hk 9 dX10_isProduct_68 (by decide) ?_
              refine xsub [(0, .ref (a 0))] rfl ?_
              exact ih9  _ h
            · rw [if_pos h58] at h
              refine xiconst (v := 0) hk dX10_isProduct_61 (by decide) ?_
              refine xzret hk he dX10_isProduct_62 ⟨by decide, by decide⟩ (by first | with_reducible exact nar_b _ | rfl) ?_
              obtain rfl := Option.some.inj h
              exact ⟨rfl, rfl⟩
        · rw [if_pos h15] at h
          refine xaload_n hk dX10_isProduct_18 rfl ?_
          refine xbipush (v := 47) hk dX10_isProduct_19 (by decide) ?_
          obtain ⟨u21, e21, h⟩ := ob_some h
          refine xcallV hk (c_X10_isSign e21) bX10_isSign kX10_296 dX10_isProduct_21 rfl ⟨_, _, _, _, rfl, rfl⟩ rfl (by first | decide | omega) ⟨by decide, by decide⟩ (Nat.le_of_ble_eq_true rfl) (det ?_)
          refine xif_eq hk 71 dX10_isProduct_24 (by decide) (fun h24 => ?_) (fun h24 => ?_)
          · rw [if_pos h24] at h
            refine xiconst (v := 1) hk dX10_isProduct_71 (by decide) ?_
            refine xzret hk he dX10_isProduct_72 ⟨by decide, by decide⟩ (by first | with_reducible exact nar_b _ | rfl) ?_
            obtain rfl := Option.some.inj h
            exact ⟨rfl, rfl⟩
          · rw [if_neg h24] at h
            refine xaload_n hk dX10_isProduct_27 rfl ?_
            refine xbipush (v := 42) hk dX10_isProduct_28 (by decide) ?_
            obtain ⟨u30, e30, h⟩ := ob_some h
            refine xcallV hk (c_X10_isSign e30) bX10_isSign kX10_296 dX10_isProduct_30 rfl ⟨_, _, _, _, rfl, rfl⟩ rfl (by first | decide | omega) ⟨by decide, by decide⟩ (Nat.le_of_ble_eq_true rfl) (det ?_)
            refine xif_eq hk 41 dX10_isProduct_33 (by decide) (fun h33 => ?_) (fun h33 => ?_)
            · rw [if_pos h33] at h
              refine xbipush (v := 37) hk dX10_isProduct_41 (by decide) ?_
              refine xistore_n hk dX10_isProduct_43 (by decide) ?_
              refine xaload_n hk dX10_isProduct_44 rfl ?_
              refine xdup hk dX10_isProduct_45 rfl ?_
              refine xgetI (ci := 10) (f := 9) hk dX10_isProduct_46 ⟨rfl, by decide, _, rfl, rfl⟩ kX10_236 ?_
              refine xiconst (v := 1) hk dX10_isProduct_49 (by decide) ?_
              refine xiadd hk dX10_isProduct_50 ?_
              refine xputI (ci := 10) (f := 9) hk dX10_isProduct_51 ⟨rfl, by decide, _, rfl, rfl⟩ kX10_236 ⟨rfl, by decide +kernel⟩ ?_
              refine xaload_n hk dX10_isProduct_54 rfl ?_
              obtain ⟨u55, e55, h⟩ := ob_some h
              refine xcallV hk (hV _ _ e55) bX10_isValue kX10_314 dX10_isProduct_55 rfl ⟨_, _, _, _, rfl, rfl⟩ rfl (by first | decide | omega) ⟨by decide, by decide⟩ (Nat.le_of_ble_eq_true rfl) (det ?_)
              refine xif_ne hk 63 dX10_isProduct_58 (by decide) (fun h58 => ?_) (fun h58 => ?_)
              · rw [if_neg h58] at h
                refine xaload_n hk dX10_isProduct_63 rfl ?_
                refine xiload_n hk dX10_isProduct_64 rfl ?_
                obtain ⟨u65, e65, h⟩ := ob_some h
                refine xcallV hk (c_X10_put e65) bX10_put kX10_275 dX10_isProduct_65 rfl ⟨_, _, _, _, rfl, rfl⟩ rfl (by first | decide | omega) ⟨by decide, by decide⟩ (Nat.le_of_ble_eq_true rfl) (det ?_)
                refine xgoto hk 9 dX10_isProduct_68 (by decide) ?_
                refine xsub [(0, .ref (a 0))] rfl ?_
                exact ih9  _ h
              · rw [if_pos h58] at h
                refine xiconst (v := 0) hk dX10_isProduct_61 (by decide) ?_
                refine xzret hk he dX10_isProduct_62 ⟨by decide, by decide⟩ (by first | with_reducible exact nar_b _ | rfl) ?_
                obtain rfl := Option.some.inj h
                exact ⟨rfl, rfl⟩
            · rw [if_neg h33] at h
              refine xbipush (v := 36) hk dX10_isProduct_36 (by decide) ?_
              refine xgoto hk 43 dX10_isProduct_38 (by decide) ?_
              refine xistore_n hk dX10_isProduct_43 (by decide) ?_
              refine xaload_n hk dX10_isProduct_44 rfl ?_
              refine xdup hk dX10_isProduct_45 rfl ?_
              refine xgetI (ci := 10) (f := 9) hk dX10_isProduct_46 ⟨rfl, by decide, _, rfl, rfl⟩ kX10_236 ?_
              refine xiconst (v := 1) hk dX10_isProduct_49 (by decide) ?_
              refine xiadd hk dX10_isProduct_50 ?_
              refine xputI (ci := 10) (f := 9) hk dX10_isProduct_51 ⟨rfl, by decide, _, rfl, rfl⟩ kX10_236 ⟨rfl, by decide +kernel⟩ ?_
              refine xaload_n hk dX10_isProduct_54 rfl ?_
              obtain ⟨u55, e55, h⟩ := ob_some h
              refine xcallV hk (hV _ _ e55) bX10_isValue kX10_314 dX10_isProduct_55 rfl ⟨_, _, _, _, rfl, rfl⟩ rfl (by first | decide | omega) ⟨by decide, by decide⟩ (Nat.le_of_ble_eq_true rfl) (det ?_)
              refine xif_ne hk 63 dX10_isProduct_58 (by decide) (fun h58 => ?_) (fun h58 => ?_)
              · rw [if_neg h58] at h
                refine xaload_n hk dX10_isProduct_63 rfl ?_
                refine xiload_n hk dX10_isProduct_64 rfl ?_
                obtain ⟨u65, e65, h⟩ := ob_some h
                refine xcallV hk (c_X10_put e65) bX10_put kX10_275 dX10_isProduct_65 rfl ⟨_, _, _, _, rfl, rfl⟩ rfl (by first | decide | omega) ⟨by decide, by decide⟩ (Nat.le_of_ble_eq_true rfl) (det ?_)
                refine xgoto hk 9 dX10_isProduct_68 (by decide) ?_
                refine xsub [(0, .ref (a 0))] rfl ?_
                exact ih9  _ h
              · rw [if_pos h58] at h
                refine xiconst (v := 0) hk dX10_isProduct_61 (by decide) ?_
                refine xzret hk he dX10_isProduct_62 ⟨by decide, by decide⟩ (by first | with_reducible exact nar_b _ | rfl) ?_
                obtain rfl := Option.some.inj h
                exact ⟨rfl, rfl⟩
    refine xsub [(0, .ref (a 0))] rfl ?_
    exact loop9 _  _ h
  · rw [if_pos h4] at h
    refine xiconst (v := 0) hk dX10_isProduct_7 (by decide) ?_
    refine xzret hk he dX10_isProduct_8 ⟨by decide, by decide⟩ (by first | with_reducible exact nar_b _ | rfl) ?_
    obtain rfl := Option.some.inj h
    exact ⟨rfl, rfl⟩

def f_X10_isSum_L9 (P : XS → Option (Bool × XS))  : Nat → XS → Option (Bool × XS)
  | 0, _ => none
  | n + 1, x => ob (f_X10_isSign 43 x) (fun u12 => (if (b2i u12.1) = 0 then ob (f_X10_isSign 45 u12.2) (fun u21 => (if (b2i u21.1) = 0 then some (true, u21.2) else ob (f_X10_isSign 43 u21.2) (fun u30 => (if (b2i u30.1) = 0 then ob (P (setI u30.2 0 9 ((u30.2.1 0 9) + 1))) (fun u55 => (if (b2i u55.1) = 0 then some (false, u55.2) else ob (f_X10_put 35 u55.2) (fun u65 => (f_X10_isSum_L9 P  n  u65)))) else ob (P (setI u30.2 0 9 ((u30.2.1 0 9) + 1))) (fun u55 => (if (b2i u55.1) = 0 then some (false, u55.2) else ob (f_X10_put 34 u55.2) (fun u65 => (f_X10_isSum_L9 P  n  u65)))))))) else ob (f_X10_isSign 43 u12.2) (fun u30 => (if (b2i u30.1) = 0 then ob (P (setI u30.2 0 9 ((u30.2.1 0 9) + 1))) (fun u55 => (if (b2i u55.1) = 0 then some (false, u55.2) else ob (f_X10_put 35 u55.2) (fun u65 => (f_X10_isSum_L9 P  n  u65)))) else ob (P (setI u30.2 0 9 ((u30.2.1 0 9) + 1))) (fun u55 => (if (b2i u55.1) = 0 then some (false, u55.2) else ob (f_X10_put 34 u55.2) (fun u65 => (f_X10_isSum_L9 P  n  u65))))))))
def f_X10_isSum (P : XS → Option (Bool × XS))  (x : XS) : Option (Bool × XS) := ob (P x) (fun u1 => (if (b2i u1.1) = 0 then some (false, u1.2) else (f_X10_isSum_L9 P  402  u1.2)))

set_option maxHeartbeats 4000000 in
set_option maxRecDepth 100000 in
theorem c_X10_isSum {g : Gx} {a : Nat → Nat} {x : XS} {P : XS → Option (Bool × XS)} {r : Nat} (hP : ∀ (x : XS) (u : Bool × XS), P x = some u → Mx g yX10_isProduct cX10_isProduct 2 (some .boolean) (10 * r + 13) 0 0 LM2 a x [.ref (a 0)] (pr (some (.int (b2i u.1))) u.2))  {u : Bool × XS}  (h : f_X10_isSum P  x = some u) : Mx g yX10_isSum cX10_isSum 2 (some .boolean) (10 * r + 14) 0 0 LM2 a x [.ref (a 0)] (pr (some (.int (b2i u.1))) u.2) := by
  refine Mx_of (by decide +kernel) (Nat.le_of_ble_eq_true rfl) ?_
  intro k hk he hg
  subst hg
  rw [f_X10_isSum] at h
  refine xaload_n hk dX10_isSum_0 rfl ?_
  obtain ⟨u1, e1, h⟩ := ob_some h
  refine xcallV hk (hP _ _ e1) bX10_isProduct kX10_311 dX10_isSum_1 rfl ⟨_, _, _, _, rfl, rfl⟩ rfl (by first | decide | omega) ⟨by decide, by decide⟩ (Nat.le_of_ble_eq_true rfl) (det ?_)
  refine xif_ne hk 9 dX10_isSum_4 (by decide) (fun h4 => ?_) (fun h4 => ?_)
  · rw [if_neg h4] at h
    have loop9 : ∀ (n9 : Nat)  (x : XS), f_X10_isSum_L9 P  n9  x = some u → Wx k 0 0 LM2 a x 9 [(0, .ref (a 0))] [] := by
      intro n9
      induction n9 with
      | zero => intro  x h; rw [f_X10_isSum_L9] at h; cases h
      | succ n9 ih9 =>
        intro  x h
        rw [f_X10_isSum_L9] at h
        refine xaload_n hk dX10_isSum_9 rfl ?_
        refine xbipush (v := 43) hk dX10_isSum_10 (by decide) ?_
        obtain ⟨u12, e12, h⟩ := ob_some h
        refine xcallV hk (c_X10_isSign e12) bX10_isSign kX10_296 dX10_isSum_12 rfl ⟨_, _, _, _, rfl, rfl⟩ rfl (by first | decide | omega) ⟨by decide, by decide⟩ (Nat.le_of_ble_eq_true rfl) (det ?_)
        refine xif_ne hk 27 dX10_isSum_15 (by decide) (fun h15 => ?_) (fun h15 => ?_)
        · rw [if_neg h15] at h
          refine xaload_n hk dX10_isSum_27 rfl ?_
          refine xbipush (v := 43) hk dX10_isSum_28 (by decide) ?_
          obtain ⟨u30, e30, h⟩ := ob_some h
          refine xcallV hk (c_X10_isSign e30) bX10_isSign kX10_296 dX10_isSum_30 rfl ⟨_, _, _, _, rfl, rfl⟩ rfl (by first | decide | omega) ⟨by decide, by decide⟩ (Nat.le_of_ble_eq_true rfl) (det ?_)
          refine xif_eq hk 41 dX10_isSum_33 (by decide) (fun h33 => ?_) (fun h33 => ?_)
          · rw [if_pos h33] at h
            refine xbipush (v := 35) hk dX10_isSum_41 (by decide) ?_
            refine xistore_n hk dX10_isSum_43 (by decide) ?_
            refine xaload_n hk dX10_isSum_44 rfl ?_
            refine xdup hk dX10_isSum_45 rfl ?_
            refine xgetI (ci := 10) (f := 9) hk dX10_isSum_46 ⟨rfl, by decide, _, rfl, rfl⟩ kX10_236 ?_
            refine xiconst (v := 1) hk dX10_isSum_49 (by decide) ?_
            refine xiadd hk dX10_isSum_50 ?_
            refine xputI (ci := 10) (f := 9) hk dX10_isSum_51 ⟨rfl, by decide, _, rfl, rfl⟩ kX10_236 ⟨rfl, by decide +kernel⟩ ?_
            refine xaload_n hk dX10_isSum_54 rfl ?_
            obtain ⟨u55, e55, h⟩ := ob_some h
            refine xcallV hk (hP _ _ e55) bX10_isProduct kX10_311 dX10_isSum_55 rfl ⟨_, _, _, _, rfl, rfl⟩ rfl (by first | decide | omega) ⟨by decide, by decide⟩ (Nat.le_of_ble_eq_true rfl) (det ?_)
            refine xif_ne hk 63 dX10_isSum_58 (by decide) (fun h58 => ?_) (fun h58 => ?_)
            · rw [if_neg h58] at h
              refine xaload_n hk dX10_isSum_63 rfl ?_
              refine xiload_n hk dX10_isSum_64 rfl ?_
              obtain ⟨u65, e65, h⟩ := ob_some h
              refine xcallV hk (c_X10_put e65) bX10_put kX10_275 dX10_isSum_65 rfl ⟨_, _, _, _, rfl, rfl⟩ rfl (by first | decide | omega) ⟨by decide, by decide⟩ (Nat.le_of_ble_eq_true rfl) (det ?_)
              refine xgoto hk 9 dX10_isSum_68 (by decide) ?_
              refine xsub [(0, .ref (a 0))] rfl ?_
              exact ih9  _ h
            · rw [if_pos h58] at h
              refine xiconst (v := 0) hk dX10_isSum_61 (by decide) ?_
              refine xzret hk he dX10_isSum_62 ⟨by decide, by decide⟩ (by first | with_reducible exact nar_b _ | rfl) ?_
              obtain rfl := Option.some.inj h
              exact ⟨rfl, rfl⟩
          · rw [if_neg h33] at h
            refine xbipush (v := 34) hk dX10_isSum_36 (by decide) ?_
            refine xgoto hk 43 dX10_isSum_38 (by decide) ?_
            refine xistore_n hk dX10_isSum_43 (by decide) ?_
            refine xaload_n hk dX10_isSum_44 rfl ?_
            refine xdup hk dX10_isSum_45 rfl ?_
            refine xgetI (ci := 10) (f := 9) hk dX10_isSum_46 ⟨rfl, by decide, _, rfl, rfl⟩ kX10_236 ?_
            refine xiconst (v := 1) hk dX10_isSum_49 (by decide) ?_
            refine xiadd hk dX10_isSum_50 ?_
            refine xputI (ci := 10) (f := 9) hk dX10_isSum_51 ⟨rfl, by decide, _, rfl, rfl⟩ kX10_236 ⟨rfl, by decide +kernel⟩ ?_
            refine xaload_n hk dX10_isSum_54 rfl ?_
            obtain ⟨u55, e55, h⟩ := ob_some h
            refine xcallV hk (hP _ _ e55) bX10_isProduct kX10_311 dX10_isSum_55 rfl ⟨_, _, _, _, rfl, rfl⟩ rfl (by first | decide | omega) ⟨by decide, by decide⟩ (Nat.le_of_ble_eq_true rfl) (det ?_)
            refine xif_ne hk 63 dX10_isSum_58 (by decide) (fun h58 => ?_) (fun h58 => ?_)
            · rw [if_neg h58] at h
              refine xaload_n hk dX10_isSum_63 rfl ?_
              refine xiload_n hk dX10_isSum_64 rfl ?_
              obtain ⟨u65, e65, h⟩ := ob_some h
              refine xcallV hk (c_X10_put e65) bX10_put kX10_275 dX10_isSum_65 rfl ⟨_, _, _, _, rfl, rfl⟩ rfl (by first | decide | omega) ⟨by decide, by decide⟩ (Nat.le_of_ble_eq_true rfl) (det ?_)
              refine xgoto hk 9 dX10_isSum_68 (by decide) ?_
              refine xsub [(0, .ref (a 0))] rfl ?_
              exact ih9  _ h
            · rw [if_pos h58] at h
              refine xiconst (v := 0) hk dX10_isSum_61 (by decide) ?_
              refine xzret hk he dX10_isSum_62 ⟨by decide, by decide⟩ (by first | with_reducible exact nar_b _ | rfl) ?_
              obtain rfl := Option.some.inj h
              exact ⟨rfl, rfl⟩
        · rw [if_pos h15] at h
          refine xaload_n hk dX10_isSum_18 rfl ?_
          refine xbipush (v := 45) hk dX10_isSum_19 (by decide) ?_
          obtain ⟨u21, e21, h⟩ := ob_some h
          refine xcallV hk (c_X10_isSign e21) bX10_isSign kX10_296 dX10_isSum_21 rfl ⟨_, _, _, _, rfl, rfl⟩ rfl (by first | decide | omega) ⟨by decide, by decide⟩ (Nat.le_of_ble_eq_true rfl) (det ?_)
          refine xif_eq hk 71 dX10_isSum_24 (by decide) (fun h24 => ?_) (fun h24 => ?_)
          · rw [if_pos h24] at h
            refine xiconst (v := 1) hk dX10_isSum_71 (by decide) ?_
            refine xzret hk he dX10_isSum_72 ⟨by decide, by decide⟩ (by first | with_reducible exact nar_b _ | rfl) ?_
            obtain rfl := Option.some.inj h
            exact ⟨rfl, rfl⟩
          · rw [if_neg h24] at h
            refine xaload_n hk dX10_isSum_27 rfl ?_
            refine xbipush (v := 43) hk dX10_isSum_28 (by decide) ?_
            obtain ⟨u30, e30, h⟩ := ob_some h
            refine xcallV hk (c_X10_isSign e30) bX10_isSign kX10_296 dX10_isSum_30 rfl ⟨_, _, _, _, rfl, rfl⟩ rfl (by first | decide | omega) ⟨by decide, by decide⟩ (Nat.le_of_ble_eq_true rfl) (det ?_)
            refine xif_eq hk 41 dX10_isSum_33 (by decide) (fun h33 => ?_) (fun h33 => ?_)
            · rw [if_pos h33] at h
              refine xbipush (v := 35) hk dX10_isSum_41 (by decide) ?_
              refine xistore_n hk dX10_isSum_43 (by decide) ?_
              refine xaload_n hk dX10_isSum_44 rfl ?_
              refine xdup hk dX10_isSum_45 rfl ?_
              refine xgetI (ci := 10) (f := 9) hk dX10_isSum_46 ⟨rfl, by decide, _, rfl, rfl⟩ kX10_236 ?_
              refine xiconst (v := 1) hk dX10_isSum_49 (by decide) ?_
              refine xiadd hk dX10_isSum_50 ?_
              refine xputI (ci := 10) (f := 9) hk dX10_isSum_51 ⟨rfl, by decide, _, rfl, rfl⟩ kX10_236 ⟨rfl, by decide +kernel⟩ ?_
              refine xaload_n hk dX10_isSum_54 rfl ?_
              obtain ⟨u55, e55, h⟩ := ob_some h
              refine xcallV hk (hP _ _ e55) bX10_isProduct kX10_311 dX10_isSum_55 rfl ⟨_, _, _, _, rfl, rfl⟩ rfl (by first | decide | omega) ⟨by decide, by decide⟩ (Nat.le_of_ble_eq_true rfl) (det ?_)
              refine xif_ne hk 63 dX10_isSum_58 (by decide) (fun h58 => ?_) (fun h58 => ?_)
              · rw [if_neg h58] at h
                refine xaload_n hk dX10_isSum_63 rfl ?_
                refine xiload_n hk dX10_isSum_64 rfl ?_
                obtain ⟨u65, e65, h⟩ := ob_some h
                refine xcallV hk (c_X10_put e65) bX10_put kX10_275 dX10_isSum_65 rfl ⟨_, _, _, _, rfl, rfl⟩ rfl (by first | decide | omega) ⟨by decide, by decide⟩ (Nat.le_of_ble_eq_true rfl) (det ?_)
                refine xgoto hk 9 dX10_isSum_68 (by decide) ?_
                refine xsub [(0, .ref (a 0))] rfl ?_
                exact ih9  _ h
              · rw [if_pos h58] at h
                refine xiconst (v := 0) hk dX10_isSum_61 (by decide) ?_
                refine xzret hk he dX10_isSum_62 ⟨by decide, by decide⟩ (by first | with_reducible exact nar_b _ | rfl) ?_
                obtain rfl := Option.some.inj h
                exact ⟨rfl, rfl⟩
            · rw [if_neg h33] at h
              refine xbipush (v := 34) hk dX10_isSum_36 (by decide) ?_
              refine xgoto hk 43 dX10_isSum_38 (by decide) ?_
              refine xistore_n hk dX10_isSum_43 (by decide) ?_
              refine xaload_n hk dX10_isSum_44 rfl ?_
              refine xdup hk dX10_isSum_45 rfl ?_
              refine xgetI (ci := 10) (f := 9) hk dX10_isSum_46 ⟨rfl, by decide, _, rfl, rfl⟩ kX10_236 ?_
              refine xiconst (v := 1) hk dX10_isSum_49 (by decide) ?_
              refine xiadd hk dX10_isSum_50 ?_
              refine xputI (ci := 10) (f := 9) hk dX10_isSum_51 ⟨rfl, by decide, _, rfl, rfl⟩ kX10_236 ⟨rfl, by decide +kernel⟩ ?_
              refine xaload_n hk dX10_isSum_54 rfl ?_
              obtain ⟨u55, e55, h⟩ := ob_some h
              refine xcallV hk (hP _ _ e55) bX10_isProduct kX10_311 dX10_isSum_55 rfl ⟨_, _, _, _, rfl, rfl⟩ rfl (by first | decide | omega) ⟨by decide, by decide⟩ (Nat.le_of_ble_eq_true rfl) (det ?_)
              refine xif_ne hk 63 dX10_isSum_58 (by decide) (fun h58 => ?_) (fun h58 => ?_)
              · rw [if_neg h58] at h
                refine xaload_n hk dX10_isSum_63 rfl ?_
                refine xiload_n hk dX10_isSum_64 rfl ?_
                obtain ⟨u65, e65, h⟩ := ob_some h
                refine xcallV hk (c_X10_put e65) bX10_put kX10_275 dX10_isSum_65 rfl ⟨_, _, _, _, rfl, rfl⟩ rfl (by first | decide | omega) ⟨by decide, by decide⟩ (Nat.le_of_ble_eq_true rfl) (det ?_)
                refine xgoto hk 9 dX10_isSum_68 (by decide) ?_
                refine xsub [(0, .ref (a 0))] rfl ?_
                exact ih9  _ h
              · rw [if_pos h58] at h
                refine xiconst (v := 0) hk dX10_isSum_61 (by decide) ?_
                refine xzret hk he dX10_isSum_62 ⟨by decide, by decide⟩ (by first | with_reducible exact nar_b _ | rfl) ?_
                obtain rfl := Option.some.inj h
                exact ⟨rfl, rfl⟩
    refine xsub [(0, .ref (a 0))] rfl ?_
    exact loop9 _  _ h
  · rw [if_pos h4] at h
    refine xiconst (v := 0) hk dX10_isSum_7 (by decide) ?_
    refine xzret hk he dX10_isSum_8 ⟨by decide, by decide⟩ (by first | with_reducible exact nar_b _ | rfl) ?_
    obtain rfl := Option.some.inj h
    exact ⟨rfl, rfl⟩

def f_X10_isSingle (T : XS → Option (Bool × XS)) (Z : XS → Option (Bool × XS)) (S : XS → Option (Bool × XS))  (x : XS) : Option (Bool × XS) := ob (f_X10_is 23 x) (fun u3 => (if (b2i u3.1) = 0 then ob (f_X10_isSign 91 u3.2) (fun u46 => (if (b2i u46.1) = 0 then ob (f_X10_is 20 u46.2) (fun u88 => (if (b2i u88.1) = 0 then ob (f_X10_is 19 u88.2) (fun u104 => (if (b2i u104.1) = 0 then ob (f_X10_is 21 u104.2) (fun u113 => (if (b2i u113.1) = 0 then ob (S u113.2) (fun u134 => (if (b2i u134.1) = 0 then some (false, u134.2) else ob (f_X10_isSign 60 u134.2) (fun u145 => (if (b2i u145.1) = 0 then ob (f_X10_isSign 62 u145.2) (fun u159 => (if (b2i u159.1) = 0 then ob (f_X10_isSign 61 u159.2) (fun u173 => (if (b2i u173.1) = 0 then ob (f_X10_is 300 u173.2) (fun u188 => (if (b2i u188.1) = 0 then ob (f_X10_is 301 u188.2) (fun u203 => (if (b2i u203.1) = 0 then some (false, u203.2) else ob (S (setI u203.2 0 9 ((u203.2.1 0 9) + 1))) (fun u234 => (if (b2i u234.1) = 0 then some (false, u234.2) else ob (f_X10_put 44 u234.2) (fun u244 => some (true, u244)))))) else ob (S (setI u188.2 0 9 ((u188.2.1 0 9) + 1))) (fun u234 => (if (b2i u234.1) = 0 then some (false, u234.2) else ob (f_X10_put 43 u234.2) (fun u244 => some (true, u244)))))) else ob (S (setI u173.2 0 9 ((u173.2.1 0 9) + 1))) (fun u234 => (if (b2i u234.1) = 0 then some (false, u234.2) else ob (f_X10_put 42 u234.2) (fun u244 => some (true, u244)))))) else ob (S (setI u159.2 0 9 ((u159.2.1 0 9) + 1))) (fun u234 => (if (b2i u234.1) = 0 then some (false, u234.2) else ob (f_X10_put 39 u234.2) (fun u244 => some (true, u244)))))) else ob (S (setI u145.2 0 9 ((u145.2.1 0 9) + 1))) (fun u234 => (if (b2i u234.1) = 0 then some (false, u234.2) else ob (f_X10_put 38 u234.2) (fun u244 => some (true, u244)))))))) else og (inB (u113.2.1 0 9) 401) (ob (f_X10_isOfClaims (u113.2.1 2 ((u113.2.1 0 9) : Int32).toNatClampNeg) u113.2) (fun u129 => some (u129.1, u129.2))))) else og (inB (u104.2.1 0 9) 401) (ob (f_X10_isOfClaims (u104.2.1 2 ((u104.2.1 0 9) : Int32).toNatClampNeg) u104.2) (fun u129 => some (u129.1, u129.2))))) else ob (f_X10_isNamed 8 u88.2) (fun u97 => some (u97.1, u97.2)))) else ob (f_X10_isDeeper u46.2) (fun u53 => (if (b2i u53.1) = 0 then some (false, u53.2) else ob (T u53.2) (fun u60 => (if (b2i u60.1) = 0 then some (false, u60.2) else ob (f_X10_eatSign 93 (setI u60.2 0 10 ((u60.2.1 0 10) - 1))) (fun u81 => some (u81.1, u81.2)))))))) else ob (f_X10_isDeeper u3.2) (fun u10 => (if (b2i u10.1) = 0 then some (false, u10.2) else ob (Z u10.2) (fun u17 => (if (b2i u17.1) = 0 then some (false, u17.2) else ob (f_X10_put 23 (setI u17.2 0 10 ((u17.2.1 0 10) - 1))) (fun u38 => some (true, u38))))))))

set_option maxHeartbeats 4000000 in
set_option maxRecDepth 100000 in
theorem c_X10_isSingle {g : Gx} {a : Nat → Nat} {x : XS} {T : XS → Option (Bool × XS)} {Z : XS → Option (Bool × XS)} {S : XS → Option (Bool × XS)} {r : Nat} (hT : ∀ (x : XS) (u : Bool × XS), T x = some u → Mx g yX10_isTest cX10_isTest 1 (some .boolean) (10 * r + 7) 0 0 LM2 a x [.ref (a 0)] (pr (some (.int (b2i u.1))) u.2)) (hZ : ∀ (x : XS) (u : Bool × XS), Z x = some u → Mx g yX10_isSingle cX10_isSingle 2 (some .boolean) (10 * r + 5) 0 0 LM2 a x [.ref (a 0)] (pr (some (.int (b2i u.1))) u.2)) (hS : ∀ (x : XS) (u : Bool × XS), S x = some u → Mx g yX10_isSum cX10_isSum 2 (some .boolean) (10 * r + 14) 0 0 LM2 a x [.ref (a 0)] (pr (some (.int (b2i u.1))) u.2))  {u : Bool × XS}  (h : f_X10_isSingle T Z S  x = some u) : Mx g yX10_isSingle cX10_isSingle 2 (some .boolean) (10 * r + 15) 0 0 LM2 a x [.ref (a 0)] (pr (some (.int (b2i u.1))) u.2) := by
  refine Mx_of (by decide +kernel) (Nat.le_of_ble_eq_true rfl) ?_
  intro k hk he hg
  subst hg
  rw [f_X10_isSingle] at h
  refine xaload_n hk dX10_isSingle_0 rfl ?_
  refine xbipush (v := 23) hk dX10_isSingle_1 (by decide) ?_
  obtain ⟨u3, e3, h⟩ := ob_some h
  refine xcallV hk (c_X10_is e3) bX10_is kX10_239 dX10_isSingle_3 rfl ⟨_, _, _, _, rfl, rfl⟩ rfl (by first | decide | omega) ⟨by decide, by decide⟩ (Nat.le_of_ble_eq_true rfl) (det ?_)
  refine xif_eq hk 43 dX10_isSingle_6 (by decide) (fun h6 => ?_) (fun h6 => ?_)
  · rw [if_pos h6] at h
    refine xaload_n hk dX10_isSingle_43 rfl ?_
    refine xbipush (v := 91) hk dX10_isSingle_44 (by decide) ?_
    obtain ⟨u46, e46, h⟩ := ob_some h
    refine xcallV hk (c_X10_isSign e46) bX10_isSign kX10_296 dX10_isSingle_46 rfl ⟨_, _, _, _, rfl, rfl⟩ rfl (by first | decide | omega) ⟨by decide, by decide⟩ (Nat.le_of_ble_eq_true rfl) (det ?_)
    refine xif_eq hk 85 dX10_isSingle_49 (by decide) (fun h49 => ?_) (fun h49 => ?_)
    · rw [if_pos h49] at h
      refine xaload_n hk dX10_isSingle_85 rfl ?_
      refine xbipush (v := 20) hk dX10_isSingle_86 (by decide) ?_
      obtain ⟨u88, e88, h⟩ := ob_some h
      refine xcallV hk (c_X10_is e88) bX10_is kX10_239 dX10_isSingle_88 rfl ⟨_, _, _, _, rfl, rfl⟩ rfl (by first | decide | omega) ⟨by decide, by decide⟩ (Nat.le_of_ble_eq_true rfl) (det ?_)
      refine xif_eq hk 101 dX10_isSingle_91 (by decide) (fun h91 => ?_) (fun h91 => ?_)
      · rw [if_pos h91] at h
        refine xaload_n hk dX10_isSingle_101 rfl ?_
        refine xbipush (v := 19) hk dX10_isSingle_102 (by decide) ?_
        obtain ⟨u104, e104, h⟩ := ob_some h
        refine xcallV hk (c_X10_is e104) bX10_is kX10_239 dX10_isSingle_104 rfl ⟨_, _, _, _, rfl, rfl⟩ rfl (by first | decide | omega) ⟨by decide, by decide⟩ (Nat.le_of_ble_eq_true rfl) (det ?_)
        refine xif_ne hk 119 dX10_isSingle_107 (by decide) (fun h107 => ?_) (fun h107 => ?_)
        · rw [if_neg h107] at h
          refine xaload_n hk dX10_isSingle_119 rfl ?_
          refine xaload_n hk dX10_isSingle_120 rfl ?_
          refine xgetR (ci := 10) (f := 4) hk dX10_isSingle_121 ⟨rfl, by decide, _, rfl, rfl⟩ kX10_17 ?_
          refine xaload_n hk dX10_isSingle_124 rfl ?_
          refine xgetI (ci := 10) (f := 9) hk dX10_isSingle_125 ⟨rfl, by decide, _, rfl, rfl⟩ kX10_236 ?_
          obtain ⟨hi128, h⟩ := og_some h
          refine xiald hk dX10_isSingle_128 rfl (inB_v hi128) ?_
          obtain ⟨u129, e129, h⟩ := ob_some h
          refine xcallV hk (c_X10_isOfClaims e129) bX10_isOfClaims kX10_302 dX10_isSingle_129 rfl ⟨_, _, _, _, rfl, rfl⟩ rfl (by first | decide | omega) ⟨by decide, by decide⟩ (Nat.le_of_ble_eq_true rfl) (det ?_)
          refine xzret hk he dX10_isSingle_132 ⟨by decide, by decide⟩ (by first | with_reducible exact nar_b _ | rfl) ?_
          obtain rfl := Option.some.inj h
          exact ⟨rfl, rfl⟩
        · rw [if_pos h107] at h
          refine xaload_n hk dX10_isSingle_110 rfl ?_
          refine xbipush (v := 21) hk dX10_isSingle_111 (by decide) ?_
          obtain ⟨u113, e113, h⟩ := ob_some h
          refine xcallV hk (c_X10_is e113) bX10_is kX10_239 dX10_isSingle_113 rfl ⟨_, _, _, _, rfl, rfl⟩ rfl (by first | decide | omega) ⟨by decide, by decide⟩ (Nat.le_of_ble_eq_true rfl) (det ?_)
          refine xif_eq hk 133 dX10_isSingle_116 (by decide) (fun h116 => ?_) (fun h116 => ?_)
          · rw [if_pos h116] at h
            refine xaload_n hk dX10_isSingle_133 rfl ?_
            obtain ⟨u134, e134, h⟩ := ob_some h
            refine xcallV hk (hS _ _ e134) bX10_isSum kX10_305 dX10_isSingle_134 rfl ⟨_, _, _, _, rfl, rfl⟩ rfl (by first | decide | omega) ⟨by decide, by decide⟩ (Nat.le_of_ble_eq_true rfl) (det ?_)
            refine xif_ne hk 142 dX10_isSingle_137 (by decide) (fun h137 => ?_) (fun h137 => ?_)
            · rw [if_neg h137] at h
              refine xaload_n hk dX10_isSingle_142 rfl ?_
              refine xbipush (v := 60) hk dX10_isSingle_143 (by decide) ?_
              obtain ⟨u145, e145, h⟩ := ob_some h
              refine xcallV hk (c_X10_isSign e145) bX10_isSign kX10_296 dX10_isSingle_145 rfl ⟨_, _, _, _, rfl, rfl⟩ rfl (by first | decide | omega) ⟨by decide, by decide⟩ (Nat.le_of_ble_eq_true rfl) (det ?_)
              refine xif_eq hk 156 dX10_isSingle_148 (by decide) (fun h148 => ?_) (fun h148 => ?_)
              · rw [if_pos h148] at h
                refine xaload_n hk dX10_isSingle_156 rfl ?_
                refine xbipush (v := 62) hk dX10_isSingle_157 (by decide) ?_
                obtain ⟨u159, e159, h⟩ := ob_some h
                refine xcallV hk (c_X10_isSign e159) bX10_isSign kX10_296 dX10_isSingle_159 rfl ⟨_, _, _, _, rfl, rfl⟩ rfl (by first | decide | omega) ⟨by decide, by decide⟩ (Nat.le_of_ble_eq_true rfl) (det ?_)
                refine xif_eq hk 170 dX10_isSingle_162 (by decide) (fun h162 => ?_) (fun h162 => ?_)
                · rw [if_pos h162] at h
                  refine xaload_n hk dX10_isSingle_170 rfl ?_
                  refine xbipush (v := 61) hk dX10_isSingle_171 (by decide) ?_
                  obtain ⟨u173, e173, h⟩ := ob_some h
                  refine xcallV hk (c_X10_isSign e173) bX10_isSign kX10_296 dX10_isSingle_173 rfl ⟨_, _, _, _, rfl, rfl⟩ rfl (by first | decide | omega) ⟨by decide, by decide⟩ (Nat.le_of_ble_eq_true rfl) (det ?_)
                  refine xif_eq hk 184 dX10_isSingle_176 (by decide) (fun h176 => ?_) (fun h176 => ?_)
                  · rw [if_pos h176] at h
                    refine xaload_n hk dX10_isSingle_184 rfl ?_
                    refine xsipush (v := 300) hk dX10_isSingle_185 (by decide) ?_
                    obtain ⟨u188, e188, h⟩ := ob_some h
                    refine xcallV hk (c_X10_is e188) bX10_is kX10_239 dX10_isSingle_188 rfl ⟨_, _, _, _, rfl, rfl⟩ rfl (by first | decide | omega) ⟨by decide, by decide⟩ (Nat.le_of_ble_eq_true rfl) (det ?_)
                    refine xif_eq hk 199 dX10_isSingle_191 (by decide) (fun h191 => ?_) (fun h191 => ?_)
                    · rw [if_pos h191] at h
                      refine xaload_n hk dX10_isSingle_199 rfl ?_
                      refine xsipush (v := 301) hk dX10_isSingle_200 (by decide) ?_
                      obtain ⟨u203, e203, h⟩ := ob_some h
                      refine xcallV hk (c_X10_is e203) bX10_is kX10_239 dX10_isSingle_203 rfl ⟨_, _, _, _, rfl, rfl⟩ rfl (by first | decide | omega) ⟨by decide, by decide⟩ (Nat.le_of_ble_eq_true rfl) (det ?_)
                      refine xif_eq hk 214 dX10_isSingle_206 (by decide) (fun h206 => ?_) (fun h206 => ?_)
                      · rw [if_pos h206] at h
                        refine xiconst (v := (-1)) hk dX10_isSingle_214 (by decide) ?_
                        refine xistore_n hk dX10_isSingle_215 (by decide) ?_
                        refine xiload_n hk dX10_isSingle_216 rfl ?_
                        refine xiconst (v := (-1)) hk dX10_isSingle_217 (by decide) ?_
                        refine xicmp_ne hk 223 dX10_isSingle_218 (by decide) (fun h218 => ?_) (fun h218 => ?_)
                        · exact absurd h218 (by decide)
                        · refine xiconst (v := 0) hk dX10_isSingle_221 (by decide) ?_
                          refine xzret hk he dX10_isSingle_222 ⟨by decide, by decide⟩ (by first | with_reducible exact nar_b _ | rfl) ?_
                          obtain rfl := Option.some.inj h
                          exact ⟨rfl, rfl⟩
                      · rw [if_neg h206] at h
                        refine xbipush (v := 44) hk dX10_isSingle_209 (by decide) ?_
                        refine xgoto hk 215 dX10_isSingle_211 (by decide) ?_
                        refine xistore_n hk dX10_isSingle_215 (by decide) ?_
                        refine xiload_n hk dX10_isSingle_216 rfl ?_
                        refine xiconst (v := (-1)) hk dX10_isSingle_217 (by decide) ?_
                        refine xicmp_ne hk 223 dX10_isSingle_218 (by decide) (fun h218 => ?_) (fun h218 => ?_)
                        · refine xaload_n hk dX10_isSingle_223 rfl ?_
                          refine xdup hk dX10_isSingle_224 rfl ?_
                          refine xgetI (ci := 10) (f := 9) hk dX10_isSingle_225 ⟨rfl, by decide, _, rfl, rfl⟩ kX10_236 ?_
                          refine xiconst (v := 1) hk dX10_isSingle_228 (by decide) ?_
                          refine xiadd hk dX10_isSingle_229 ?_
                          refine xputI (ci := 10) (f := 9) hk dX10_isSingle_230 ⟨rfl, by decide, _, rfl, rfl⟩ kX10_236 ⟨rfl, by decide +kernel⟩ ?_
                          refine xaload_n hk dX10_isSingle_233 rfl ?_
                          obtain ⟨u234, e234, h⟩ := ob_some h
                          refine xcallV hk (hS _ _ e234) bX10_isSum kX10_305 dX10_isSingle_234 rfl ⟨_, _, _, _, rfl, rfl⟩ rfl (by first | decide | omega) ⟨by decide, by decide⟩ (Nat.le_of_ble_eq_true rfl) (det ?_)
                          refine xif_ne hk 242 dX10_isSingle_237 (by decide) (fun h237 => ?_) (fun h237 => ?_)
                          · rw [if_neg h237] at h
                            refine xaload_n hk dX10_isSingle_242 rfl ?_
                            refine xiload_n hk dX10_isSingle_243 rfl ?_
                            obtain ⟨u244, e244, h⟩ := ob_some h
                            refine xcallV hk (c_X10_put e244) bX10_put kX10_275 dX10_isSingle_244 rfl ⟨_, _, _, _, rfl, rfl⟩ rfl (by first | decide | omega) ⟨by decide, by decide⟩ (Nat.le_of_ble_eq_true rfl) (det ?_)
                            refine xiconst (v := 1) hk dX10_isSingle_247 (by decide) ?_
                            refine xzret hk he dX10_isSingle_248 ⟨by decide, by decide⟩ (by first | with_reducible exact nar_b _ | rfl) ?_
                            obtain rfl := Option.some.inj h
                            exact ⟨rfl, rfl⟩
                          · rw [if_pos h237] at h
                            refine xiconst (v := 0) hk dX10_isSingle_240 (by decide) ?_
                            refine xzret hk he dX10_isSingle_241 ⟨by decide, by decide⟩ (by first | with_reducible exact nar_b _ | rfl) ?_
                            obtain rfl := Option.some.inj h
                            exact ⟨rfl, rfl⟩
                        · exact absurd h218 (by decide)
                    · rw [if_neg h191] at h
                      refine xbipush (v := 43) hk dX10_isSingle_194 (by decide) ?_
                      refine xgoto hk 215 dX10_isSingle_196 (by decide) ?_
                      refine xistore_n hk dX10_isSingle_215 (by decide) ?_
                      refine xiload_n hk dX10_isSingle_216 rfl ?_
                      refine xiconst (v := (-1)) hk dX10_isSingle_217 (by decide) ?_
                      refine xicmp_ne hk 223 dX10_isSingle_218 (by decide) (fun h218 => ?_) (fun h218 => ?_)
                      · refine xaload_n hk dX10_isSingle_223 rfl ?_
                        refine xdup hk dX10_isSingle_224 rfl ?_
                        refine xgetI (ci := 10) (f := 9) hk dX10_isSingle_225 ⟨rfl, by decide, _, rfl, rfl⟩ kX10_236 ?_
                        refine xiconst (v := 1) hk dX10_isSingle_228 (by decide) ?_
                        refine xiadd hk dX10_isSingle_229 ?_
                        refine xputI (ci := 10) (f := 9) hk dX10_isSingle_230 ⟨rfl, by decide, _, rfl, rfl⟩ kX10_236 ⟨rfl, by decide +kernel⟩ ?_
                        refine xaload_n hk dX10_isSingle_233 rfl ?_
                        obtain ⟨u234, e234, h⟩ := ob_some h
                        refine xcallV hk (hS _ _ e234) bX10_isSum kX10_305 dX10_isSingle_234 rfl ⟨_, _, _, _, rfl, rfl⟩ rfl (by first | decide | omega) ⟨by decide, by decide⟩ (Nat.le_of_ble_eq_true rfl) (det ?_)
                        refine xif_ne hk 242 dX10_isSingle_237 (by decide) (fun h237 => ?_) (fun h237 => ?_)
                        · rw [if_neg h237] at h
                          refine xaload_n hk dX10_isSingle_242 rfl ?_
                          refine xiload_n hk dX10_isSingle_243 rfl ?_
                          obtain ⟨u244, e244, h⟩ := ob_some h
                          refine xcallV hk (c_X10_put e244) bX10_put kX10_275 dX10_isSingle_244 rfl ⟨_, _, _, _, rfl, rfl⟩ rfl (by first | decide | omega) ⟨by decide, by decide⟩ (Nat.le_of_ble_eq_true rfl) (det ?_)
                          refine xiconst (v := 1) hk dX10_isSingle_247 (by decide) ?_
                          refine xzret hk he dX10_isSingle_248 ⟨by decide, by decide⟩ (by first | with_reducible exact nar_b _ | rfl) ?_
                          obtain rfl := Option.some.inj h
                          exact ⟨rfl, rfl⟩
                        · rw [if_pos h237] at h
                          refine xiconst (v := 0) hk dX10_isSingle_240 (by decide) ?_
                          refine xzret hk he dX10_isSingle_241 ⟨by decide, by decide⟩ (by first | with_reducible exact nar_b _ | rfl) ?_
                          obtain rfl := Option.some.inj h
                          exact ⟨rfl, rfl⟩
                      · exact absurd h218 (by decide)
                  · rw [if_neg h176] at h
                    refine xbipush (v := 42) hk dX10_isSingle_179 (by decide) ?_
                    refine xgoto hk 215 dX10_isSingle_181 (by decide) ?_
                    refine xistore_n hk dX10_isSingle_215 (by decide) ?_
                    refine xiload_n hk dX10_isSingle_216 rfl ?_
                    refine xiconst (v := (-1)) hk dX10_isSingle_217 (by decide) ?_
                    refine xicmp_ne hk 223 dX10_isSingle_218 (by decide) (fun h218 => ?_) (fun h218 => ?_)
                    · refine xaload_n hk dX10_isSingle_223 rfl ?_
                      refine xdup hk dX10_isSingle_224 rfl ?_
                      refine xgetI (ci := 10) (f := 9) hk dX10_isSingle_225 ⟨rfl, by decide, _, rfl, rfl⟩ kX10_236 ?_
                      refine xiconst (v := 1) hk dX10_isSingle_228 (by decide) ?_
                      refine xiadd hk dX10_isSingle_229 ?_
                      refine xputI (ci := 10) (f := 9) hk dX10_isSingle_230 ⟨rfl, by decide, _, rfl, rfl⟩ kX10_236 ⟨rfl, by decide +kernel⟩ ?_
                      refine xaload_n hk dX10_isSingle_233 rfl ?_
                      obtain ⟨u234, e234, h⟩ := ob_some h
                      refine xcallV hk (hS _ _ e234) bX10_isSum kX10_305 dX10_isSingle_234 rfl ⟨_, _, _, _, rfl, rfl⟩ rfl (by first | decide | omega) ⟨by decide, by decide⟩ (Nat.le_of_ble_eq_true rfl) (det ?_)
                      refine xif_ne hk 242 dX10_isSingle_237 (by decide) (fun h237 => ?_) (fun h237 => ?_)
                      · rw [if_neg h237] at h
                        refine xaload_n hk dX10_isSingle_242 rfl ?_
                        refine xiload_n hk dX10_isSingle_243 rfl ?_
                        obtain ⟨u244, e244, h⟩ := ob_some h
                        refine xcallV hk (c_X10_put e244) bX10_put kX10_275 dX10_isSingle_244 rfl ⟨_, _, _, _, rfl, rfl⟩ rfl (by first | decide | omega) ⟨by decide, by decide⟩ (Nat.le_of_ble_eq_true rfl) (det ?_)
                        refine xiconst (v := 1) hk dX10_isSingle_247 (by decide) ?_
                        refine xzret hk he dX10_isSingle_248 ⟨by decide, by decide⟩ (by first | with_reducible exact nar_b _ | rfl) ?_
                        obtain rfl := Option.some.inj h
                        exact ⟨rfl, rfl⟩
                      · rw [if_pos h237] at h
                        refine xiconst (v := 0) hk dX10_isSingle_240 (by decide) ?_
                        refine xzret hk he dX10_isSingle_241 ⟨by decide, by decide⟩ (by first | with_reducible exact nar_b _ | rfl) ?_
                        obtain rfl := Option.some.inj h
                        exact ⟨rfl, rfl⟩
                    · exact absurd h218 (by decide)
                · rw [if_neg h162] at h
                  refine xbipush (v := 39) hk dX10_isSingle_165 (by decide) ?_
                  refine xgoto hk 215 dX10_isSingle_167 (by decide) ?_
                  refine xistore_n hk dX10_isSingle_215 (by decide) ?_
                  refine xiload_n hk dX10_isSingle_216 rfl ?_
                  refine xiconst (v := (-1)) hk dX10_isSingle_217 (by decide) ?_
                  refine xicmp_ne hk 223 dX10_isSingle_218 (by decide) (fun h218 => ?_) (fun h218 => ?_)
                  · refine xaload_n hk dX10_isSingle_223 rfl ?_
                    refine xdup hk dX10_isSingle_224 rfl ?_
                    refine xgetI (ci := 10) (f := 9) hk dX10_isSingle_225 ⟨rfl, by decide, _, rfl, rfl⟩ kX10_236 ?_
                    refine xiconst (v := 1) hk dX10_isSingle_228 (by decide) ?_
                    refine xiadd hk dX10_isSingle_229 ?_
                    refine xputI (ci := 10) (f := 9) hk dX10_isSingle_230 ⟨rfl, by decide, _, rfl, rfl⟩ kX10_236 ⟨rfl, by decide +kernel⟩ ?_
                    refine xaload_n hk dX10_isSingle_233 rfl ?_
                    obtain ⟨u234, e234, h⟩ := ob_some h
                    refine xcallV hk (hS _ _ e234) bX10_isSum kX10_305 dX10_isSingle_234 rfl ⟨_, _, _, _, rfl, rfl⟩ rfl (by first | decide | omega) ⟨by decide, by decide⟩ (Nat.le_of_ble_eq_true rfl) (det ?_)
                    refine xif_ne hk 242 dX10_isSingle_237 (by decide) (fun h237 => ?_) (fun h237 => ?_)
                    · rw [if_neg h237] at h
                      refine xaload_n hk dX10_isSingle_242 rfl ?_
                      refine xiload_n hk dX10_isSingle_243 rfl ?_
                      obtain ⟨u244, e244, h⟩ := ob_some h
                      refine xcallV hk (c_X10_put e244) bX10_put kX10_275 dX10_isSingle_244 rfl ⟨_, _, _, _, rfl, rfl⟩ rfl (by first | decide | omega) ⟨by decide, by decide⟩ (Nat.le_of_ble_eq_true rfl) (det ?_)
                      refine xiconst (v := 1) hk dX10_isSingle_247 (by decide) ?_
                      refine xzret hk he dX10_isSingle_248 ⟨by decide, by decide⟩ (by first | with_reducible exact nar_b _ | rfl) ?_
                      obtain rfl := Option.some.inj h
                      exact ⟨rfl, rfl⟩
                    · rw [if_pos h237] at h
                      refine xiconst (v := 0) hk dX10_isSingle_240 (by decide) ?_
                      refine xzret hk he dX10_isSingle_241 ⟨by decide, by decide⟩ (by first | with_reducible exact nar_b _ | rfl) ?_
                      obtain rfl := Option.some.inj h
                      exact ⟨rfl, rfl⟩
                  · exact absurd h218 (by decide)
              · rw [if_neg h148] at h
                refine xbipush (v := 38) hk dX10_isSingle_151 (by decide) ?_
                refine xgoto hk 215 dX10_isSingle_153 (by decide) ?_
                refine xistore_n hk dX10_isSingle_215 (by decide) ?_
                refine xiload_n hk dX10_isSingle_216 rfl ?_
                refine xiconst (v := (-1)) hk dX10_isSingle_217 (by decide) ?_
                refine xicmp_ne hk 223 dX10_isSingle_218 (by decide) (fun h218 => ?_) (fun h218 => ?_)
                · refine xaload_n hk dX10_isSingle_223 rfl ?_
                  refine xdup hk dX10_isSingle_224 rfl ?_
                  refine xgetI (ci := 10) (f := 9) hk dX10_isSingle_225 ⟨rfl, by decide, _, rfl, rfl⟩ kX10_236 ?_
                  refine xiconst (v := 1) hk dX10_isSingle_228 (by decide) ?_
                  refine xiadd hk dX10_isSingle_229 ?_
                  refine xputI (ci := 10) (f := 9) hk dX10_isSingle_230 ⟨rfl, by decide, _, rfl, rfl⟩ kX10_236 ⟨rfl, by decide +kernel⟩ ?_
                  refine xaload_n hk dX10_isSingle_233 rfl ?_
                  obtain ⟨u234, e234, h⟩ := ob_some h
                  refine xcallV hk (hS _ _ e234) bX10_isSum kX10_305 dX10_isSingle_234 rfl ⟨_, _, _, _, rfl, rfl⟩ rfl (by first | decide | omega) ⟨by decide, by decide⟩ (Nat.le_of_ble_eq_true rfl) (det ?_)
                  refine xif_ne hk 242 dX10_isSingle_237 (by decide) (fun h237 => ?_) (fun h237 => ?_)
                  · rw [if_neg h237] at h
                    refine xaload_n hk dX10_isSingle_242 rfl ?_
                    refine xiload_n hk dX10_isSingle_243 rfl ?_
                    obtain ⟨u244, e244, h⟩ := ob_some h
                    refine xcallV hk (c_X10_put e244) bX10_put kX10_275 dX10_isSingle_244 rfl ⟨_, _, _, _, rfl, rfl⟩ rfl (by first | decide | omega) ⟨by decide, by decide⟩ (Nat.le_of_ble_eq_true rfl) (det ?_)
                    refine xiconst (v := 1) hk dX10_isSingle_247 (by decide) ?_
                    refine xzret hk he dX10_isSingle_248 ⟨by decide, by decide⟩ (by first | with_reducible exact nar_b _ | rfl) ?_
                    obtain rfl := Option.some.inj h
                    exact ⟨rfl, rfl⟩
                  · rw [if_pos h237] at h
                    refine xiconst (v := 0) hk dX10_isSingle_240 (by decide) ?_
                    refine xzret hk he dX10_isSingle_241 ⟨by decide, by decide⟩ (by first | with_reducible exact nar_b _ | rfl) ?_
                    obtain rfl := Option.some.inj h
                    exact ⟨rfl, rfl⟩
                · exact absurd h218 (by decide)
            · rw [if_pos h137] at h
              refine xiconst (v := 0) hk dX10_isSingle_140 (by decide) ?_
              refine xzret hk he dX10_isSingle_141 ⟨by decide, by decide⟩ (by first | with_reducible exact nar_b _ | rfl) ?_
              obtain rfl := Option.some.inj h
              exact ⟨rfl, rfl⟩
          · rw [if_neg h116] at h
            refine xaload_n hk dX10_isSingle_119 rfl ?_
            refine xaload_n hk dX10_isSingle_120 rfl ?_
            refine xgetR (ci := 10) (f := 4) hk dX10_isSingle_121 ⟨rfl, by decide, _, rfl, rfl⟩ kX10_17 ?_
            refine xaload_n hk dX10_isSingle_124 rfl ?_
            refine xgetI (ci := 10) (f := 9) hk dX10_isSingle_125 ⟨rfl, by decide, _, rfl, rfl⟩ kX10_236 ?_
            obtain ⟨hi128, h⟩ := og_some h
            refine xiald hk dX10_isSingle_128 rfl (inB_v hi128) ?_
            obtain ⟨u129, e129, h⟩ := ob_some h
            refine xcallV hk (c_X10_isOfClaims e129) bX10_isOfClaims kX10_302 dX10_isSingle_129 rfl ⟨_, _, _, _, rfl, rfl⟩ rfl (by first | decide | omega) ⟨by decide, by decide⟩ (Nat.le_of_ble_eq_true rfl) (det ?_)
            refine xzret hk he dX10_isSingle_132 ⟨by decide, by decide⟩ (by first | with_reducible exact nar_b _ | rfl) ?_
            obtain rfl := Option.some.inj h
            exact ⟨rfl, rfl⟩
      · rw [if_neg h91] at h
        refine xaload_n hk dX10_isSingle_94 rfl ?_
        refine xbipush (v := 8) hk dX10_isSingle_95 (by decide) ?_
        obtain ⟨u97, e97, h⟩ := ob_some h
        refine xcallV hk (c_X10_isNamed e97) bX10_isNamed kX10_299 dX10_isSingle_97 rfl ⟨_, _, _, _, rfl, rfl⟩ rfl (by first | decide | omega) ⟨by decide, by decide⟩ (Nat.le_of_ble_eq_true rfl) (det ?_)
        refine xzret hk he dX10_isSingle_100 ⟨by decide, by decide⟩ (by first | with_reducible exact nar_b _ | rfl) ?_
        obtain rfl := Option.some.inj h
        exact ⟨rfl, rfl⟩
    · rw [if_neg h49] at h
      refine xaload_n hk dX10_isSingle_52 rfl ?_
      obtain ⟨u53, e53, h⟩ := ob_some h
      refine xcallV hk (c_X10_isDeeper e53) bX10_isDeeper kX10_293 dX10_isSingle_53 rfl ⟨_, _, _, _, rfl, rfl⟩ rfl (by first | decide | omega) ⟨by decide, by decide⟩ (Nat.le_of_ble_eq_true rfl) (det ?_)
      refine xif_eq hk 66 dX10_isSingle_56 (by decide) (fun h56 => ?_) (fun h56 => ?_)
      · rw [if_pos h56] at h
        refine xiconst (v := 0) hk dX10_isSingle_66 (by decide) ?_
        refine xzret hk he dX10_isSingle_67 ⟨by decide, by decide⟩ (by first | with_reducible exact nar_b _ | rfl) ?_
        obtain rfl := Option.some.inj h
        exact ⟨rfl, rfl⟩
      · rw [if_neg h56] at h
        refine xaload_n hk dX10_isSingle_59 rfl ?_
        obtain ⟨u60, e60, h⟩ := ob_some h
        refine xcallV hk (hT _ _ e60) bX10_isTest kX10_269 dX10_isSingle_60 rfl ⟨_, _, _, _, rfl, rfl⟩ rfl (by first | decide | omega) ⟨by decide, by decide⟩ (Nat.le_of_ble_eq_true rfl) (det ?_)
        refine xif_ne hk 68 dX10_isSingle_63 (by decide) (fun h63 => ?_) (fun h63 => ?_)
        · rw [if_neg h63] at h
          refine xaload_n hk dX10_isSingle_68 rfl ?_
          refine xdup hk dX10_isSingle_69 rfl ?_
          refine xgetI (ci := 10) (f := 10) hk dX10_isSingle_70 ⟨rfl, by decide, _, rfl, rfl⟩ kX10_281 ?_
          refine xiconst (v := 1) hk dX10_isSingle_73 (by decide) ?_
          refine xisub hk dX10_isSingle_74 ?_
          refine xputI (ci := 10) (f := 10) hk dX10_isSingle_75 ⟨rfl, by decide, _, rfl, rfl⟩ kX10_281 ⟨rfl, by decide +kernel⟩ ?_
          refine xaload_n hk dX10_isSingle_78 rfl ?_
          refine xbipush (v := 93) hk dX10_isSingle_79 (by decide) ?_
          obtain ⟨u81, e81, h⟩ := ob_some h
          refine xcallV hk (c_X10_eatSign e81) bX10_eatSign kX10_256 dX10_isSingle_81 rfl ⟨_, _, _, _, rfl, rfl⟩ rfl (by first | decide | omega) ⟨by decide, by decide⟩ (Nat.le_of_ble_eq_true rfl) (det ?_)
          refine xzret hk he dX10_isSingle_84 ⟨by decide, by decide⟩ (by first | with_reducible exact nar_b _ | rfl) ?_
          obtain rfl := Option.some.inj h
          exact ⟨rfl, rfl⟩
        · rw [if_pos h63] at h
          refine xiconst (v := 0) hk dX10_isSingle_66 (by decide) ?_
          refine xzret hk he dX10_isSingle_67 ⟨by decide, by decide⟩ (by first | with_reducible exact nar_b _ | rfl) ?_
          obtain rfl := Option.some.inj h
          exact ⟨rfl, rfl⟩
  · rw [if_neg h6] at h
    refine xaload_n hk dX10_isSingle_9 rfl ?_
    obtain ⟨u10, e10, h⟩ := ob_some h
    refine xcallV hk (c_X10_isDeeper e10) bX10_isDeeper kX10_293 dX10_isSingle_10 rfl ⟨_, _, _, _, rfl, rfl⟩ rfl (by first | decide | omega) ⟨by decide, by decide⟩ (Nat.le_of_ble_eq_true rfl) (det ?_)
    refine xif_eq hk 23 dX10_isSingle_13 (by decide) (fun h13 => ?_) (fun h13 => ?_)
    · rw [if_pos h13] at h
      refine xiconst (v := 0) hk dX10_isSingle_23 (by decide) ?_
      refine xzret hk he dX10_isSingle_24 ⟨by decide, by decide⟩ (by first | with_reducible exact nar_b _ | rfl) ?_
      obtain rfl := Option.some.inj h
      exact ⟨rfl, rfl⟩
    · rw [if_neg h13] at h
      refine xaload_n hk dX10_isSingle_16 rfl ?_
      obtain ⟨u17, e17, h⟩ := ob_some h
      refine xcallV hk (hZ _ _ e17) bX10_isSingle kX10_278 dX10_isSingle_17 rfl ⟨_, _, _, _, rfl, rfl⟩ rfl (by first | decide | omega) ⟨by decide, by decide⟩ (Nat.le_of_ble_eq_true rfl) (det ?_)
      refine xif_ne hk 25 dX10_isSingle_20 (by decide) (fun h20 => ?_) (fun h20 => ?_)
      · rw [if_neg h20] at h
        refine xaload_n hk dX10_isSingle_25 rfl ?_
        refine xdup hk dX10_isSingle_26 rfl ?_
        refine xgetI (ci := 10) (f := 10) hk dX10_isSingle_27 ⟨rfl, by decide, _, rfl, rfl⟩ kX10_281 ?_
        refine xiconst (v := 1) hk dX10_isSingle_30 (by decide) ?_
        refine xisub hk dX10_isSingle_31 ?_
        refine xputI (ci := 10) (f := 10) hk dX10_isSingle_32 ⟨rfl, by decide, _, rfl, rfl⟩ kX10_281 ⟨rfl, by decide +kernel⟩ ?_
        refine xaload_n hk dX10_isSingle_35 rfl ?_
        refine xbipush (v := 23) hk dX10_isSingle_36 (by decide) ?_
        obtain ⟨u38, e38, h⟩ := ob_some h
        refine xcallV hk (c_X10_put e38) bX10_put kX10_275 dX10_isSingle_38 rfl ⟨_, _, _, _, rfl, rfl⟩ rfl (by first | decide | omega) ⟨by decide, by decide⟩ (Nat.le_of_ble_eq_true rfl) (det ?_)
        refine xiconst (v := 1) hk dX10_isSingle_41 (by decide) ?_
        refine xzret hk he dX10_isSingle_42 ⟨by decide, by decide⟩ (by first | with_reducible exact nar_b _ | rfl) ?_
        obtain rfl := Option.some.inj h
        exact ⟨rfl, rfl⟩
      · rw [if_pos h20] at h
        refine xiconst (v := 0) hk dX10_isSingle_23 (by decide) ?_
        refine xzret hk he dX10_isSingle_24 ⟨by decide, by decide⟩ (by first | with_reducible exact nar_b _ | rfl) ?_
        obtain rfl := Option.some.inj h
        exact ⟨rfl, rfl⟩

def f_X10_isBoth_L9 (Z : XS → Option (Bool × XS))  : Nat → XS → Option (Bool × XS)
  | 0, _ => none
  | n + 1, x => ob (f_X10_eat 24 x) (fun u12 => (if (b2i u12.1) = 0 then some (true, u12.2) else ob (Z u12.2) (fun u19 => (if (b2i u19.1) = 0 then some (false, u19.2) else ob (f_X10_put 24 u19.2) (fun u30 => (f_X10_isBoth_L9 Z  n  u30))))))
def f_X10_isBoth (Z : XS → Option (Bool × XS))  (x : XS) : Option (Bool × XS) := ob (Z x) (fun u1 => (if (b2i u1.1) = 0 then some (false, u1.2) else (f_X10_isBoth_L9 Z  402  u1.2)))

set_option maxHeartbeats 4000000 in
set_option maxRecDepth 100000 in
theorem c_X10_isBoth {g : Gx} {a : Nat → Nat} {x : XS} {Z : XS → Option (Bool × XS)} {r : Nat} (hZ : ∀ (x : XS) (u : Bool × XS), Z x = some u → Mx g yX10_isSingle cX10_isSingle 2 (some .boolean) (10 * r + 15) 0 0 LM2 a x [.ref (a 0)] (pr (some (.int (b2i u.1))) u.2))  {u : Bool × XS}  (h : f_X10_isBoth Z  x = some u) : Mx g yX10_isBoth cX10_isBoth 1 (some .boolean) (10 * r + 16) 0 0 LM2 a x [.ref (a 0)] (pr (some (.int (b2i u.1))) u.2) := by
  refine Mx_of (by decide +kernel) (Nat.le_of_ble_eq_true rfl) ?_
  intro k hk he hg
  subst hg
  rw [f_X10_isBoth] at h
  refine xaload_n hk dX10_isBoth_0 rfl ?_
  obtain ⟨u1, e1, h⟩ := ob_some h
  refine xcallV hk (hZ _ _ e1) bX10_isSingle kX10_278 dX10_isBoth_1 rfl ⟨_, _, _, _, rfl, rfl⟩ rfl (by first | decide | omega) ⟨by decide, by decide⟩ (Nat.le_of_ble_eq_true rfl) (det ?_)
  refine xif_ne hk 9 dX10_isBoth_4 (by decide) (fun h4 => ?_) (fun h4 => ?_)
  · rw [if_neg h4] at h
    have loop9 : ∀ (n9 : Nat)  (x : XS), f_X10_isBoth_L9 Z  n9  x = some u → Wx k 0 0 LM2 a x 9 [(0, .ref (a 0))] [] := by
      intro n9
      induction n9 with
      | zero => intro  x h; rw [f_X10_isBoth_L9] at h; cases h
      | succ n9 ih9 =>
        intro  x h
        rw [f_X10_isBoth_L9] at h
        refine xaload_n hk dX10_isBoth_9 rfl ?_
        refine xbipush (v := 24) hk dX10_isBoth_10 (by decide) ?_
        obtain ⟨u12, e12, h⟩ := ob_some h
        refine xcallV hk (c_X10_eat e12) bX10_eat kX10_242 dX10_isBoth_12 rfl ⟨_, _, _, _, rfl, rfl⟩ rfl (by first | decide | omega) ⟨by decide, by decide⟩ (Nat.le_of_ble_eq_true rfl) (det ?_)
        refine xif_eq hk 36 dX10_isBoth_15 (by decide) (fun h15 => ?_) (fun h15 => ?_)
        · rw [if_pos h15] at h
          refine xiconst (v := 1) hk dX10_isBoth_36 (by decide) ?_
          refine xzret hk he dX10_isBoth_37 ⟨by decide, by decide⟩ (by first | with_reducible exact nar_b _ | rfl) ?_
          obtain rfl := Option.some.inj h
          exact ⟨rfl, rfl⟩
        · rw [if_neg h15] at h
          refine xaload_n hk dX10_isBoth_18 rfl ?_
          obtain ⟨u19, e19, h⟩ := ob_some h
          refine xcallV hk (hZ _ _ e19) bX10_isSingle kX10_278 dX10_isBoth_19 rfl ⟨_, _, _, _, rfl, rfl⟩ rfl (by first | decide | omega) ⟨by decide, by decide⟩ (Nat.le_of_ble_eq_true rfl) (det ?_)
          refine xif_ne hk 27 dX10_isBoth_22 (by decide) (fun h22 => ?_) (fun h22 => ?_)
          · rw [if_neg h22] at h
            refine xaload_n hk dX10_isBoth_27 rfl ?_
            refine xbipush (v := 24) hk dX10_isBoth_28 (by decide) ?_
            obtain ⟨u30, e30, h⟩ := ob_some h
            refine xcallV hk (c_X10_put e30) bX10_put kX10_275 dX10_isBoth_30 rfl ⟨_, _, _, _, rfl, rfl⟩ rfl (by first | decide | omega) ⟨by decide, by decide⟩ (Nat.le_of_ble_eq_true rfl) (det ?_)
            refine xgoto hk 9 dX10_isBoth_33 (by decide) ?_
            refine xsub [(0, .ref (a 0))] rfl ?_
            exact ih9  _ h
          · rw [if_pos h22] at h
            refine xiconst (v := 0) hk dX10_isBoth_25 (by decide) ?_
            refine xzret hk he dX10_isBoth_26 ⟨by decide, by decide⟩ (by first | with_reducible exact nar_b _ | rfl) ?_
            obtain rfl := Option.some.inj h
            exact ⟨rfl, rfl⟩
    refine xsub [(0, .ref (a 0))] rfl ?_
    exact loop9 _  _ h
  · rw [if_pos h4] at h
    refine xiconst (v := 0) hk dX10_isBoth_7 (by decide) ?_
    refine xzret hk he dX10_isBoth_8 ⟨by decide, by decide⟩ (by first | with_reducible exact nar_b _ | rfl) ?_
    obtain rfl := Option.some.inj h
    exact ⟨rfl, rfl⟩

def f_X10_isTest_L9 (B : XS → Option (Bool × XS))  : Nat → XS → Option (Bool × XS)
  | 0, _ => none
  | n + 1, x => ob (f_X10_eat 6 x) (fun u12 => (if (b2i u12.1) = 0 then some (true, u12.2) else ob (B u12.2) (fun u19 => (if (b2i u19.1) = 0 then some (false, u19.2) else ob (f_X10_put 6 u19.2) (fun u30 => (f_X10_isTest_L9 B  n  u30))))))
def f_X10_isTest (B : XS → Option (Bool × XS))  (x : XS) : Option (Bool × XS) := ob (B x) (fun u1 => (if (b2i u1.1) = 0 then some (false, u1.2) else (f_X10_isTest_L9 B  402  u1.2)))

set_option maxHeartbeats 4000000 in
set_option maxRecDepth 100000 in
theorem c_X10_isTest {g : Gx} {a : Nat → Nat} {x : XS} {B : XS → Option (Bool × XS)} {r : Nat} (hB : ∀ (x : XS) (u : Bool × XS), B x = some u → Mx g yX10_isBoth cX10_isBoth 1 (some .boolean) (10 * r + 16) 0 0 LM2 a x [.ref (a 0)] (pr (some (.int (b2i u.1))) u.2))  {u : Bool × XS}  (h : f_X10_isTest B  x = some u) : Mx g yX10_isTest cX10_isTest 1 (some .boolean) (10 * r + 17) 0 0 LM2 a x [.ref (a 0)] (pr (some (.int (b2i u.1))) u.2) := by
  refine Mx_of (by decide +kernel) (Nat.le_of_ble_eq_true rfl) ?_
  intro k hk he hg
  subst hg
  rw [f_X10_isTest] at h
  refine xaload_n hk dX10_isTest_0 rfl ?_
  obtain ⟨u1, e1, h⟩ := ob_some h
  refine xcallV hk (hB _ _ e1) bX10_isBoth kX10_272 dX10_isTest_1 rfl ⟨_, _, _, _, rfl, rfl⟩ rfl (by first | decide | omega) ⟨by decide, by decide⟩ (Nat.le_of_ble_eq_true rfl) (det ?_)
  refine xif_ne hk 9 dX10_isTest_4 (by decide) (fun h4 => ?_) (fun h4 => ?_)
  · rw [if_neg h4] at h
    have loop9 : ∀ (n9 : Nat)  (x : XS), f_X10_isTest_L9 B  n9  x = some u → Wx k 0 0 LM2 a x 9 [(0, .ref (a 0))] [] := by
      intro n9
      induction n9 with
      | zero => intro  x h; rw [f_X10_isTest_L9] at h; cases h
      | succ n9 ih9 =>
        intro  x h
        rw [f_X10_isTest_L9] at h
        refine xaload_n hk dX10_isTest_9 rfl ?_
        refine xbipush (v := 6) hk dX10_isTest_10 (by decide) ?_
        obtain ⟨u12, e12, h⟩ := ob_some h
        refine xcallV hk (c_X10_eat e12) bX10_eat kX10_242 dX10_isTest_12 rfl ⟨_, _, _, _, rfl, rfl⟩ rfl (by first | decide | omega) ⟨by decide, by decide⟩ (Nat.le_of_ble_eq_true rfl) (det ?_)
        refine xif_eq hk 36 dX10_isTest_15 (by decide) (fun h15 => ?_) (fun h15 => ?_)
        · rw [if_pos h15] at h
          refine xiconst (v := 1) hk dX10_isTest_36 (by decide) ?_
          refine xzret hk he dX10_isTest_37 ⟨by decide, by decide⟩ (by first | with_reducible exact nar_b _ | rfl) ?_
          obtain rfl := Option.some.inj h
          exact ⟨rfl, rfl⟩
        · rw [if_neg h15] at h
          refine xaload_n hk dX10_isTest_18 rfl ?_
          obtain ⟨u19, e19, h⟩ := ob_some h
          refine xcallV hk (hB _ _ e19) bX10_isBoth kX10_272 dX10_isTest_19 rfl ⟨_, _, _, _, rfl, rfl⟩ rfl (by first | decide | omega) ⟨by decide, by decide⟩ (Nat.le_of_ble_eq_true rfl) (det ?_)
          refine xif_ne hk 27 dX10_isTest_22 (by decide) (fun h22 => ?_) (fun h22 => ?_)
          · rw [if_neg h22] at h
            refine xaload_n hk dX10_isTest_27 rfl ?_
            refine xbipush (v := 6) hk dX10_isTest_28 (by decide) ?_
            obtain ⟨u30, e30, h⟩ := ob_some h
            refine xcallV hk (c_X10_put e30) bX10_put kX10_275 dX10_isTest_30 rfl ⟨_, _, _, _, rfl, rfl⟩ rfl (by first | decide | omega) ⟨by decide, by decide⟩ (Nat.le_of_ble_eq_true rfl) (det ?_)
            refine xgoto hk 9 dX10_isTest_33 (by decide) ?_
            refine xsub [(0, .ref (a 0))] rfl ?_
            exact ih9  _ h
          · rw [if_pos h22] at h
            refine xiconst (v := 0) hk dX10_isTest_25 (by decide) ?_
            refine xzret hk he dX10_isTest_26 ⟨by decide, by decide⟩ (by first | with_reducible exact nar_b _ | rfl) ?_
            obtain rfl := Option.some.inj h
            exact ⟨rfl, rfl⟩
    refine xsub [(0, .ref (a 0))] rfl ?_
    exact loop9 _  _ h
  · rw [if_pos h4] at h
    refine xiconst (v := 0) hk dX10_isTest_7 (by decide) ?_
    refine xzret hk he dX10_isTest_8 ⟨by decide, by decide⟩ (by first | with_reducible exact nar_b _ | rfl) ?_
    obtain rfl := Option.some.inj h
    exact ⟨rfl, rfl⟩

/-- test, single, sum, value, r deep at the most -/
def lvR : Nat → (XS → Option (Bool × XS)) × (XS → Option (Bool × XS)) × (XS → Option (Bool × XS)) × (XS → Option (Bool × XS))
  | 0 => (fun _ => none, fun _ => none, fun _ => none, fun _ => none)
  | r + 1 =>
    let q := lvR r
    let V := f_X10_isValue q.2.2.1 q.2.2.2
    let S := f_X10_isSum (f_X10_isProduct V)
    let Z := f_X10_isSingle q.1 q.2.1 S
    (f_X10_isTest (f_X10_isBoth Z), Z, S, V)
theorem c_lvR {g : Gx} {a : Nat → Nat} : ∀ r : Nat,
    (∀ (x : XS) (u : Bool × XS), (lvR r).1 x = some u → Mx g yX10_isTest cX10_isTest 1 (some .boolean) (10 * r + 7) 0 0 LM2 a x [.ref (a 0)] (pr (some (.int (b2i u.1))) u.2)) ∧
    (∀ (x : XS) (u : Bool × XS), (lvR r).2.1 x = some u → Mx g yX10_isSingle cX10_isSingle 2 (some .boolean) (10 * r + 5) 0 0 LM2 a x [.ref (a 0)] (pr (some (.int (b2i u.1))) u.2)) ∧
    (∀ (x : XS) (u : Bool × XS), (lvR r).2.2.1 x = some u → Mx g yX10_isSum cX10_isSum 2 (some .boolean) (10 * r + 4) 0 0 LM2 a x [.ref (a 0)] (pr (some (.int (b2i u.1))) u.2)) ∧
    (∀ (x : XS) (u : Bool × XS), (lvR r).2.2.2 x = some u → Mx g yX10_isValue cX10_isValue 2 (some .boolean) (10 * r + 2) 0 0 LM2 a x [.ref (a 0)] (pr (some (.int (b2i u.1))) u.2))
  | 0 => ⟨fun x u h => (by cases (show none = some u from h)), fun x u h => (by cases (show none = some u from h)), fun x u h => (by cases (show none = some u from h)), fun x u h => (by cases (show none = some u from h))⟩
  | r + 1 => by
    obtain ⟨hT, hZ, hS, hV⟩ := c_lvR (g := g) (a := a) r
    have hV' : ∀ (x : XS) (u : Bool × XS), f_X10_isValue (lvR r).2.2.1 (lvR r).2.2.2 x = some u → Mx g yX10_isValue cX10_isValue 2 (some .boolean) (10 * r + 12) 0 0 LM2 a x [.ref (a 0)] (pr (some (.int (b2i u.1))) u.2) := fun x u h => c_X10_isValue hS hV h
    have hP' : ∀ (x : XS) (u : Bool × XS), f_X10_isProduct (f_X10_isValue (lvR r).2.2.1 (lvR r).2.2.2) x = some u → Mx g yX10_isProduct cX10_isProduct 2 (some .boolean) (10 * r + 13) 0 0 LM2 a x [.ref (a 0)] (pr (some (.int (b2i u.1))) u.2) := fun x u h => c_X10_isProduct hV' h
    have hS' : ∀ (x : XS) (u : Bool × XS), f_X10_isSum (f_X10_isProduct (f_X10_isValue (lvR r).2.2.1 (lvR r).2.2.2)) x = some u → Mx g yX10_isSum cX10_isSum 2 (some .boolean) (10 * r + 14) 0 0 LM2 a x [.ref (a 0)] (pr (some (.int (b2i u.1))) u.2) := fun x u h => c_X10_isSum hP' h
    have hZ' : ∀ (x : XS) (u : Bool × XS), f_X10_isSingle (lvR r).1 (lvR r).2.1 (f_X10_isSum (f_X10_isProduct (f_X10_isValue (lvR r).2.2.1 (lvR r).2.2.2))) x = some u → Mx g yX10_isSingle cX10_isSingle 2 (some .boolean) (10 * r + 15) 0 0 LM2 a x [.ref (a 0)] (pr (some (.int (b2i u.1))) u.2) := fun x u h => c_X10_isSingle hT hZ hS' h
    have hB' : ∀ (x : XS) (u : Bool × XS), f_X10_isBoth (f_X10_isSingle (lvR r).1 (lvR r).2.1 (f_X10_isSum (f_X10_isProduct (f_X10_isValue (lvR r).2.2.1 (lvR r).2.2.2)))) x = some u → Mx g yX10_isBoth cX10_isBoth 1 (some .boolean) (10 * r + 16) 0 0 LM2 a x [.ref (a 0)] (pr (some (.int (b2i u.1))) u.2) := fun x u h => c_X10_isBoth hZ' h
    exact ⟨fun x u h => c_X10_isTest hB' h, hZ', hS', hV'⟩
theorem c_X10_isTest10 {g : Gx} {a : Nat → Nat} {x : XS} {u : Bool × XS} (h : (lvR 10).1 x = some u) : Mx g yX10_isTest cX10_isTest 1 (some .boolean) 107 0 0 LM2 a x [.ref (a 0)] (pr (some (.int (b2i u.1))) u.2) := (c_lvR 10).1 x u h
def f_X10_isOrder   (x : XS) : Option (Bool × XS) := og (inB (x.1 0 9) 401) (ob (f_X10_eatAs 40 6 (setI (setI (setI x 5 ((x.1 0 9) : Int32).toNatClampNeg 5) 0 9 (((setI x 5 ((x.1 0 9) : Int32).toNatClampNeg 5).1 0 9) + 1)) 21 6 (((setI (setI x 5 ((x.1 0 9) : Int32).toNatClampNeg 5) 0 9 (((setI x 5 ((x.1 0 9) : Int32).toNatClampNeg 5).1 0 9) + 1)).1 21 6) + 1))) (fun u51 => (if (b2i u51.1) = 0 then some (false, u51.2) else og (inB (minI ((setI (setI x 5 ((x.1 0 9) : Int32).toNatClampNeg 5) 0 9 (((setI x 5 ((x.1 0 9) : Int32).toNatClampNeg 5).1 0 9) + 1)).1 21 6) 16) 17) (ob (f_X10_eat 14 (setI u51.2 27 ((minI ((setI (setI x 5 ((x.1 0 9) : Int32).toNatClampNeg 5) 0 9 (((setI x 5 ((x.1 0 9) : Int32).toNatClampNeg 5).1 0 9) + 1)).1 21 6) 16) : Int32).toNatClampNeg (u51.2.1 21 12))) (fun u78 => (if (b2i u78.1) = 0 then og (inB (minI ((setI (setI x 5 ((x.1 0 9) : Int32).toNatClampNeg 5) 0 9 (((setI x 5 ((x.1 0 9) : Int32).toNatClampNeg 5).1 0 9) + 1)).1 21 6) 16) 17) (some (true, (setI u78.2 28 ((minI ((setI (setI x 5 ((x.1 0 9) : Int32).toNatClampNeg 5) 0 9 (((setI x 5 ((x.1 0 9) : Int32).toNatClampNeg 5).1 0 9) + 1)).1 21 6) 16) : Int32).toNatClampNeg (u78.2.1 21 12)))) else ob ((lvR 10).1 u78.2) (fun u85 => (if (b2i u85.1) = 0 then some (false, u85.2) else og (inB (minI ((setI (setI x 5 ((x.1 0 9) : Int32).toNatClampNeg 5) 0 9 (((setI x 5 ((x.1 0 9) : Int32).toNatClampNeg 5).1 0 9) + 1)).1 21 6) 16) 17) (some (true, (setI u85.2 28 ((minI ((setI (setI x 5 ((x.1 0 9) : Int32).toNatClampNeg 5) 0 9 (((setI x 5 ((x.1 0 9) : Int32).toNatClampNeg 5).1 0 9) + 1)).1 21 6) 16) : Int32).toNatClampNeg (u85.2.1 21 12))))))))))))

set_option maxHeartbeats 4000000 in
set_option maxRecDepth 100000 in
theorem c_X10_isOrder {g : Gx} {a : Nat → Nat} {x : XS}    {u : Bool × XS}  (h : f_X10_isOrder   x = some u) : Mx g yX10_isOrder cX10_isOrder 2 (some .boolean) 108 0 0 LM2 a x [.ref (a 0)] (pr (some (.int (b2i u.1))) u.2) := by
  refine Mx_of (by decide +kernel) (Nat.le_of_ble_eq_true rfl) ?_
  intro k hk he hg
  subst hg
  rw [f_X10_isOrder] at h
  refine xaload_n hk dX10_isOrder_0 rfl ?_
  refine xgetR (ci := 10) (f := 7) hk dX10_isOrder_1 ⟨rfl, by decide, _, rfl, rfl⟩ kX10_26 ?_
  refine xaload_n hk dX10_isOrder_4 rfl ?_
  refine xgetI (ci := 10) (f := 9) hk dX10_isOrder_5 ⟨rfl, by decide, _, rfl, rfl⟩ kX10_236 ?_
  refine xiconst (v := 5) hk dX10_isOrder_8 (by decide) ?_
  obtain ⟨hi9, h⟩ := og_some h
  refine xiast hk dX10_isOrder_9 rfl (inB_v hi9) ?_
  refine xaload_n hk dX10_isOrder_10 rfl ?_
  refine xdup hk dX10_isOrder_11 rfl ?_
  refine xgetI (ci := 10) (f := 9) hk dX10_isOrder_12 ⟨rfl, by decide, _, rfl, rfl⟩ kX10_236 ?_
  refine xiconst (v := 1) hk dX10_isOrder_15 (by decide) ?_
  refine xiadd hk dX10_isOrder_16 ?_
  refine xputI (ci := 10) (f := 9) hk dX10_isOrder_17 ⟨rfl, by decide, _, rfl, rfl⟩ kX10_236 ⟨rfl, by decide +kernel⟩ ?_
  refine xaload_n hk dX10_isOrder_20 rfl ?_
  refine xgetR (ci := 10) (f := 12) hk dX10_isOrder_21 ⟨rfl, by decide, _, rfl, rfl⟩ kX10_39 ?_
  refine xgetNI (ci := 9) (f := 6) hk dX10_isOrder_24 ⟨rfl, by decide, _, rfl, rfl⟩ kX10_266 ?_
  refine xbipush (v := 16) hk dX10_isOrder_27 (by decide) ?_
  refine xmmin hk dX10_isOrder_29 kX10_192 mw_min (by first | decide | omega) ⟨by decide, by decide⟩ (Nat.le_of_ble_eq_true rfl) ?_
  refine xistore_n hk dX10_isOrder_32 (by decide) ?_
  refine xaload_n hk dX10_isOrder_33 rfl ?_
  refine xgetR (ci := 10) (f := 12) hk dX10_isOrder_34 ⟨rfl, by decide, _, rfl, rfl⟩ kX10_39 ?_
  refine xdup hk dX10_isOrder_37 rfl ?_
  refine xgetNI (ci := 9) (f := 6) hk dX10_isOrder_38 ⟨rfl, by decide, _, rfl, rfl⟩ kX10_266 ?_
  refine xiconst (v := 1) hk dX10_isOrder_41 (by decide) ?_
  refine xiadd hk dX10_isOrder_42 ?_
  refine xputIN (ci := 9) (f := 6) hk dX10_isOrder_43 ⟨rfl, by decide, _, rfl, rfl⟩ kX10_266 ⟨rfl, by decide +kernel⟩ ?_
  refine xaload_n hk dX10_isOrder_46 rfl ?_
  refine xbipush (v := 40) hk dX10_isOrder_47 (by decide) ?_
  refine xbipush (v := 6) hk dX10_isOrder_49 (by decide) ?_
  obtain ⟨u51, e51, h⟩ := ob_some h
  refine xcallV hk (c_X10_eatAs e51) bX10_eatAs kX10_260 dX10_isOrder_51 rfl ⟨_, _, _, _, rfl, rfl⟩ rfl (by first | decide | omega) ⟨by decide, by decide⟩ (Nat.le_of_ble_eq_true rfl) (det ?_)
  refine xif_ne hk 59 dX10_isOrder_54 (by decide) (fun h54 => ?_) (fun h54 => ?_)
  · rw [if_neg h54] at h
    refine xaload_n hk dX10_isOrder_59 rfl ?_
    refine xgetR (ci := 10) (f := 12) hk dX10_isOrder_60 ⟨rfl, by decide, _, rfl, rfl⟩ kX10_39 ?_
    refine xgetNR (ci := 9) (f := 9) hk dX10_isOrder_63 ⟨rfl, by decide, _, rfl, rfl⟩ kX10_140 ?_
    refine xiload_n hk dX10_isOrder_66 rfl ?_
    refine xaload_n hk dX10_isOrder_67 rfl ?_
    refine xgetR (ci := 10) (f := 12) hk dX10_isOrder_68 ⟨rfl, by decide, _, rfl, rfl⟩ kX10_39 ?_
    refine xgetNI (ci := 9) (f := 12) hk dX10_isOrder_71 ⟨rfl, by decide, _, rfl, rfl⟩ kX10_245 ?_
    obtain ⟨hi74, h⟩ := og_some h
    refine xiast hk dX10_isOrder_74 rfl (inB_v hi74) ?_
    refine xaload_n hk dX10_isOrder_75 rfl ?_
    refine xbipush (v := 14) hk dX10_isOrder_76 (by decide) ?_
    obtain ⟨u78, e78, h⟩ := ob_some h
    refine xcallV hk (c_X10_eat e78) bX10_eat kX10_242 dX10_isOrder_78 rfl ⟨_, _, _, _, rfl, rfl⟩ rfl (by first | decide | omega) ⟨by decide, by decide⟩ (Nat.le_of_ble_eq_true rfl) (det ?_)
    refine xif_eq hk 93 dX10_isOrder_81 (by decide) (fun h81 => ?_) (fun h81 => ?_)
    · rw [if_pos h81] at h
      refine xaload_n hk dX10_isOrder_93 rfl ?_
      refine xgetR (ci := 10) (f := 12) hk dX10_isOrder_94 ⟨rfl, by decide, _, rfl, rfl⟩ kX10_39 ?_
      refine xgetNR (ci := 9) (f := 10) hk dX10_isOrder_97 ⟨rfl, by decide, _, rfl, rfl⟩ kX10_143 ?_
      refine xiload_n hk dX10_isOrder_100 rfl ?_
      refine xaload_n hk dX10_isOrder_101 rfl ?_
      refine xgetR (ci := 10) (f := 12) hk dX10_isOrder_102 ⟨rfl, by decide, _, rfl, rfl⟩ kX10_39 ?_
      refine xgetNI (ci := 9) (f := 12) hk dX10_isOrder_105 ⟨rfl, by decide, _, rfl, rfl⟩ kX10_245 ?_
      obtain ⟨hi108, h⟩ := og_some h
      refine xiast hk dX10_isOrder_108 rfl (inB_v hi108) ?_
      refine xiconst (v := 1) hk dX10_isOrder_109 (by decide) ?_
      refine xzret hk he dX10_isOrder_110 ⟨by decide, by decide⟩ (by first | with_reducible exact nar_b _ | rfl) ?_
      obtain rfl := Option.some.inj h
      exact ⟨rfl, rfl⟩
    · rw [if_neg h81] at h
      refine xaload_n hk dX10_isOrder_84 rfl ?_
      obtain ⟨u85, e85, h⟩ := ob_some h
      refine xcallV hk (c_X10_isTest10 e85) bX10_isTest kX10_269 dX10_isOrder_85 rfl ⟨_, _, _, _, rfl, rfl⟩ rfl (by first | decide | omega) ⟨by decide, by decide⟩ (Nat.le_of_ble_eq_true rfl) (det ?_)
      refine xif_ne hk 93 dX10_isOrder_88 (by decide) (fun h88 => ?_) (fun h88 => ?_)
      · rw [if_neg h88] at h
        refine xaload_n hk dX10_isOrder_93 rfl ?_
        refine xgetR (ci := 10) (f := 12) hk dX10_isOrder_94 ⟨rfl, by decide, _, rfl, rfl⟩ kX10_39 ?_
        refine xgetNR (ci := 9) (f := 10) hk dX10_isOrder_97 ⟨rfl, by decide, _, rfl, rfl⟩ kX10_143 ?_
        refine xiload_n hk dX10_isOrder_100 rfl ?_
        refine xaload_n hk dX10_isOrder_101 rfl ?_
        refine xgetR (ci := 10) (f := 12) hk dX10_isOrder_102 ⟨rfl, by decide, _, rfl, rfl⟩ kX10_39 ?_
        refine xgetNI (ci := 9) (f := 12) hk dX10_isOrder_105 ⟨rfl, by decide, _, rfl, rfl⟩ kX10_245 ?_
        obtain ⟨hi108, h⟩ := og_some h
        refine xiast hk dX10_isOrder_108 rfl (inB_v hi108) ?_
        refine xiconst (v := 1) hk dX10_isOrder_109 (by decide) ?_
        refine xzret hk he dX10_isOrder_110 ⟨by decide, by decide⟩ (by first | with_reducible exact nar_b _ | rfl) ?_
        obtain rfl := Option.some.inj h
        exact ⟨rfl, rfl⟩
      · rw [if_pos h88] at h
        refine xiconst (v := 0) hk dX10_isOrder_91 (by decide) ?_
        refine xzret hk he dX10_isOrder_92 ⟨by decide, by decide⟩ (by first | with_reducible exact nar_b _ | rfl) ?_
        obtain rfl := Option.some.inj h
        exact ⟨rfl, rfl⟩
  · rw [if_pos h54] at h
    refine xiconst (v := 0) hk dX10_isOrder_57 (by decide) ?_
    refine xzret hk he dX10_isOrder_58 ⟨by decide, by decide⟩ (by first | with_reducible exact nar_b _ | rfl) ?_
    obtain rfl := Option.some.inj h
    exact ⟨rfl, rfl⟩

def f_X10_isPlan_L0   : Nat → XS → Option (Bool × XS)
  | 0, _ => none
  | n + 1, x => ob (f_X10_is 900 x) (fun u4 => (if (b2i u4.1) = 0 then ob (f_X10_is 0 u4.2) (fun u12 => (if (b2i u12.1) = 0 then ob (f_X10_is 12 u12.2) (fun u28 => (if (b2i u28.1) = 0 then ob (f_X10_is 13 u28.2) (fun u37 => (if (b2i u37.1) = 0 then ob (f_X10_isStatementLine u37.2) (fun u51 => (if (b2i u51.1) = 0 then some (false, u51.2) else ob (f_X10_eatSign 59 u51.2) (fun u62 => (if (b2i u62.1) = 0 then some (false, u62.2) else (f_X10_isPlan_L0   n  u62.2))))) else ob (f_X10_isOrder u37.2) (fun u44 => (if (b2i u44.1) = 0 then some (false, u44.2) else ob (f_X10_eatSign 59 u44.2) (fun u62 => (if (b2i u62.1) = 0 then some (false, u62.2) else (f_X10_isPlan_L0   n  u62.2))))))) else ob (f_X10_isOrder u28.2) (fun u44 => (if (b2i u44.1) = 0 then some (false, u44.2) else ob (f_X10_eatSign 59 u44.2) (fun u62 => (if (b2i u62.1) = 0 then some (false, u62.2) else (f_X10_isPlan_L0   n  u62.2))))))) else ob (f_X10_isFamily u12.2) (fun u19 => (if (b2i u19.1) = 0 then some (false, u19.2) else ob (f_X10_eatSign 59 u19.2) (fun u62 => (if (b2i u62.1) = 0 then some (false, u62.2) else (f_X10_isPlan_L0   n  u62.2))))))) else some (true, u4.2)))
def f_X10_isPlan   (x : XS) : Option (Bool × XS) := (f_X10_isPlan_L0   402  x)

set_option maxHeartbeats 4000000 in
set_option maxRecDepth 100000 in
theorem c_X10_isPlan {g : Gx} {a : Nat → Nat} {x : XS}    {u : Bool × XS}  (h : f_X10_isPlan   x = some u) : Mx g yX10_isPlan cX10_isPlan 2 (some .boolean) 109 0 0 LM2 a x [.ref (a 0)] (pr (some (.int (b2i u.1))) u.2) := by
  refine Mx_of (by decide +kernel) (Nat.le_of_ble_eq_true rfl) ?_
  intro k hk he hg
  subst hg
  rw [f_X10_isPlan] at h
  have loop0 : ∀ (n0 : Nat)  (x : XS), f_X10_isPlan_L0   n0  x = some u → Wx k 0 0 LM2 a x 0 [(0, .ref (a 0))] [] := by
    intro n0
    induction n0 with
    | zero => intro  x h; rw [f_X10_isPlan_L0] at h; cases h
    | succ n0 ih0 =>
      intro  x h
      rw [f_X10_isPlan_L0] at h
      refine xaload_n hk dX10_isPlan_0 rfl ?_
      refine xsipush (v := 900) hk dX10_isPlan_1 (by decide) ?_
      obtain ⟨u4, e4, h⟩ := ob_some h
      refine xcallV hk (c_X10_is e4) bX10_is kX10_239 dX10_isPlan_4 rfl ⟨_, _, _, _, rfl, rfl⟩ rfl (by first | decide | omega) ⟨by decide, by decide⟩ (Nat.le_of_ble_eq_true rfl) (det ?_)
      refine xif_ne hk 73 dX10_isPlan_7 (by decide) (fun h7 => ?_) (fun h7 => ?_)
      · rw [if_neg h7] at h
        refine xiconst (v := 1) hk dX10_isPlan_73 (by decide) ?_
        refine xzret hk he dX10_isPlan_74 ⟨by decide, by decide⟩ (by first | with_reducible exact nar_b _ | rfl) ?_
        obtain rfl := Option.some.inj h
        exact ⟨rfl, rfl⟩
      · rw [if_pos h7] at h
        refine xaload_n hk dX10_isPlan_10 rfl ?_
        refine xiconst (v := 0) hk dX10_isPlan_11 (by decide) ?_
        obtain ⟨u12, e12, h⟩ := ob_some h
        refine xcallV hk (c_X10_is e12) bX10_is kX10_239 dX10_isPlan_12 rfl ⟨_, _, _, _, rfl, rfl⟩ rfl (by first | decide | omega) ⟨by decide, by decide⟩ (Nat.le_of_ble_eq_true rfl) (det ?_)
        refine xif_eq hk 25 dX10_isPlan_15 (by decide) (fun h15 => ?_) (fun h15 => ?_)
        · rw [if_pos h15] at h
          refine xaload_n hk dX10_isPlan_25 rfl ?_
          refine xbipush (v := 12) hk dX10_isPlan_26 (by decide) ?_
          obtain ⟨u28, e28, h⟩ := ob_some h
          refine xcallV hk (c_X10_is e28) bX10_is kX10_239 dX10_isPlan_28 rfl ⟨_, _, _, _, rfl, rfl⟩ rfl (by first | decide | omega) ⟨by decide, by decide⟩ (Nat.le_of_ble_eq_true rfl) (det ?_)
          refine xif_ne hk 43 dX10_isPlan_31 (by decide) (fun h31 => ?_) (fun h31 => ?_)
          · rw [if_neg h31] at h
            refine xaload_n hk dX10_isPlan_43 rfl ?_
            obtain ⟨u44, e44, h⟩ := ob_some h
            refine xcallV hk (c_X10_isOrder e44) bX10_isOrder kX10_250 dX10_isPlan_44 rfl ⟨_, _, _, _, rfl, rfl⟩ rfl (by first | decide | omega) ⟨by decide, by decide⟩ (Nat.le_of_ble_eq_true rfl) (det ?_)
            refine xgoto hk 54 dX10_isPlan_47 (by decide) ?_
            refine xistore_n hk dX10_isPlan_54 (by decide) ?_
            refine xiload_n hk dX10_isPlan_55 rfl ?_
            refine xif_eq hk 68 dX10_isPlan_56 (by decide) (fun h56 => ?_) (fun h56 => ?_)
            · rw [if_pos h56] at h
              refine xiconst (v := 0) hk dX10_isPlan_68 (by decide) ?_
              refine xzret hk he dX10_isPlan_69 ⟨by decide, by decide⟩ (by first | with_reducible exact nar_b _ | rfl) ?_
              obtain rfl := Option.some.inj h
              exact ⟨rfl, rfl⟩
            · rw [if_neg h56] at h
              refine xaload_n hk dX10_isPlan_59 rfl ?_
              refine xbipush (v := 59) hk dX10_isPlan_60 (by decide) ?_
              obtain ⟨u62, e62, h⟩ := ob_some h
              refine xcallV hk (c_X10_eatSign e62) bX10_eatSign kX10_256 dX10_isPlan_62 rfl ⟨_, _, _, _, rfl, rfl⟩ rfl (by first | decide | omega) ⟨by decide, by decide⟩ (Nat.le_of_ble_eq_true rfl) (det ?_)
              refine xif_ne hk 70 dX10_isPlan_65 (by decide) (fun h65 => ?_) (fun h65 => ?_)
              · rw [if_neg h65] at h
                refine xgoto hk 0 dX10_isPlan_70 (by decide) ?_
                refine xsub [(0, .ref (a 0))] rfl ?_
                exact ih0  _ h
              · rw [if_pos h65] at h
                refine xiconst (v := 0) hk dX10_isPlan_68 (by decide) ?_
                refine xzret hk he dX10_isPlan_69 ⟨by decide, by decide⟩ (by first | with_reducible exact nar_b _ | rfl) ?_
                obtain rfl := Option.some.inj h
                exact ⟨rfl, rfl⟩
          · rw [if_pos h31] at h
            refine xaload_n hk dX10_isPlan_34 rfl ?_
            refine xbipush (v := 13) hk dX10_isPlan_35 (by decide) ?_
            obtain ⟨u37, e37, h⟩ := ob_some h
            refine xcallV hk (c_X10_is e37) bX10_is kX10_239 dX10_isPlan_37 rfl ⟨_, _, _, _, rfl, rfl⟩ rfl (by first | decide | omega) ⟨by decide, by decide⟩ (Nat.le_of_ble_eq_true rfl) (det ?_)
            refine xif_eq hk 50 dX10_isPlan_40 (by decide) (fun h40 => ?_) (fun h40 => ?_)
            · rw [if_pos h40] at h
              refine xaload_n hk dX10_isPlan_50 rfl ?_
              obtain ⟨u51, e51, h⟩ := ob_some h
              refine xcallV hk (c_X10_isStatementLine e51) bX10_isStatementLine kX10_253 dX10_isPlan_51 rfl ⟨_, _, _, _, rfl, rfl⟩ rfl (by first | decide | omega) ⟨by decide, by decide⟩ (Nat.le_of_ble_eq_true rfl) (det ?_)
              refine xistore_n hk dX10_isPlan_54 (by decide) ?_
              refine xiload_n hk dX10_isPlan_55 rfl ?_
              refine xif_eq hk 68 dX10_isPlan_56 (by decide) (fun h56 => ?_) (fun h56 => ?_)
              · rw [if_pos h56] at h
                refine xiconst (v := 0) hk dX10_isPlan_68 (by decide) ?_
                refine xzret hk he dX10_isPlan_69 ⟨by decide, by decide⟩ (by first | with_reducible exact nar_b _ | rfl) ?_
                obtain rfl := Option.some.inj h
                exact ⟨rfl, rfl⟩
              · rw [if_neg h56] at h
                refine xaload_n hk dX10_isPlan_59 rfl ?_
                refine xbipush (v := 59) hk dX10_isPlan_60 (by decide) ?_
                obtain ⟨u62, e62, h⟩ := ob_some h
                refine xcallV hk (c_X10_eatSign e62) bX10_eatSign kX10_256 dX10_isPlan_62 rfl ⟨_, _, _, _, rfl, rfl⟩ rfl (by first | decide | omega) ⟨by decide, by decide⟩ (Nat.le_of_ble_eq_true rfl) (det ?_)
                refine xif_ne hk 70 dX10_isPlan_65 (by decide) (fun h65 => ?_) (fun h65 => ?_)
                · rw [if_neg h65] at h
                  refine xgoto hk 0 dX10_isPlan_70 (by decide) ?_
                  refine xsub [(0, .ref (a 0))] rfl ?_
                  exact ih0  _ h
                · rw [if_pos h65] at h
                  refine xiconst (v := 0) hk dX10_isPlan_68 (by decide) ?_
                  refine xzret hk he dX10_isPlan_69 ⟨by decide, by decide⟩ (by first | with_reducible exact nar_b _ | rfl) ?_
                  obtain rfl := Option.some.inj h
                  exact ⟨rfl, rfl⟩
            · rw [if_neg h40] at h
              refine xaload_n hk dX10_isPlan_43 rfl ?_
              obtain ⟨u44, e44, h⟩ := ob_some h
              refine xcallV hk (c_X10_isOrder e44) bX10_isOrder kX10_250 dX10_isPlan_44 rfl ⟨_, _, _, _, rfl, rfl⟩ rfl (by first | decide | omega) ⟨by decide, by decide⟩ (Nat.le_of_ble_eq_true rfl) (det ?_)
              refine xgoto hk 54 dX10_isPlan_47 (by decide) ?_
              refine xistore_n hk dX10_isPlan_54 (by decide) ?_
              refine xiload_n hk dX10_isPlan_55 rfl ?_
              refine xif_eq hk 68 dX10_isPlan_56 (by decide) (fun h56 => ?_) (fun h56 => ?_)
              · rw [if_pos h56] at h
                refine xiconst (v := 0) hk dX10_isPlan_68 (by decide) ?_
                refine xzret hk he dX10_isPlan_69 ⟨by decide, by decide⟩ (by first | with_reducible exact nar_b _ | rfl) ?_
                obtain rfl := Option.some.inj h
                exact ⟨rfl, rfl⟩
              · rw [if_neg h56] at h
                refine xaload_n hk dX10_isPlan_59 rfl ?_
                refine xbipush (v := 59) hk dX10_isPlan_60 (by decide) ?_
                obtain ⟨u62, e62, h⟩ := ob_some h
                refine xcallV hk (c_X10_eatSign e62) bX10_eatSign kX10_256 dX10_isPlan_62 rfl ⟨_, _, _, _, rfl, rfl⟩ rfl (by first | decide | omega) ⟨by decide, by decide⟩ (Nat.le_of_ble_eq_true rfl) (det ?_)
                refine xif_ne hk 70 dX10_isPlan_65 (by decide) (fun h65 => ?_) (fun h65 => ?_)
                · rw [if_neg h65] at h
                  refine xgoto hk 0 dX10_isPlan_70 (by decide) ?_
                  refine xsub [(0, .ref (a 0))] rfl ?_
                  exact ih0  _ h
                · rw [if_pos h65] at h
                  refine xiconst (v := 0) hk dX10_isPlan_68 (by decide) ?_
                  refine xzret hk he dX10_isPlan_69 ⟨by decide, by decide⟩ (by first | with_reducible exact nar_b _ | rfl) ?_
                  obtain rfl := Option.some.inj h
                  exact ⟨rfl, rfl⟩
        · rw [if_neg h15] at h
          refine xaload_n hk dX10_isPlan_18 rfl ?_
          obtain ⟨u19, e19, h⟩ := ob_some h
          refine xcallV hk (c_X10_isFamily e19) bX10_isFamily kX10_246 dX10_isPlan_19 rfl ⟨_, _, _, _, rfl, rfl⟩ rfl (by first | decide | omega) ⟨by decide, by decide⟩ (Nat.le_of_ble_eq_true rfl) (det ?_)
          refine xgoto hk 54 dX10_isPlan_22 (by decide) ?_
          refine xistore_n hk dX10_isPlan_54 (by decide) ?_
          refine xiload_n hk dX10_isPlan_55 rfl ?_
          refine xif_eq hk 68 dX10_isPlan_56 (by decide) (fun h56 => ?_) (fun h56 => ?_)
          · rw [if_pos h56] at h
            refine xiconst (v := 0) hk dX10_isPlan_68 (by decide) ?_
            refine xzret hk he dX10_isPlan_69 ⟨by decide, by decide⟩ (by first | with_reducible exact nar_b _ | rfl) ?_
            obtain rfl := Option.some.inj h
            exact ⟨rfl, rfl⟩
          · rw [if_neg h56] at h
            refine xaload_n hk dX10_isPlan_59 rfl ?_
            refine xbipush (v := 59) hk dX10_isPlan_60 (by decide) ?_
            obtain ⟨u62, e62, h⟩ := ob_some h
            refine xcallV hk (c_X10_eatSign e62) bX10_eatSign kX10_256 dX10_isPlan_62 rfl ⟨_, _, _, _, rfl, rfl⟩ rfl (by first | decide | omega) ⟨by decide, by decide⟩ (Nat.le_of_ble_eq_true rfl) (det ?_)
            refine xif_ne hk 70 dX10_isPlan_65 (by decide) (fun h65 => ?_) (fun h65 => ?_)
            · rw [if_neg h65] at h
              refine xgoto hk 0 dX10_isPlan_70 (by decide) ?_
              refine xsub [(0, .ref (a 0))] rfl ?_
              exact ih0  _ h
            · rw [if_pos h65] at h
              refine xiconst (v := 0) hk dX10_isPlan_68 (by decide) ?_
              refine xzret hk he dX10_isPlan_69 ⟨by decide, by decide⟩ (by first | with_reducible exact nar_b _ | rfl) ?_
              obtain rfl := Option.some.inj h
              exact ⟨rfl, rfl⟩
  refine xsub [(0, .ref (a 0))] rfl ?_
  exact loop0 _  _ h

