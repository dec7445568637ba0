theorem kX10_9 : Cond.fieldLink RX10 9 "FeudBookModel" "tape" "[I" ∈ GW := gw_mem 1192 (by decide +kernel) (by decide +kernel)
theorem kX10_17 : Cond.fieldLink RX10 17 "FeudBookModel" "kind" "[I" ∈ GW := gw_mem 1195 (by decide +kernel) (by decide +kernel)
theorem kX10_236 : Cond.fieldLink RX10 236 "FeudBookModel" "token" "I" ∈ GW := gw_mem 1200 (by decide +kernel) (by decide +kernel)
theorem kX10_239 : Cond.methodLink RX10 239 yX10_is ∈ GW := gw_mem 1383 (by decide +kernel) (by decide +kernel)
theorem bX10_is : CBv yX10_is cX10_is 2 (some .boolean) 1 := ⟨⟨gw_mem 1386 (by decide +kernel) (by decide +kernel), gw_mem 14 (by decide +kernel) (by decide +kernel), by decide +kernel, by decide⟩, gw_mem 1385 (by decide +kernel) (by decide +kernel), gw_sel 53 (by decide +kernel) (by decide +kernel)⟩
theorem kX10_242 : Cond.methodLink RX10 242 yX10_eat ∈ GW := gw_mem 1395 (by decide +kernel) (by decide +kernel)
theorem bX10_eat : CBv yX10_eat cX10_eat 2 (some .boolean) 1 := ⟨⟨gw_mem 1398 (by decide +kernel) (by decide +kernel), gw_mem 14 (by decide +kernel) (by decide +kernel), by decide +kernel, by decide⟩, gw_mem 1397 (by decide +kernel) (by decide +kernel), gw_sel 56 (by decide +kernel) (by decide +kernel)⟩
theorem kX10_26 : Cond.fieldLink RX10 26 "FeudBookModel" "role" "[I" ∈ GW := gw_mem 1198 (by decide +kernel) (by decide +kernel)
theorem kX10_39 : Cond.fieldLink RX10 39 "FeudBookModel" "reading" "LFeudBookModel$Plan;" ∈ GW := gw_mem 1203 (by decide +kernel) (by decide +kernel)
theorem kX10_245 : Cond.fieldLinkNest RX10 245 "FeudBookModel$Plan" "size" "I" "FeudBookModel" ∈ NW := nw_mem 1156 (by decide +kernel) rfl
theorem kX10_260 : Cond.methodLink RX10 260 yX10_eatAs ∈ GW := gw_mem 1391 (by decide +kernel) (by decide +kernel)
theorem bX10_eatAs : CBv yX10_eatAs cX10_eatAs 3 (some .boolean) 2 := ⟨⟨gw_mem 1394 (by decide +kernel) (by decide +kernel), gw_mem 14 (by decide +kernel) (by decide +kernel), by decide +kernel, by decide⟩, gw_mem 1393 (by decide +kernel) (by decide +kernel), gw_sel 55 (by decide +kernel) (by decide +kernel)⟩
theorem kX10_263 : Cond.methodLink RX10 263 yX10_isClaimTold ∈ GW := gw_mem 1472 (by decide +kernel) (by decide +kernel)
theorem bX10_isClaimTold : CBv yX10_isClaimTold cX10_isClaimTold 2 (some .boolean) 1 := ⟨⟨gw_mem 1475 (by decide +kernel) (by decide +kernel), gw_mem 14 (by decide +kernel) (by decide +kernel), by decide +kernel, by decide⟩, gw_mem 1474 (by decide +kernel) (by decide +kernel), gw_sel 75 (by decide +kernel) (by decide +kernel)⟩
theorem kX10_281 : Cond.fieldLink RX10 281 "FeudBookModel" "depth" "I" ∈ GW := gw_mem 1201 (by decide +kernel) (by decide +kernel)
theorem kX10_284 : Cond.fieldLinkNest RX10 284 "FeudBookModel$Plan" "open" "[I" "FeudBookModel" ∈ NW := nw_mem 1158 (by decide +kernel) rfl
theorem kX10_287 : Cond.fieldLinkNest RX10 287 "FeudBookModel$Plan" "opens" "I" "FeudBookModel" ∈ NW := nw_mem 1159 (by decide +kernel) rfl
theorem kX10_275 : Cond.methodLink RX10 275 yX10_put ∈ GW := gw_mem 1420 (by decide +kernel) (by decide +kernel)
theorem bX10_put : CBv yX10_put cX10_put 2 none 1 := ⟨⟨gw_mem 1423 (by decide +kernel) (by decide +kernel), gw_mem 14 (by decide +kernel) (by decide +kernel), by decide +kernel, by decide⟩, gw_mem 1422 (by decide +kernel) (by decide +kernel), gw_sel 62 (by decide +kernel) (by decide +kernel)⟩
theorem kX10_290 : Cond.methodLink RX10 290 yX10_isName ∈ GW := gw_mem 1436 (by decide +kernel) (by decide +kernel)
theorem bX10_isName : CBv yX10_isName cX10_isName 2 (some .boolean) 1 := ⟨⟨gw_mem 1439 (by decide +kernel) (by decide +kernel), gw_mem 14 (by decide +kernel) (by decide +kernel), by decide +kernel, by decide⟩, gw_mem 1438 (by decide +kernel) (by decide +kernel), gw_sel 66 (by decide +kernel) (by decide +kernel)⟩
theorem kX10_308 : Cond.methodLink RX10 308 yX10_isClaimIn ∈ GW := gw_mem 1444 (by decide +kernel) (by decide +kernel)
theorem bX10_isClaimIn : CBv yX10_isClaimIn cX10_isClaimIn 1 (some .boolean) 0 := ⟨⟨gw_mem 1447 (by decide +kernel) (by decide +kernel), gw_mem 14 (by decide +kernel) (by decide +kernel), by decide +kernel, by decide⟩, gw_mem 1446 (by decide +kernel) (by decide +kernel), gw_sel 68 (by decide +kernel) (by decide +kernel)⟩
theorem kX10_23 : Cond.fieldLink RX10 23 "FeudBookModel" "many" "[I" ∈ GW := gw_mem 1197 (by decide +kernel) (by decide +kernel)
theorem kX10_20 : Cond.fieldLink RX10 20 "FeudBookModel" "from" "[I" ∈ GW := gw_mem 1196 (by decide +kernel) (by decide +kernel)
theorem kX10_324 : Cond.methodLink RX10 324 yX10_isSame ∈ GW := gw_mem 1492 (by decide +kernel) (by decide +kernel)
theorem bX10_isSame : CBv yX10_isSame cX10_isSame 4 (some .boolean) 2 := ⟨⟨gw_mem 1495 (by decide +kernel) (by decide +kernel), gw_mem 14 (by decide +kernel) (by decide +kernel), by decide +kernel, by decide⟩, gw_mem 1494 (by decide +kernel) (by decide +kernel), gw_sel 80 (by decide +kernel) (by decide +kernel)⟩
def og {α : Type} (b : Bool) (r : Option α) : Option α := if b then r else none
theorem og_some {α : Type} {b : Bool} {r : Option α} {u : α} (h : og b r = some u) : b = true ∧ r = some u := by
  unfold og at h; split at h
  · exact ⟨by assumption, h⟩
  · cases h
def ob {α β : Type} (q : Option β) (f : β → Option α) : Option α := match q with
  | none => none
  | some v => f v
theorem ob_some {α β : Type} {q : Option β} {f : β → Option α} {u : α} (h : ob q f = some u) : ∃ v, q = some v ∧ f v = some u := by
  unfold ob at h; split at h
  · cases h
  · exact ⟨_, rfl, h⟩

def f_X10_isLetter  (p : Int32) (x : XS) : Option (Bool × XS) := (if p < 97 then some (false, x) else (if 122 < p then some (false, x) else some (true, x)))

set_option maxHeartbeats 4000000 in
set_option maxRecDepth 100000 in
theorem c_X10_isLetter {g : Gx} {a : Nat → Nat} {x : XS}   {p : Int32} {u : Bool × XS}  (h : f_X10_isLetter  p x = some u) : Mx g yX10_isLetter cX10_isLetter 1 (some .boolean) 1 0 0 LM2 a x [.int p] (pr (some (.int (b2i u.1))) u.2) := by
  refine Mx_of (by decide +kernel) (Nat.le_of_ble_eq_true rfl) ?_
  intro k hk he hg
  subst hg
  rw [f_X10_isLetter] at h
  refine xiload_n hk dX10_isLetter_0 rfl ?_
  refine xbipush (v := 97) hk dX10_isLetter_1 (by decide) ?_
  refine xicmp_lt hk 16 dX10_isLetter_3 (by decide) (fun h3 => ?_) (fun h3 => ?_)
  · rw [if_pos h3] at h
    refine xiconst (v := 0) hk dX10_isLetter_16 (by decide) ?_
    refine xzret hk he dX10_isLetter_17 ⟨by decide, by decide⟩ (by first | with_reducible exact nar_b _ | rfl) ?_
    obtain rfl := Option.some.inj h
    exact ⟨rfl, rfl⟩
  · rw [if_neg h3] at h
    refine xiload_n hk dX10_isLetter_6 rfl ?_
    refine xbipush (v := 122) hk dX10_isLetter_7 (by decide) ?_
    refine xicmp_gt hk 16 dX10_isLetter_9 (by decide) (fun h9 => ?_) (fun h9 => ?_)
    · rw [if_pos h9] at h
      refine xiconst (v := 0) hk dX10_isLetter_16 (by decide) ?_
      refine xzret hk he dX10_isLetter_17 ⟨by decide, by decide⟩ (by first | with_reducible exact nar_b _ | rfl) ?_
      obtain rfl := Option.some.inj h
      exact ⟨rfl, rfl⟩
    · rw [if_neg h9] at h
      refine xiconst (v := 1) hk dX10_isLetter_12 (by decide) ?_
      refine xgoto hk 17 dX10_isLetter_13 (by decide) ?_
      refine xzret hk he dX10_isLetter_17 ⟨by decide, by decide⟩ (by first | with_reducible exact nar_b _ | rfl) ?_
      obtain rfl := Option.some.inj h
      exact ⟨rfl, rfl⟩

def f_X10_isDigit  (p : Int32) (x : XS) : Option (Bool × XS) := (if p < 48 then some (false, x) else (if 57 < p then some (false, x) else some (true, x)))

set_option maxHeartbeats 4000000 in
set_option maxRecDepth 100000 in
theorem c_X10_isDigit {g : Gx} {a : Nat → Nat} {x : XS}   {p : Int32} {u : Bool × XS}  (h : f_X10_isDigit  p x = some u) : Mx g yX10_isDigit cX10_isDigit 1 (some .boolean) 1 0 0 LM2 a x [.int p] (pr (some (.int (b2i u.1))) u.2) := by
  refine Mx_of (by decide +kernel) (Nat.le_of_ble_eq_true rfl) ?_
  intro k hk he hg
  subst hg
  rw [f_X10_isDigit] at h
  refine xiload_n hk dX10_isDigit_0 rfl ?_
  refine xbipush (v := 48) hk dX10_isDigit_1 (by decide) ?_
  refine xicmp_lt hk 16 dX10_isDigit_3 (by decide) (fun h3 => ?_) (fun h3 => ?_)
  · rw [if_pos h3] at h
    refine xiconst (v := 0) hk dX10_isDigit_16 (by decide) ?_
    refine xzret hk he dX10_isDigit_17 ⟨by decide, by decide⟩ (by first | with_reducible exact nar_b _ | rfl) ?_
    obtain rfl := Option.some.inj h
    exact ⟨rfl, rfl⟩
  · rw [if_neg h3] at h
    refine xiload_n hk dX10_isDigit_6 rfl ?_
    refine xbipush (v := 57) hk dX10_isDigit_7 (by decide) ?_
    refine xicmp_gt hk 16 dX10_isDigit_9 (by decide) (fun h9 => ?_) (fun h9 => ?_)
    · rw [if_pos h9] at h
      refine xiconst (v := 0) hk dX10_isDigit_16 (by decide) ?_
      refine xzret hk he dX10_isDigit_17 ⟨by decide, by decide⟩ (by first | with_reducible exact nar_b _ | rfl) ?_
      obtain rfl := Option.some.inj h
      exact ⟨rfl, rfl⟩
    · rw [if_neg h9] at h
      refine xiconst (v := 1) hk dX10_isDigit_12 (by decide) ?_
      refine xgoto hk 17 dX10_isDigit_13 (by decide) ?_
      refine xzret hk he dX10_isDigit_17 ⟨by decide, by decide⟩ (by first | with_reducible exact nar_b _ | rfl) ?_
      obtain rfl := Option.some.inj h
      exact ⟨rfl, rfl⟩

def f_X10_byteOf  (p : Int32) (x : XS) : Option (Int32 × XS) := (if (x.1 0 2) ≤ p then some ((-1), x) else og (inB p 2000) (some ((x.1 1 (p : Int32).toNatClampNeg), x)))

set_option maxHeartbeats 4000000 in
set_option maxRecDepth 100000 in
theorem c_X10_byteOf {g : Gx} {a : Nat → Nat} {x : XS}   {p : Int32} {u : Int32 × XS}  (h : f_X10_byteOf  p x = some u) : Mx g yX10_byteOf cX10_byteOf 2 (some .int) 1 0 0 LM2 a x [.ref (a 0), .int p] (pr (some (.int u.1)) u.2) := by
  refine Mx_of (by decide +kernel) (Nat.le_of_ble_eq_true rfl) ?_
  intro k hk he hg
  subst hg
  rw [f_X10_byteOf] at h
  refine xiload_n hk dX10_byteOf_0 rfl ?_
  refine xaload_n hk dX10_byteOf_1 rfl ?_
  refine xgetI (ci := 10) (f := 2) hk dX10_byteOf_2 ⟨rfl, by decide, _, rfl, rfl⟩ kX10_200 ?_
  refine xicmp_ge hk 17 dX10_byteOf_5 (by decide) (fun h5 => ?_) (fun h5 => ?_)
  · rw [if_pos h5] at h
    refine xiconst (v := (-1)) hk dX10_byteOf_17 (by decide) ?_
    refine xiret hk he dX10_byteOf_18 ⟨by decide, by decide⟩ ?_
    obtain rfl := Option.some.inj h
    exact ⟨rfl, rfl⟩
  · rw [if_neg h5] at h
    refine xaload_n hk dX10_byteOf_8 rfl ?_
    refine xgetR (ci := 10) (f := 1) hk dX10_byteOf_9 ⟨rfl, by decide, _, rfl, rfl⟩ kX10_9 ?_
    refine xiload_n hk dX10_byteOf_12 rfl ?_
    obtain ⟨hi13, h⟩ := og_some h
    refine xiald hk dX10_byteOf_13 rfl (inB_v hi13) ?_
    refine xgoto hk 18 dX10_byteOf_14 (by decide) ?_
    refine xiret hk he dX10_byteOf_18 ⟨by decide, by decide⟩ ?_
    obtain rfl := Option.some.inj h
    exact ⟨rfl, rfl⟩

def f_X10_is  (p : Int32) (x : XS) : Option (Bool × XS) := og (inB (x.1 0 9) 401) ((if (x.1 2 ((x.1 0 9) : Int32).toNatClampNeg) = p then some (true, x) else some (false, x)))

set_option maxHeartbeats 4000000 in
set_option maxRecDepth 100000 in
theorem c_X10_is {g : Gx} {a : Nat → Nat} {x : XS}   {p : Int32} {u : Bool × XS}  (h : f_X10_is  p x = some u) : Mx g yX10_is cX10_is 2 (some .boolean) 1 0 0 LM2 a x [.ref (a 0), .int p] (pr (some (.int (b2i u.1))) u.2) := by
  refine Mx_of (by decide +kernel) (Nat.le_of_ble_eq_true rfl) ?_
  intro k hk he hg
  subst hg
  rw [f_X10_is] at h
  refine xaload_n hk dX10_is_0 rfl ?_
  refine xgetR (ci := 10) (f := 4) hk dX10_is_1 ⟨rfl, by decide, _, rfl, rfl⟩ kX10_17 ?_
  refine xaload_n hk dX10_is_4 rfl ?_
  refine xgetI (ci := 10) (f := 9) hk dX10_is_5 ⟨rfl, by decide, _, rfl, rfl⟩ kX10_236 ?_
  obtain ⟨hi8, h⟩ := og_some h
  refine xiald hk dX10_is_8 rfl (inB_v hi8) ?_
  refine xiload_n hk dX10_is_9 rfl ?_
  refine xicmp_ne hk 17 dX10_is_10 (by decide) (fun h10 => ?_) (fun h10 => ?_)
  · rw [if_neg h10] at h
    refine xiconst (v := 0) hk dX10_is_17 (by decide) ?_
    refine xzret hk he dX10_is_18 ⟨by decide, by decide⟩ (by first | with_reducible exact nar_b _ | rfl) ?_
    obtain rfl := Option.some.inj h
    exact ⟨rfl, rfl⟩
  · rw [if_pos h10] at h
    refine xiconst (v := 1) hk dX10_is_13 (by decide) ?_
    refine xgoto hk 18 dX10_is_14 (by decide) ?_
    refine xzret hk he dX10_is_18 ⟨by decide, by decide⟩ (by first | with_reducible exact nar_b _ | rfl) ?_
    obtain rfl := Option.some.inj h
    exact ⟨rfl, rfl⟩

def f_X10_isSign  (p : Int32) (x : XS) : Option (Bool × XS) := og (inB (x.1 0 9) 401) ((if (x.1 2 ((x.1 0 9) : Int32).toNatClampNeg) = (50 + p) then some (true, x) else some (false, x)))

set_option maxHeartbeats 4000000 in
set_option maxRecDepth 100000 in
theorem c_X10_isSign {g : Gx} {a : Nat → Nat} {x : XS}   {p : Int32} {u : Bool × XS}  (h : f_X10_isSign  p x = some u) : Mx g yX10_isSign cX10_isSign 2 (some .boolean) 1 0 0 LM2 a x [.ref (a 0), .int p] (pr (some (.int (b2i u.1))) u.2) := by
  refine Mx_of (by decide +kernel) (Nat.le_of_ble_eq_true rfl) ?_
  intro k hk he hg
  subst hg
  rw [f_X10_isSign] at h
  refine xaload_n hk dX10_isSign_0 rfl ?_
  refine xgetR (ci := 10) (f := 4) hk dX10_isSign_1 ⟨rfl, by decide, _, rfl, rfl⟩ kX10_17 ?_
  refine xaload_n hk dX10_isSign_4 rfl ?_
  refine xgetI (ci := 10) (f := 9) hk dX10_isSign_5 ⟨rfl, by decide, _, rfl, rfl⟩ kX10_236 ?_
  obtain ⟨hi8, h⟩ := og_some h
  refine xiald hk dX10_isSign_8 rfl (inB_v hi8) ?_
  refine xbipush (v := 50) hk dX10_isSign_9 (by decide) ?_
  refine xiload_n hk dX10_isSign_11 rfl ?_
  refine xiadd hk dX10_isSign_12 ?_
  refine xicmp_ne hk 20 dX10_isSign_13 (by decide) (fun h13 => ?_) (fun h13 => ?_)
  · rw [if_neg h13] at h
    refine xiconst (v := 0) hk dX10_isSign_20 (by decide) ?_
    refine xzret hk he dX10_isSign_21 ⟨by decide, by decide⟩ (by first | with_reducible exact nar_b _ | rfl) ?_
    obtain rfl := Option.some.inj h
    exact ⟨rfl, rfl⟩
  · rw [if_pos h13] at h
    refine xiconst (v := 1) hk dX10_isSign_16 (by decide) ?_
    refine xgoto hk 21 dX10_isSign_17 (by decide) ?_
    refine xzret hk he dX10_isSign_21 ⟨by decide, by decide⟩ (by first | with_reducible exact nar_b _ | rfl) ?_
    obtain rfl := Option.some.inj h
    exact ⟨rfl, rfl⟩

def f_X10_eat  (p : Int32) (x : XS) : Option (Bool × XS) := ob (f_X10_is p x) (fun u2 => (if (b2i u2.1) = 0 then some (false, u2.2) else some (true, (setI u2.2 0 9 ((u2.2.1 0 9) + 1)))))

set_option maxHeartbeats 4000000 in
set_option maxRecDepth 100000 in
theorem c_X10_eat {g : Gx} {a : Nat → Nat} {x : XS}   {p : Int32} {u : Bool × XS}  (h : f_X10_eat  p x = some u) : Mx g yX10_eat cX10_eat 2 (some .boolean) 2 0 0 LM2 a x [.ref (a 0), .int p] (pr (some (.int (b2i u.1))) u.2) := by
  refine Mx_of (by decide +kernel) (Nat.le_of_ble_eq_true rfl) ?_
  intro k hk he hg
  subst hg
  rw [f_X10_eat] at h
  refine xaload_n hk dX10_eat_0 rfl ?_
  refine xiload_n hk dX10_eat_1 rfl ?_
  obtain ⟨u2, e2, h⟩ := ob_some h
  refine xcallV hk (c_X10_is e2) bX10_is kX10_239 dX10_eat_2 rfl ⟨_, _, _, _, rfl, rfl⟩ rfl (by first | decide | omega) ⟨by decide, by decide⟩ (Nat.le_of_ble_eq_true rfl) (det ?_)
  refine xif_ne hk 10 dX10_eat_5 (by decide) (fun h5 => ?_) (fun h5 => ?_)
  · rw [if_neg h5] at h
    refine xaload_n hk dX10_eat_10 rfl ?_
    refine xdup hk dX10_eat_11 rfl ?_
    refine xgetI (ci := 10) (f := 9) hk dX10_eat_12 ⟨rfl, by decide, _, rfl, rfl⟩ kX10_236 ?_
    refine xiconst (v := 1) hk dX10_eat_15 (by decide) ?_
    refine xiadd hk dX10_eat_16 ?_
    refine xputI (ci := 10) (f := 9) hk dX10_eat_17 ⟨rfl, by decide, _, rfl, rfl⟩ kX10_236 ⟨rfl, by decide +kernel⟩ ?_
    refine xiconst (v := 1) hk dX10_eat_20 (by decide) ?_
    refine xzret hk he dX10_eat_21 ⟨by decide, by decide⟩ (by first | with_reducible exact nar_b _ | rfl) ?_
    obtain rfl := Option.some.inj h
    exact ⟨rfl, rfl⟩
  · rw [if_pos h5] at h
    refine xiconst (v := 0) hk dX10_eat_8 (by decide) ?_
    refine xzret hk he dX10_eat_9 ⟨by decide, by decide⟩ (by first | with_reducible exact nar_b _ | rfl) ?_
    obtain rfl := Option.some.inj h
    exact ⟨rfl, rfl⟩

def f_X10_eatSign  (p : Int32) (x : XS) : Option (Bool × XS) := ob (f_X10_eat (50 + p) x) (fun u5 => some (u5.1, u5.2))

set_option maxHeartbeats 4000000 in
set_option maxRecDepth 100000 in
theorem c_X10_eatSign {g : Gx} {a : Nat → Nat} {x : XS}   {p : Int32} {u : Bool × XS}  (h : f_X10_eatSign  p x = some u) : Mx g yX10_eatSign cX10_eatSign 2 (some .boolean) 3 0 0 LM2 a x [.ref (a 0), .int p] (pr (some (.int (b2i u.1))) u.2) := by
  refine Mx_of (by decide +kernel) (Nat.le_of_ble_eq_true rfl) ?_
  intro k hk he hg
  subst hg
  rw [f_X10_eatSign] at h
  refine xaload_n hk dX10_eatSign_0 rfl ?_
  refine xbipush (v := 50) hk dX10_eatSign_1 (by decide) ?_
  refine xiload_n hk dX10_eatSign_3 rfl ?_
  refine xiadd hk dX10_eatSign_4 ?_
  obtain ⟨u5, e5, h⟩ := ob_some h
  refine xcallV hk (c_X10_eat e5) bX10_eat kX10_242 dX10_eatSign_5 rfl ⟨_, _, _, _, rfl, rfl⟩ rfl (by first | decide | omega) ⟨by decide, by decide⟩ (Nat.le_of_ble_eq_true rfl) (det ?_)
  refine xzret hk he dX10_eatSign_8 ⟨by decide, by decide⟩ (by first | with_reducible exact nar_b _ | rfl) ?_
  obtain rfl := Option.some.inj h
  exact ⟨rfl, rfl⟩

def f_X10_eatAs  (p : Int32) (q : Int32) (x : XS) : Option (Bool × XS) := og (inB (x.1 0 9) 401) (ob (f_X10_eat p (setI x 5 ((x.1 0 9) : Int32).toNatClampNeg q)) (fun u12 => some (u12.1, u12.2)))

set_option maxHeartbeats 4000000 in
set_option maxRecDepth 100000 in
theorem c_X10_eatAs {g : Gx} {a : Nat → Nat} {x : XS}   {p : Int32} {q : Int32} {u : Bool × XS}  (h : f_X10_eatAs  p q x = some u) : Mx g yX10_eatAs cX10_eatAs 3 (some .boolean) 3 0 0 LM2 a x [.ref (a 0), .int p, .int q] (pr (some (.int (b2i u.1))) u.2) := by
  refine Mx_of (by decide +kernel) (Nat.le_of_ble_eq_true rfl) ?_
  intro k hk he hg
  subst hg
  rw [f_X10_eatAs] at h
  refine xaload_n hk dX10_eatAs_0 rfl ?_
  refine xgetR (ci := 10) (f := 7) hk dX10_eatAs_1 ⟨rfl, by decide, _, rfl, rfl⟩ kX10_26 ?_
  refine xaload_n hk dX10_eatAs_4 rfl ?_
  refine xgetI (ci := 10) (f := 9) hk dX10_eatAs_5 ⟨rfl, by decide, _, rfl, rfl⟩ kX10_236 ?_
  refine xiload_n hk dX10_eatAs_8 rfl ?_
  obtain ⟨hi9, h⟩ := og_some h
  refine xiast hk dX10_eatAs_9 rfl (inB_v hi9) ?_
  refine xaload_n hk dX10_eatAs_10 rfl ?_
  refine xiload_n hk dX10_eatAs_11 rfl ?_
  obtain ⟨u12, e12, h⟩ := ob_some h
  refine xcallV hk (c_X10_eat e12) bX10_eat kX10_242 dX10_eatAs_12 rfl ⟨_, _, _, _, rfl, rfl⟩ rfl (by first | decide | omega) ⟨by decide, by decide⟩ (Nat.le_of_ble_eq_true rfl) (det ?_)
  refine xzret hk he dX10_eatAs_15 ⟨by decide, by decide⟩ (by first | with_reducible exact nar_b _ | rfl) ?_
  obtain rfl := Option.some.inj h
  exact ⟨rfl, rfl⟩

def f_X10_put  (p : Int32) (x : XS) : Option XS := og (inB (x.1 21 12) 800) (some (setI (setI x 29 ((x.1 21 12) : Int32).toNatClampNeg p) 21 12 (((setI x 29 ((x.1 21 12) : Int32).toNatClampNeg p).1 21 12) + 1)))

set_option maxHeartbeats 4000000 in
set_option maxRecDepth 100000 in
theorem c_X10_put {g : Gx} {a : Nat → Nat} {x : XS}   {p : Int32} {u : XS}  (h : f_X10_put  p x = some u) : Mx g yX10_put cX10_put 2 none 1 0 0 LM2 a x [.ref (a 0), .int p] (pr none u) := by
  refine Mx_of (by decide +kernel) (Nat.le_of_ble_eq_true rfl) ?_
  intro k hk he hg
  subst hg
  rw [f_X10_put] at h
  refine xaload_n hk dX10_put_0 rfl ?_
  refine xgetR (ci := 10) (f := 12) hk dX10_put_1 ⟨rfl, by decide, _, rfl, rfl⟩ kX10_39 ?_
  refine xgetNR (ci := 9) (f := 11) hk dX10_put_4 ⟨rfl, by decide, _, rfl, rfl⟩ kX10_166 ?_
  refine xaload_n hk dX10_put_7 rfl ?_
  refine xgetR (ci := 10) (f := 12) hk dX10_put_8 ⟨rfl, by decide, _, rfl, rfl⟩ kX10_39 ?_
  refine xgetNI (ci := 9) (f := 12) hk dX10_put_11 ⟨rfl, by decide, _, rfl, rfl⟩ kX10_245 ?_
  refine xiload_n hk dX10_put_14 rfl ?_
  obtain ⟨hi15, h⟩ := og_some h
  refine xiast hk dX10_put_15 rfl (inB_v hi15) ?_
  refine xaload_n hk dX10_put_16 rfl ?_
  refine xgetR (ci := 10) (f := 12) hk dX10_put_17 ⟨rfl, by decide, _, rfl, rfl⟩ kX10_39 ?_
  refine xdup hk dX10_put_20 rfl ?_
  refine xgetNI (ci := 9) (f := 12) hk dX10_put_21 ⟨rfl, by decide, _, rfl, rfl⟩ kX10_245 ?_
  refine xiconst (v := 1) hk dX10_put_24 (by decide) ?_
  refine xiadd hk dX10_put_25 ?_
  refine xputIN (ci := 9) (f := 12) hk dX10_put_26 ⟨rfl, by decide, _, rfl, rfl⟩ kX10_245 ⟨rfl, by decide +kernel⟩ ?_
  refine xvret hk he dX10_put_29 ⟨by decide, by decide⟩ ?_
  obtain rfl := Option.some.inj h
  exact ⟨rfl, rfl⟩

def f_X10_isFamily   (x : XS) : Option (Bool × XS) := ob (f_X10_eatAs 40 1 (setI x 0 9 ((x.1 0 9) + 1))) (fun u14 => some (u14.1, u14.2))

set_option maxHeartbeats 4000000 in
set_option maxRecDepth 100000 in
theorem c_X10_isFamily {g : Gx} {a : Nat → Nat} {x : XS}    {u : Bool × XS}  (h : f_X10_isFamily   x = some u) : Mx g yX10_isFamily cX10_isFamily 1 (some .boolean) 4 0 0 LM2 a x [.ref (a 0)] (pr (some (.int (b2i u.1))) u.2) := by
  refine Mx_of (by decide +kernel) (Nat.le_of_ble_eq_true rfl) ?_
  intro k hk he hg
  subst hg
  rw [f_X10_isFamily] at h
  refine xaload_n hk dX10_isFamily_0 rfl ?_
  refine xdup hk dX10_isFamily_1 rfl ?_
  refine xgetI (ci := 10) (f := 9) hk dX10_isFamily_2 ⟨rfl, by decide, _, rfl, rfl⟩ kX10_236 ?_
  refine xiconst (v := 1) hk dX10_isFamily_5 (by decide) ?_
  refine xiadd hk dX10_isFamily_6 ?_
  refine xputI (ci := 10) (f := 9) hk dX10_isFamily_7 ⟨rfl, by decide, _, rfl, rfl⟩ kX10_236 ⟨rfl, by decide +kernel⟩ ?_
  refine xaload_n hk dX10_isFamily_10 rfl ?_
  refine xbipush (v := 40) hk dX10_isFamily_11 (by decide) ?_
  refine xiconst (v := 1) hk dX10_isFamily_13 (by decide) ?_
  obtain ⟨u14, e14, h⟩ := ob_some h
  refine xcallV hk (c_X10_eatAs e14) bX10_eatAs kX10_260 dX10_isFamily_14 rfl ⟨_, _, _, _, rfl, rfl⟩ rfl (by first | decide | omega) ⟨by decide, by decide⟩ (Nat.le_of_ble_eq_true rfl) (det ?_)
  refine xzret hk he dX10_isFamily_17 ⟨by decide, by decide⟩ (by first | with_reducible exact nar_b _ | rfl) ?_
  obtain rfl := Option.some.inj h
  exact ⟨rfl, rfl⟩

def f_X10_isClaimTold  (p : Int32) (x : XS) : Option (Bool × XS) := ob (f_X10_eatAs 40 p x) (fun u4 => (if (b2i u4.1) = 0 then some (false, u4.2) else ob (f_X10_eat 10 u4.2) (fun u13 => (if (b2i u13.1) = 0 then ob (f_X10_eat 11 u13.2) (fun u22 => (if (b2i u22.1) = 0 then some (false, u22.2) else some (true, u22.2))) else some (true, u13.2)))))

set_option maxHeartbeats 4000000 in
set_option maxRecDepth 100000 in
theorem c_X10_isClaimTold {g : Gx} {a : Nat → Nat} {x : XS}   {p : Int32} {u : Bool × XS}  (h : f_X10_isClaimTold  p x = some u) : Mx g yX10_isClaimTold cX10_isClaimTold 2 (some .boolean) 4 0 0 LM2 a x [.ref (a 0), .int p] (pr (some (.int (b2i u.1))) u.2) := by
  refine Mx_of (by decide +kernel) (Nat.le_of_ble_eq_true rfl) ?_
  intro k hk he hg
  subst hg
  rw [f_X10_isClaimTold] at h
  refine xaload_n hk dX10_isClaimTold_0 rfl ?_
  refine xbipush (v := 40) hk dX10_isClaimTold_1 (by decide) ?_
  refine xiload_n hk dX10_isClaimTold_3 rfl ?_
  obtain ⟨u4, e4, h⟩ := ob_some h
  refine xcallV hk (c_X10_eatAs e4) bX10_eatAs kX10_260 dX10_isClaimTold_4 rfl ⟨_, _, _, _, rfl, rfl⟩ rfl (by first | decide | omega) ⟨by decide, by decide⟩ (Nat.le_of_ble_eq_true rfl) (det ?_)
  refine xif_eq hk 32 dX10_isClaimTold_7 (by decide) (fun h7 => ?_) (fun h7 => ?_)
  · rw [if_pos h7] at h
    refine xiconst (v := 0) hk dX10_isClaimTold_32 (by decide) ?_
    refine xzret hk he dX10_isClaimTold_33 ⟨by decide, by decide⟩ (by first | with_reducible exact nar_b _ | rfl) ?_
    obtain rfl := Option.some.inj h
    exact ⟨rfl, rfl⟩
  · rw [if_neg h7] at h
    refine xaload_n hk dX10_isClaimTold_10 rfl ?_
    refine xbipush (v := 10) hk dX10_isClaimTold_11 (by decide) ?_
    obtain ⟨u13, e13, h⟩ := ob_some h
    refine xcallV hk (c_X10_eat e13) bX10_eat kX10_242 dX10_isClaimTold_13 rfl ⟨_, _, _, _, rfl, rfl⟩ rfl (by first | decide | omega) ⟨by decide, by decide⟩ (Nat.le_of_ble_eq_true rfl) (det ?_)
    refine xif_ne hk 28 dX10_isClaimTold_16 (by decide) (fun h16 => ?_) (fun h16 => ?_)
    · rw [if_neg h16] at h
      refine xiconst (v := 1) hk dX10_isClaimTold_28 (by decide) ?_
      refine xgoto hk 33 dX10_isClaimTold_29 (by decide) ?_
      refine xzret hk he dX10_isClaimTold_33 ⟨by decide, by decide⟩ (by first | with_reducible exact nar_b _ | rfl) ?_
      obtain rfl := Option.some.inj h
      exact ⟨rfl, rfl⟩
    · rw [if_pos h16] at h
      refine xaload_n hk dX10_isClaimTold_19 rfl ?_
      refine xbipush (v := 11) hk dX10_isClaimTold_20 (by decide) ?_
      obtain ⟨u22, e22, h⟩ := ob_some h
      refine xcallV hk (c_X10_eat e22) bX10_eat kX10_242 dX10_isClaimTold_22 rfl ⟨_, _, _, _, rfl, rfl⟩ rfl (by first | decide | omega) ⟨by decide, by decide⟩ (Nat.le_of_ble_eq_true rfl) (det ?_)
      refine xif_eq hk 32 dX10_isClaimTold_25 (by decide) (fun h25 => ?_) (fun h25 => ?_)
      · rw [if_pos h25] at h
        refine xiconst (v := 0) hk dX10_isClaimTold_32 (by decide) ?_
        refine xzret hk he dX10_isClaimTold_33 ⟨by decide, by decide⟩ (by first | with_reducible exact nar_b _ | rfl) ?_
        obtain rfl := Option.some.inj h
        exact ⟨rfl, rfl⟩
      · rw [if_neg h25] at h
        refine xiconst (v := 1) hk dX10_isClaimTold_28 (by decide) ?_
        refine xgoto hk 33 dX10_isClaimTold_29 (by decide) ?_
        refine xzret hk he dX10_isClaimTold_33 ⟨by decide, by decide⟩ (by first | with_reducible exact nar_b _ | rfl) ?_
        obtain rfl := Option.some.inj h
        exact ⟨rfl, rfl⟩

def f_X10_isStatementLine   (x : XS) : Option (Bool × XS) := og (inB (x.1 0 9) 401) ((if (x.1 2 ((x.1 0 9) : Int32).toNatClampNeg) = 1 then ob (f_X10_eatAs 40 2 (setI x 0 9 ((x.1 0 9) + 1))) (fun u48 => (if (b2i u48.1) = 0 then some (false, u48.2) else (if (x.1 2 ((x.1 0 9) : Int32).toNatClampNeg) = 1 then ob (f_X10_eat 2 u48.2) (fun u63 => (if (b2i u63.1) = 0 then some (false, u63.2) else (if (x.1 2 ((x.1 0 9) : Int32).toNatClampNeg) = 4 then ob (f_X10_eat 5 u63.2) (fun u76 => (if (b2i u76.1) = 0 then some (false, u76.2) else ob (f_X10_isClaimTold 3 u76.2) (fun u84 => (if (b2i u84.1) = 0 then some (false, u84.2) else (if (x.1 2 ((x.1 0 9) : Int32).toNatClampNeg) = 9 then some (true, u84.2) else (if (x.1 2 ((x.1 0 9) : Int32).toNatClampNeg) = 1 then ob (f_X10_eat 3 u84.2) (fun u120 => (if (b2i u120.1) = 0 then some (false, u120.2) else ob (f_X10_isClaimTold 4 u120.2) (fun u128 => (if (b2i u128.1) = 0 then some (false, u128.2) else some (true, u128.2))))) else (if (x.1 2 ((x.1 0 9) : Int32).toNatClampNeg) = 4 then ob (f_X10_eat 6 u84.2) (fun u120 => (if (b2i u120.1) = 0 then some (false, u120.2) else ob (f_X10_isClaimTold 4 u120.2) (fun u128 => (if (b2i u128.1) = 0 then some (false, u128.2) else some (true, u128.2))))) else ob (f_X10_eat 8 u84.2) (fun u120 => (if (b2i u120.1) = 0 then some (false, u120.2) else ob (f_X10_isClaimTold 4 u120.2) (fun u128 => (if (b2i u128.1) = 0 then some (false, u128.2) else some (true, u128.2)))))))))))) else ob (f_X10_isClaimTold 3 u63.2) (fun u84 => (if (b2i u84.1) = 0 then some (false, u84.2) else (if (x.1 2 ((x.1 0 9) : Int32).toNatClampNeg) = 9 then some (true, u84.2) else (if (x.1 2 ((x.1 0 9) : Int32).toNatClampNeg) = 1 then ob (f_X10_eat 3 u84.2) (fun u120 => (if (b2i u120.1) = 0 then some (false, u120.2) else ob (f_X10_isClaimTold 4 u120.2) (fun u128 => (if (b2i u128.1) = 0 then some (false, u128.2) else some (true, u128.2))))) else (if (x.1 2 ((x.1 0 9) : Int32).toNatClampNeg) = 4 then ob (f_X10_eat 6 u84.2) (fun u120 => (if (b2i u120.1) = 0 then some (false, u120.2) else ob (f_X10_isClaimTold 4 u120.2) (fun u128 => (if (b2i u128.1) = 0 then some (false, u128.2) else some (true, u128.2))))) else ob (f_X10_eat 8 u84.2) (fun u120 => (if (b2i u120.1) = 0 then some (false, u120.2) else ob (f_X10_isClaimTold 4 u120.2) (fun u128 => (if (b2i u128.1) = 0 then some (false, u128.2) else some (true, u128.2))))))))))))) else (if (x.1 2 ((x.1 0 9) : Int32).toNatClampNeg) = 4 then ob (f_X10_eat 5 u48.2) (fun u76 => (if (b2i u76.1) = 0 then some (false, u76.2) else ob (f_X10_isClaimTold 3 u76.2) (fun u84 => (if (b2i u84.1) = 0 then some (false, u84.2) else (if (x.1 2 ((x.1 0 9) : Int32).toNatClampNeg) = 9 then some (true, u84.2) else (if (x.1 2 ((x.1 0 9) : Int32).toNatClampNeg) = 1 then ob (f_X10_eat 3 u84.2) (fun u120 => (if (b2i u120.1) = 0 then some (false, u120.2) else ob (f_X10_isClaimTold 4 u120.2) (fun u128 => (if (b2i u128.1) = 0 then some (false, u128.2) else some (true, u128.2))))) else (if (x.1 2 ((x.1 0 9) : Int32).toNatClampNeg) = 4 then ob (f_X10_eat 6 u84.2) (fun u120 => (if (b2i u120.1) = 0 then some (false, u120.2) else ob (f_X10_isClaimTold 4 u120.2) (fun u128 => (if (b2i u128.1) = 0 then some (false, u128.2) else some (true, u128.2))))) else ob (f_X10_eat 8 u84.2) (fun u120 => (if (b2i u120.1) = 0 then some (false, u120.2) else ob (f_X10_isClaimTold 4 u120.2) (fun u128 => (if (b2i u128.1) = 0 then some (false, u128.2) else some (true, u128.2)))))))))))) else ob (f_X10_isClaimTold 3 u48.2) (fun u84 => (if (b2i u84.1) = 0 then some (false, u84.2) else (if (x.1 2 ((x.1 0 9) : Int32).toNatClampNeg) = 9 then some (true, u84.2) else (if (x.1 2 ((x.1 0 9) : Int32).toNatClampNeg) = 1 then ob (f_X10_eat 3 u84.2) (fun u120 => (if (b2i u120.1) = 0 then some (false, u120.2) else ob (f_X10_isClaimTold 4 u120.2) (fun u128 => (if (b2i u128.1) = 0 then some (false, u128.2) else some (true, u128.2))))) else (if (x.1 2 ((x.1 0 9) : Int32).toNatClampNeg) = 4 then ob (f_X10_eat 6 u84.2) (fun u120 => (if (b2i u120.1) = 0 then some (false, u120.2) else ob (f_X10_isClaimTold 4 u120.2) (fun u128 => (if (b2i u128.1) = 0 then some (false, u128.2) else some (true, u128.2))))) else ob (f_X10_eat 8 u84.2) (fun u120 => (if (b2i u120.1) = 0 then some (false, u120.2) else ob (f_X10_isClaimTold 4 u120.2) (fun u128 => (if (b2i u128.1) = 0 then some (false, u128.2) else some (true, u128.2)))))))))))))) else (if (x.1 2 ((x.1 0 9) : Int32).toNatClampNeg) = 4 then ob (f_X10_eatAs 40 2 (setI x 0 9 ((x.1 0 9) + 1))) (fun u48 => (if (b2i u48.1) = 0 then some (false, u48.2) else (if (x.1 2 ((x.1 0 9) : Int32).toNatClampNeg) = 1 then ob (f_X10_eat 2 u48.2) (fun u63 => (if (b2i u63.1) = 0 then some (false, u63.2) else (if (x.1 2 ((x.1 0 9) : Int32).toNatClampNeg) = 4 then ob (f_X10_eat 5 u63.2) (fun u76 => (if (b2i u76.1) = 0 then some (false, u76.2) else ob (f_X10_isClaimTold 3 u76.2) (fun u84 => (if (b2i u84.1) = 0 then some (false, u84.2) else (if (x.1 2 ((x.1 0 9) : Int32).toNatClampNeg) = 9 then some (true, u84.2) else (if (x.1 2 ((x.1 0 9) : Int32).toNatClampNeg) = 1 then ob (f_X10_eat 3 u84.2) (fun u120 => (if (b2i u120.1) = 0 then some (false, u120.2) else ob (f_X10_isClaimTold 4 u120.2) (fun u128 => (if (b2i u128.1) = 0 then some (false, u128.2) else some (true, u128.2))))) else (if (x.1 2 ((x.1 0 9) : Int32).toNatClampNeg) = 4 then ob (f_X10_eat 6 u84.2) (fun u120 => (if (b2i u120.1) = 0 then some (false, u120.2) else ob (f_X10_isClaimTold 4 u120.2) (fun u128 => (if (b2i u128.1) = 0 then some (false, u128.2) else some (true, u128.2))))) else ob (f_X10_eat 8 u84.2) (fun u120 => (if (b2i u120.1) = 0 then some (false, u120.2) else ob (f_X10_isClaimTold 4 u120.2) (fun u128 => (if (b2i u128.1) = 0 then some (false, u128.2) else some (true, u128.2)))))))))))) else ob (f_X10_isClaimTold 3 u63.2) (fun u84 => (if (b2i u84.1) = 0 then some (false, u84.2) else (if (x.1 2 ((x.1 0 9) : Int32).toNatClampNeg) = 9 then some (true, u84.2) else (if (x.1 2 ((x.1 0 9) : Int32).toNatClampNeg) = 1 then ob (f_X10_eat 3 u84.2) (fun u120 => (if (b2i u120.1) = 0 then some (false, u120.2) else ob (f_X10_isClaimTold 4 u120.2) (fun u128 => (if (b2i u128.1) = 0 then some (false, u128.2) else some (true, u128.2))))) else (if (x.1 2 ((x.1 0 9) : Int32).toNatClampNeg) = 4 then ob (f_X10_eat 6 u84.2) (fun u120 => (if (b2i u120.1) = 0 then some (false, u120.2) else ob (f_X10_isClaimTold 4 u120.2) (fun u128 => (if (b2i u128.1) = 0 then some (false, u128.2) else some (true, u128.2))))) else ob (f_X10_eat 8 u84.2) (fun u120 => (if (b2i u120.1) = 0 then some (false, u120.2) else ob (f_X10_isClaimTold 4 u120.2) (fun u128 => (if (b2i u128.1) = 0 then some (false, u128.2) else some (true, u128.2))))))))))))) else (if (x.1 2 ((x.1 0 9) : Int32).toNatClampNeg) = 4 then ob (f_X10_eat 5 u48.2) (fun u76 => (if (b2i u76.1) = 0 then some (false, u76.2) else ob (f_X10_isClaimTold 3 u76.2) (fun u84 => (if (b2i u84.1) = 0 then some (false, u84.2) else (if (x.1 2 ((x.1 0 9) : Int32).toNatClampNeg) = 9 then some (true, u84.2) else (if (x.1 2 ((x.1 0 9) : Int32).toNatClampNeg) = 1 then ob (f_X10_eat 3 u84.2) (fun u120 => (if (b2i u120.1) = 0 then some (false, u120.2) else ob (f_X10_isClaimTold 4 u120.2) (fun u128 => (if (b2i u128.1) = 0 then some (false, u128.2) else some (true, u128.2))))) else (if (x.1 2 ((x.1 0 9) : Int32).toNatClampNeg) = 4 then ob (f_X10_eat 6 u84.2) (fun u120 => (if (b2i u120.1) = 0 then some (false, u120.2) else ob (f_X10_isClaimTold 4 u120.2) (fun u128 => (if (b2i u128.1) = 0 then some (false, u128.2) else some (true, u128.2))))) else ob (f_X10_eat 8 u84.2) (fun u120 => (if (b2i u120.1) = 0 then some (false, u120.2) else ob (f_X10_isClaimTold 4 u120.2) (fun u128 => (if (b2i u128.1) = 0 then some (false, u128.2) else some (true, u128.2)))))))))))) else ob (f_X10_isClaimTold 3 u48.2) (fun u84 => (if (b2i u84.1) = 0 then some (false, u84.2) else (if (x.1 2 ((x.1 0 9) : Int32).toNatClampNeg) = 9 then some (true, u84.2) else (if (x.1 2 ((x.1 0 9) : Int32).toNatClampNeg) = 1 then ob (f_X10_eat 3 u84.2) (fun u120 => (if (b2i u120.1) = 0 then some (false, u120.2) else ob (f_X10_isClaimTold 4 u120.2) (fun u128 => (if (b2i u128.1) = 0 then some (false, u128.2) else some (true, u128.2))))) else (if (x.1 2 ((x.1 0 9) : Int32).toNatClampNeg) = 4 then ob (f_X10_eat 6 u84.2) (fun u120 => (if (b2i u120.1) = 0 then some (false, u120.2) else ob (f_X10_isClaimTold 4 u120.2) (fun u128 => (if (b2i u128.1) = 0 then some (false, u128.2) else some (true, u128.2))))) else ob (f_X10_eat 8 u84.2) (fun u120 => (if (b2i u120.1) = 0 then some (false, u120.2) else ob (f_X10_isClaimTold 4 u120.2) (fun u128 => (if (b2i u128.1) = 0 then some (false, u128.2) else some (true, u128.2)))))))))))))) else (if (x.1 2 ((x.1 0 9) : Int32).toNatClampNeg) = 7 then ob (f_X10_eatAs 40 2 (setI x 0 9 ((x.1 0 9) + 1))) (fun u48 => (if (b2i u48.1) = 0 then some (false, u48.2) else (if (x.1 2 ((x.1 0 9) : Int32).toNatClampNeg) = 1 then ob (f_X10_eat 2 u48.2) (fun u63 => (if (b2i u63.1) = 0 then some (false, u63.2) else (if (x.1 2 ((x.1 0 9) : Int32).toNatClampNeg) = 4 then ob (f_X10_eat 5 u63.2) (fun u76 => (if (b2i u76.1) = 0 then some (false, u76.2) else ob (f_X10_isClaimTold 3 u76.2) (fun u84 => (if (b2i u84.1) = 0 then some (false, u84.2) else (if (x.1 2 ((x.1 0 9) : Int32).toNatClampNeg) = 9 then some (true, u84.2) else (if (x.1 2 ((x.1 0 9) : Int32).toNatClampNeg) = 1 then ob (f_X10_eat 3 u84.2) (fun u120 => (if (b2i u120.1) = 0 then some (false, u120.2) else ob (f_X10_isClaimTold 4 u120.2) (fun u128 => (if (b2i u128.1) = 0 then some (false, u128.2) else some (true, u128.2))))) else (if (x.1 2 ((x.1 0 9) : Int32).toNatClampNeg) = 4 then ob (f_X10_eat 6 u84.2) (fun u120 => (if (b2i u120.1) = 0 then some (false, u120.2) else ob (f_X10_isClaimTold 4 u120.2) (fun u128 => (if (b2i u128.1) = 0 then some (false, u128.2) else some (true, u128.2))))) else ob (f_X10_eat 8 u84.2) (fun u120 => (if (b2i u120.1) = 0 then some (false, u120.2) else ob (f_X10_isClaimTold 4 u120.2) (fun u128 => (if (b2i u128.1) = 0 then some (false, u128.2) else some (true, u128.2)))))))))))) else ob (f_X10_isClaimTold 3 u63.2) (fun u84 => (if (b2i u84.1) = 0 then some (false, u84.2) else (if (x.1 2 ((x.1 0 9) : Int32).toNatClampNeg) = 9 then some (true, u84.2) else (if (x.1 2 ((x.1 0 9) : Int32).toNatClampNeg) = 1 then ob (f_X10_eat 3 u84.2) (fun u120 => (if (b2i u120.1) = 0 then some (false, u120.2) else ob (f_X10_isClaimTold 4 u120.2) (fun u128 => (if (b2i u128.1) = 0 then some (false, u128.2) else some (true, u128.2))))) else (if (x.1 2 ((x.1 0 9) : Int32).toNatClampNeg) = 4 then ob (f_X10_eat 6 u84.2) (fun u120 => (if (b2i u120.1) = 0 then some (false, u120.2) else ob (f_X10_isClaimTold 4 u120.2) (fun u128 => (if (b2i u128.1) = 0 then some (false, u128.2) else some (true, u128.2))))) else ob (f_X10_eat 8 u84.2) (fun u120 => (if (b2i u120.1) = 0 then some (false, u120.2) else ob (f_X10_isClaimTold 4 u120.2) (fun u128 => (if (b2i u128.1) = 0 then some (false, u128.2) else some (true, u128.2))))))))))))) else (if (x.1 2 ((x.1 0 9) : Int32).toNatClampNeg) = 4 then ob (f_X10_eat 5 u48.2) (fun u76 => (if (b2i u76.1) = 0 then some (false, u76.2) else ob (f_X10_isClaimTold 3 u76.2) (fun u84 => (if (b2i u84.1) = 0 then some (false, u84.2) else (if (x.1 2 ((x.1 0 9) : Int32).toNatClampNeg) = 9 then some (true, u84.2) else (if (x.1 2 ((x.1 0 9) : Int32).toNatClampNeg) = 1 then ob (f_X10_eat 3 u84.2) (fun u120 => (if (b2i u120.1) = 0 then some (false, u120.2) else ob (f_X10_isClaimTold 4 u120.2) (fun u128 => (if (b2i u128.1) = 0 then some (false, u128.2) else some (true, u128.2))))) else (if (x.1 2 ((x.1 0 9) : Int32).toNatClampNeg) = 4 then ob (f_X10_eat 6 u84.2) (fun u120 => (if (b2i u120.1) = 0 then some (false, u120.2) else ob (f_X10_isClaimTold 4 u120.2) (fun u128 => (if (b2i u128.1) = 0 then some (false, u128.2) else some (true, u128.2))))) else ob (f_X10_eat 8 u84.2) (fun u120 => (if (b2i u120.1) = 0 then some (false, u120.2) else ob (f_X10_isClaimTold 4 u120.2) (fun u128 => (if (b2i u128.1) = 0 then some (false, u128.2) else some (true, u128.2)))))))))))) else ob (f_X10_isClaimTold 3 u48.2) (fun u84 => (if (b2i u84.1) = 0 then some (false, u84.2) else (if (x.1 2 ((x.1 0 9) : Int32).toNatClampNeg) = 9 then some (true, u84.2) else (if (x.1 2 ((x.1 0 9) : Int32).toNatClampNeg) = 1 then ob (f_X10_eat 3 u84.2) (fun u120 => (if (b2i u120.1) = 0 then some (false, u120.2) else ob (f_X10_isClaimTold 4 u120.2) (fun u128 => (if (b2i u128.1) = 0 then some (false, u128.2) else some (true, u128.2))))) else (if (x.1 2 ((x.1 0 9) : Int32).toNatClampNeg) = 4 then ob (f_X10_eat 6 u84.2) (fun u120 => (if (b2i u120.1) = 0 then some (false, u120.2) else ob (f_X10_isClaimTold 4 u120.2) (fun u128 => (if (b2i u128.1) = 0 then some (false, u128.2) else some (true, u128.2))))) else ob (f_X10_eat 8 u84.2) (fun u120 => (if (b2i u120.1) = 0 then some (false, u120.2) else ob (f_X10_isClaimTold 4 u120.2) (fun u128 => (if (b2i u128.1) = 0 then some (false, u128.2) else some (true, u128.2)))))))))))))) else (if (x.1 2 ((x.1 0 9) : Int32).toNatClampNeg) = 9 then ob (f_X10_eatAs 40 2 (setI x 0 9 ((x.1 0 9) + 1))) (fun u48 => (if (b2i u48.1) = 0 then some (false, u48.2) else (if (x.1 2 ((x.1 0 9) : Int32).toNatClampNeg) = 1 then ob (f_X10_eat 2 u48.2) (fun u63 => (if (b2i u63.1) = 0 then some (false, u63.2) else (if (x.1 2 ((x.1 0 9) : Int32).toNatClampNeg) = 4 then ob (f_X10_eat 5 u63.2) (fun u76 => (if (b2i u76.1) = 0 then some (false, u76.2) else ob (f_X10_isClaimTold 3 u76.2) (fun u84 => (if (b2i u84.1) = 0 then some (false, u84.2) else (if (x.1 2 ((x.1 0 9) : Int32).toNatClampNeg) = 9 then some (true, u84.2) else (if (x.1 2 ((x.1 0 9) : Int32).toNatClampNeg) = 1 then ob (f_X10_eat 3 u84.2) (fun u120 => (if (b2i u120.1) = 0 then some (false, u120.2) else ob (f_X10_isClaimTold 4 u120.2) (fun u128 => (if (b2i u128.1) = 0 then some (false, u128.2) else some (true, u128.2))))) else (if (x.1 2 ((x.1 0 9) : Int32).toNatClampNeg) = 4 then ob (f_X10_eat 6 u84.2) (fun u120 => (if (b2i u120.1) = 0 then some (false, u120.2) else ob (f_X10_isClaimTold 4 u120.2) (fun u128 => (if (b2i u128.1) = 0 then some (false, u128.2) else some (true, u128.2))))) else ob (f_X10_eat 8 u84.2) (fun u120 => (if (b2i u120.1) = 0 then some (false, u120.2) else ob (f_X10_isClaimTold 4 u120.2) (fun u128 => (if (b2i u128.1) = 0 then some (false, u128.2) else some (true, u128.2)))))))))))) else ob (f_X10_isClaimTold 3 u63.2) (fun u84 => (if (b2i u84.1) = 0 then some (false, u84.2) else (if (x.1 2 ((x.1 0 9) : Int32).toNatClampNeg) = 9 then some (true, u84.2) else (if (x.1 2 ((x.1 0 9) : Int32).toNatClampNeg) = 1 then ob (f_X10_eat 3 u84.2) (fun u120 => (if (b2i u120.1) = 0 then some (false, u120.2) else ob (f_X10_isClaimTold 4 u120.2) (fun u128 => (if (b2i u128.1) = 0 then some (false, u128.2) else some (true, u128.2))))) else (if (x.1 2 ((x.1 0 9) : Int32).toNatClampNeg) = 4 then ob (f_X10_eat 6 u84.2) (fun u120 => (if (b2i u120.1) = 0 then some (false, u120.2) else ob (f_X10_isClaimTold 4 u120.2) (fun u128 => (if (b2i u128.1) = 0 then some (false, u128.2) else some (true, u128.2))))) else ob (f_X10_eat 8 u84.2) (fun u120 => (if (b2i u120.1) = 0 then some (false, u120.2) else ob (f_X10_isClaimTold 4 u120.2) (fun u128 => (if (b2i u128.1) = 0 then some (false, u128.2) else some (true, u128.2))))))))))))) else (if (x.1 2 ((x.1 0 9) : Int32).toNatClampNeg) = 4 then ob (f_X10_eat 5 u48.2) (fun u76 => (if (b2i u76.1) = 0 then some (false, u76.2) else ob (f_X10_isClaimTold 3 u76.2) (fun u84 => (if (b2i u84.1) = 0 then some (false, u84.2) else (if (x.1 2 ((x.1 0 9) : Int32).toNatClampNeg) = 9 then some (true, u84.2) else (if (x.1 2 ((x.1 0 9) : Int32).toNatClampNeg) = 1 then ob (f_X10_eat 3 u84.2) (fun u120 => (if (b2i u120.1) = 0 then some (false, u120.2) else ob (f_X10_isClaimTold 4 u120.2) (fun u128 => (if (b2i u128.1) = 0 then some (false, u128.2) else some (true, u128.2))))) else (if (x.1 2 ((x.1 0 9) : Int32).toNatClampNeg) = 4 then ob (f_X10_eat 6 u84.2) (fun u120 => (if (b2i u120.1) = 0 then some (false, u120.2) else ob (f_X10_isClaimTold 4 u120.2) (fun u128 => (if (b2i u128.1) = 0 then some (false, u128.2) else some (true, u128.2))))) else ob (f_X10_eat 8 u84.2) (fun u120 => (if (b2i u120.1) = 0 then some (false, u120.2) else ob (f_X10_isClaimTold 4 u120.2) (fun u128 => (if (b2i u128.1) = 0 then some (false, u128.2) else some (true, u128.2)))))))))))) else ob (f_X10_isClaimTold 3 u48.2) (fun u84 => (if (b2i u84.1) = 0 then some (false, u84.2) else (if (x.1 2 ((x.1 0 9) : Int32).toNatClampNeg) = 9 then some (true, u84.2) else (if (x.1 2 ((x.1 0 9) : Int32).toNatClampNeg) = 1 then ob (f_X10_eat 3 u84.2) (fun u120 => (if (b2i u120.1) = 0 then some (false, u120.2) else ob (f_X10_isClaimTold 4 u120.2) (fun u128 => (if (b2i u128.1) = 0 then some (false, u128.2) else some (true, u128.2))))) else (if (x.1 2 ((x.1 0 9) : Int32).toNatClampNeg) = 4 then ob (f_X10_eat 6 u84.2) (fun u120 => (if (b2i u120.1) = 0 then some (false, u120.2) else ob (f_X10_isClaimTold 4 u120.2) (fun u128 => (if (b2i u128.1) = 0 then some (false, u128.2) else some (true, u128.2))))) else ob (f_X10_eat 8 u84.2) (fun u120 => (if (b2i u120.1) = 0 then some (false, u120.2) else ob (f_X10_isClaimTold 4 u120.2) (fun u128 => (if (b2i u128.1) = 0 then some (false, u128.2) else some (true, u128.2)))))))))))))) else some (false, x))))))

set_option maxHeartbeats 4000000 in
set_option maxRecDepth 100000 in
theorem c_X10_isStatementLine {g : Gx} {a : Nat → Nat} {x : XS}    {u : Bool × XS}  (h : f_X10_isStatementLine   x = some u) : Mx g yX10_isStatementLine cX10_isStatementLine 2 (some .boolean) 5 0 0 LM2 a x [.ref (a 0)] (pr (some (.int (b2i u.1))) u.2) := by
  refine Mx_of (by decide +kernel) (Nat.le_of_ble_eq_true rfl) ?_
  intro k hk he hg
  subst hg
  rw [f_X10_isStatementLine] at h
  refine xaload_n hk dX10_isStatementLine_0 rfl ?_
  refine xgetR (ci := 10) (f := 4) hk dX10_isStatementLine_1 ⟨rfl, by decide, _, rfl, rfl⟩ kX10_17 ?_
  refine xaload_n hk dX10_isStatementLine_4 rfl ?_
  refine xgetI (ci := 10) (f := 9) hk dX10_isStatementLine_5 ⟨rfl, by decide, _, rfl, rfl⟩ kX10_236 ?_
  obtain ⟨hi8, h⟩ := og_some h
  refine xiald hk dX10_isStatementLine_8 rfl (inB_v hi8) ?_
  refine xistore_n hk dX10_isStatementLine_9 (by decide) ?_
  refine xiload_n hk dX10_isStatementLine_10 rfl ?_
  refine xiconst (v := 1) hk dX10_isStatementLine_11 (by decide) ?_
  refine xicmp_eq hk 34 dX10_isStatementLine_12 (by decide) (fun h12 => ?_) (fun h12 => ?_)
  · rw [if_pos h12] at h
    refine xaload_n hk dX10_isStatementLine_34 rfl ?_
    refine xdup hk dX10_isStatementLine_35 rfl ?_
    refine xgetI (ci := 10) (f := 9) hk dX10_isStatementLine_36 ⟨rfl, by decide, _, rfl, rfl⟩ kX10_236 ?_
    refine xiconst (v := 1) hk dX10_isStatementLine_39 (by decide) ?_
    refine xiadd hk dX10_isStatementLine_40 ?_
    refine xputI (ci := 10) (f := 9) hk dX10_isStatementLine_41 ⟨rfl, by decide, _, rfl, rfl⟩ kX10_236 ⟨rfl, by decide +kernel⟩ ?_
    refine xaload_n hk dX10_isStatementLine_44 rfl ?_
    refine xbipush (v := 40) hk dX10_isStatementLine_45 (by decide) ?_
    refine xiconst (v := 2) hk dX10_isStatementLine_47 (by decide) ?_
    obtain ⟨u48, e48, h⟩ := ob_some h
    refine xcallV hk (c_X10_eatAs e48) bX10_eatAs kX10_260 dX10_isStatementLine_48 rfl ⟨_, _, _, _, rfl, rfl⟩ rfl (by first | decide | omega) ⟨by decide, by decide⟩ (Nat.le_of_ble_eq_true rfl) (det ?_)
    refine xif_ne hk 56 dX10_isStatementLine_51 (by decide) (fun h51 => ?_) (fun h51 => ?_)
    · rw [if_neg h51] at h
      refine xiload_n hk dX10_isStatementLine_56 rfl ?_
      refine xiconst (v := 1) hk dX10_isStatementLine_57 (by decide) ?_
      refine xicmp_ne hk 69 dX10_isStatementLine_58 (by decide) (fun h58 => ?_) (fun h58 => ?_)
      · rw [if_neg h58] at h
        refine xiload_n hk dX10_isStatementLine_69 rfl ?_
        refine xiconst (v := 4) hk dX10_isStatementLine_70 (by decide) ?_
        refine xicmp_ne hk 82 dX10_isStatementLine_71 (by decide) (fun h71 => ?_) (fun h71 => ?_)
        · rw [if_neg h71] at h
          refine xaload_n hk dX10_isStatementLine_82 rfl ?_
          refine xiconst (v := 3) hk dX10_isStatementLine_83 (by decide) ?_
          obtain ⟨u84, e84, h⟩ := ob_some h
          refine xcallV hk (c_X10_isClaimTold e84) bX10_isClaimTold kX10_263 dX10_isStatementLine_84 rfl ⟨_, _, _, _, rfl, rfl⟩ rfl (by first | decide | omega) ⟨by decide, by decide⟩ (Nat.le_of_ble_eq_true rfl) (det ?_)
          refine xif_ne hk 92 dX10_isStatementLine_87 (by decide) (fun h87 => ?_) (fun h87 => ?_)
          · rw [if_neg h87] at h
            refine xiload_n hk dX10_isStatementLine_92 rfl ?_
            refine xbipush (v := 9) hk dX10_isStatementLine_93 (by decide) ?_
            refine xicmp_eq hk 134 dX10_isStatementLine_95 (by decide) (fun h95 => ?_) (fun h95 => ?_)
            · rw [if_pos h95] at h
              refine xiconst (v := 1) hk dX10_isStatementLine_134 (by decide) ?_
              refine xgoto hk 139 dX10_isStatementLine_135 (by decide) ?_
              refine xzret hk he dX10_isStatementLine_139 ⟨by decide, by decide⟩ (by first | with_reducible exact nar_b _ | rfl) ?_
              obtain rfl := Option.some.inj h
              exact ⟨rfl, rfl⟩
            · rw [if_neg h95] at h
              refine xaload_n hk dX10_isStatementLine_98 rfl ?_
              refine xiload_n hk dX10_isStatementLine_99 rfl ?_
              refine xiconst (v := 1) hk dX10_isStatementLine_100 (by decide) ?_
              refine xicmp_ne hk 108 dX10_isStatementLine_101 (by decide) (fun h101 => ?_) (fun h101 => ?_)
              · rw [if_neg h101] at h
                refine xiload_n hk dX10_isStatementLine_108 rfl ?_
                refine xiconst (v := 4) hk dX10_isStatementLine_109 (by decide) ?_
                refine xicmp_ne hk 118 dX10_isStatementLine_110 (by decide) (fun h110 => ?_) (fun h110 => ?_)
                · rw [if_neg h110] at h
                  refine xbipush (v := 8) hk dX10_isStatementLine_118 (by decide) ?_
                  obtain ⟨u120, e120, h⟩ := ob_some h
                  refine xcallV hk (c_X10_eat e120) bX10_eat kX10_242 dX10_isStatementLine_120 rfl ⟨_, _, _, _, rfl, rfl⟩ rfl (by first | decide | omega) ⟨by decide, by decide⟩ (Nat.le_of_ble_eq_true rfl) (det ?_)
                  refine xif_eq hk 138 dX10_isStatementLine_123 (by decide) (fun h123 => ?_) (fun h123 => ?_)
                  · rw [if_pos h123] at h
                    refine xiconst (v := 0) hk dX10_isStatementLine_138 (by decide) ?_
                    refine xzret hk he dX10_isStatementLine_139 ⟨by decide, by decide⟩ (by first | with_reducible exact nar_b _ | rfl) ?_
                    obtain rfl := Option.some.inj h
                    exact ⟨rfl, rfl⟩
                  · rw [if_neg h123] at h
                    refine xaload_n hk dX10_isStatementLine_126 rfl ?_
                    refine xiconst (v := 4) hk dX10_isStatementLine_127 (by decide) ?_
                    obtain ⟨u128, e128, h⟩ := ob_some h
                    refine xcallV hk (c_X10_isClaimTold e128) bX10_isClaimTold kX10_263 dX10_isStatementLine_128 rfl ⟨_, _, _, _, rfl, rfl⟩ rfl (by first | decide | omega) ⟨by decide, by decide⟩ (Nat.le_of_ble_eq_true rfl) (det ?_)
                    refine xif_eq hk 138 dX10_isStatementLine_131 (by decide) (fun h131 => ?_) (fun h131 => ?_)
                    · rw [if_pos h131] at h
                      refine xiconst (v := 0) hk dX10_isStatementLine_138 (by decide) ?_
                      refine xzret hk he dX10_isStatementLine_139 ⟨by decide, by decide⟩ (by first | with_reducible exact nar_b _ | rfl) ?_
                      obtain rfl := Option.some.inj h
                      exact ⟨rfl, rfl⟩
                    · rw [if_neg h131] at h
                      refine xiconst (v := 1) hk dX10_isStatementLine_134 (by decide) ?_
                      refine xgoto hk 139 dX10_isStatementLine_135 (by decide) ?_
                      refine xzret hk he dX10_isStatementLine_139 ⟨by decide, by decide⟩ (by first | with_reducible exact nar_b _ | rfl) ?_
                      obtain rfl := Option.some.inj h
                      exact ⟨rfl, rfl⟩
                · rw [if_pos h110] at h
                  refine xbipush (v := 6) hk dX10_isStatementLine_113 (by decide) ?_
                  refine xgoto hk 120 dX10_isStatementLine_115 (by decide) ?_
                  obtain ⟨u120, e120, h⟩ := ob_some h
                  refine xcallV hk (c_X10_eat e120) bX10_eat kX10_242 dX10_isStatementLine_120 rfl ⟨_, _, _, _, rfl, rfl⟩ rfl (by first | decide | omega) ⟨by decide, by decide⟩ (Nat.le_of_ble_eq_true rfl) (det ?_)
                  refine xif_eq hk 138 dX10_isStatementLine_123 (by decide) (fun h123 => ?_) (fun h123 => ?_)
                  · rw [if_pos h123] at h
                    refine xiconst (v := 0) hk dX10_isStatementLine_138 (by decide) ?_
                    refine xzret hk he dX10_isStatementLine_139 ⟨by decide, by decide⟩ (by first | with_reducible exact nar_b _ | rfl) ?_
                    obtain rfl := Option.some.inj h
                    exact ⟨rfl, rfl⟩
                  · rw [if_neg h123] at h
                    refine xaload_n hk dX10_isStatementLine_126 rfl ?_
                    refine xiconst (v := 4) hk dX10_isStatementLine_127 (by decide) ?_
                    obtain ⟨u128, e128, h⟩ := ob_some h
                    refine xcallV hk (c_X10_isClaimTold e128) bX10_isClaimTold kX10_263 dX10_isStatementLine_128 rfl ⟨_, _, _, _, rfl, rfl⟩ rfl (by first | decide | omega) ⟨by decide, by decide⟩ (Nat.le_of_ble_eq_true rfl) (det ?_)
                    refine xif_eq hk 138 dX10_isStatementLine_131 (by decide) (fun h131 => ?_) (fun h131 => ?_)
                    · rw [if_pos h131] at h
                      refine xiconst (v := 0) hk dX10_isStatementLine_138 (by decide) ?_
                      refine xzret hk he dX10_isStatementLine_139 ⟨by decide, by decide⟩ (by first | with_reducible exact nar_b _ | rfl) ?_
                      obtain rfl := Option.some.inj h
                      exact ⟨rfl, rfl⟩
                    · rw [if_neg h131] at h
                      refine xiconst (v := 1) hk dX10_isStatementLine_134 (by decide) ?_
                      refine xgoto hk 139 dX10_isStatementLine_135 (by decide) ?_
                      refine xzret hk he dX10_isStatementLine_139 ⟨by decide, by decide⟩ (by first | with_reducible exact nar_b _ | rfl) ?_
                      obtain rfl := Option.some.inj h
                      exact ⟨rfl, rfl⟩
              · rw [if_pos h101] at h
                refine xiconst (v := 3) hk dX10_isStatementLine_104 (by decide) ?_
                refine xgoto hk 120 dX10_isStatementLine_105 (by decide) ?_
                obtain ⟨u120, e120, h⟩ := ob_some h
                refine xcallV hk (c_X10_eat e120) bX10_eat kX10_242 dX10_isStatementLine_120 rfl ⟨_, _, _, _, rfl, rfl⟩ rfl (by first | decide | omega) ⟨by decide, by decide⟩ (Nat.le_of_ble_eq_true rfl) (det ?_)
                refine xif_eq hk 138 dX10_isStatementLine_123 (by decide) (fun h123 => ?_) (fun h123 => ?_)
                · rw [if_pos h123] at h
                  refine xiconst (v := 0) hk dX10_isStatementLine_138 (by decide) ?_
                  refine xzret hk he dX10_isStatementLine_139 ⟨by decide, by decide⟩ (by first | with_reducible exact nar_b _ | rfl) ?_
                  obtain rfl := Option.some.inj h
                  exact ⟨rfl, rfl⟩
                · rw [if_neg h123] at h
                  refine xaload_n hk dX10_isStatementLine_126 rfl ?_
                  refine xiconst (v := 4) hk dX10_isStatementLine_127 (by decide) ?_
                  obtain ⟨u128, e128, h⟩ := ob_some h
                  refine xcallV hk (c_X10_isClaimTold e128) bX10_isClaimTold kX10_263 dX10_isStatementLine_128 rfl ⟨_, _, _, _, rfl, rfl⟩ rfl (by first | decide | omega) ⟨by decide, by decide⟩ (Nat.le_of_ble_eq_true rfl) (det ?_)
                  refine xif_eq hk 138 dX10_isStatementLine_131 (by decide) (fun h131 => ?_) (fun h131 => ?_)
                  · rw [if_pos h131] at h
                    refine xiconst (v := 0) hk dX10_isStatementLine_138 (by decide) ?_
                    refine xzret hk he dX10_isStatementLine_139 ⟨by decide, by decide⟩ (by first | with_reducible exact nar_b _ | rfl) ?_
                    obtain rfl := Option.some.inj h
                    exact ⟨rfl, rfl⟩
                  · rw [if_neg h131] at h
                    refine xiconst (v := 1) hk dX10_isStatementLine_134 (by decide) ?_
                    refine xgoto hk 139 dX10_isStatementLine_135 (by decide) ?_
                    refine xzret hk he dX10_isStatementLine_139 ⟨by decide, by decide⟩ (by first | with_reducible exact nar_b _ | rfl) ?_
                    obtain rfl := Option.some.inj h
                    exact ⟨rfl, rfl⟩
          · rw [if_pos h87] at h
            refine xiconst (v := 0) hk dX10_isStatementLine_90 (by decide) ?_
            refine xzret hk he dX10_isStatementLine_91 ⟨by decide, by decide⟩ (by first | with_reducible exact nar_b _ | rfl) ?_
            obtain rfl := Option.some.inj h
            exact ⟨rfl, rfl⟩
        · rw [if_pos h71] at h
          refine xaload_n hk dX10_isStatementLine_74 rfl ?_
          refine xiconst (v := 5) hk dX10_isStatementLine_75 (by decide) ?_
          obtain ⟨u76, e76, h⟩ := ob_some h
          refine xcallV hk (c_X10_eat e76) bX10_eat kX10_242 dX10_isStatementLine_76 rfl ⟨_, _, _, _, rfl, rfl⟩ rfl (by first | decide | omega) ⟨by decide, by decide⟩ (Nat.le_of_ble_eq_true rfl) (det ?_)
          refine xif_eq hk 90 dX10_isStatementLine_79 (by decide) (fun h79 => ?_) (fun h79 => ?_)
          · rw [if_pos h79] at h
            refine xiconst (v := 0) hk dX10_isStatementLine_90 (by decide) ?_
            refine xzret hk he dX10_isStatementLine_91 ⟨by decide, by decide⟩ (by first | with_reducible exact nar_b _ | rfl) ?_
            obtain rfl := Option.some.inj h
            exact ⟨rfl, rfl⟩
          · rw [if_neg h79] at h
            refine xaload_n hk dX10_isStatementLine_82 rfl ?_
            refine xiconst (v := 3) hk dX10_isStatementLine_83 (by decide) ?_
            obtain ⟨u84, e84, h⟩ := ob_some h
            refine xcallV hk (c_X10_isClaimTold e84) bX10_isClaimTold kX10_263 dX10_isStatementLine_84 rfl ⟨_, _, _, _, rfl, rfl⟩ rfl (by first | decide | omega) ⟨by decide, by decide⟩ (Nat.le_of_ble_eq_true rfl) (det ?_)
            refine xif_ne hk 92 dX10_isStatementLine_87 (by decide) (fun h87 => ?_) (fun h87 => ?_)
            · rw [if_neg h87] at h
              refine xiload_n hk dX10_isStatementLine_92 rfl ?_
              refine xbipush (v := 9) hk dX10_isStatementLine_93 (by decide) ?_
              refine xicmp_eq hk 134 dX10_isStatementLine_95 (by decide) (fun h95 => ?_) (fun h95 => ?_)
              · rw [if_pos h95] at h
                refine xiconst (v := 1) hk dX10_isStatementLine_134 (by decide) ?_
                refine xgoto hk 139 dX10_isStatementLine_135 (by decide) ?_
                refine xzret hk he dX10_isStatementLine_139 ⟨by decide, by decide⟩ (by first | with_reducible exact nar_b _ | rfl) ?_
                obtain rfl := Option.some.inj h
                exact ⟨rfl, rfl⟩
              · rw [if_neg h95] at h
                refine xaload_n hk dX10_isStatementLine_98 rfl ?_
                refine xiload_n hk dX10_isStatementLine_99 rfl ?_
                refine xiconst (v := 1) hk dX10_isStatementLine_100 (by decide) ?_
                refine xicmp_ne hk 108 dX10_isStatementLine_101 (by decide) (fun h101 => ?_) (fun h101 => ?_)
                · rw [if_neg h101] at h
                  refine xiload_n hk dX10_isStatementLine_108 rfl ?_
                  refine xiconst (v := 4) hk dX10_isStatementLine_109 (by decide) ?_
                  refine xicmp_ne hk 118 dX10_isStatementLine_110 (by decide) (fun h110 => ?_) (fun h110 => ?_)
                  · rw [if_neg h110] at h
                    refine xbipush (v := 8) hk dX10_isStatementLine_118 (by decide) ?_
                    obtain ⟨u120, e120, h⟩ := ob_some h
                    refine xcallV hk (c_X10_eat e120) bX10_eat kX10_242 dX10_isStatementLine_120 rfl ⟨_, _, _, _, rfl, rfl⟩ rfl (by first | decide | omega) ⟨by decide, by decide⟩ (Nat.le_of_ble_eq_true rfl) (det ?_)
                    refine xif_eq hk 138 dX10_isStatementLine_123 (by decide) (fun h123 => ?_) (fun h123 => ?_)
                    · rw [if_pos h123] at h
                      refine xiconst (v := 0) hk dX10_isStatementLine_138 (by decide) ?_
                      refine xzret hk he dX10_isStatementLine_139 ⟨by decide, by decide⟩ (by first | with_reducible exact nar_b _ | rfl) ?_
                      obtain rfl := Option.some.inj h
                      exact ⟨rfl, rfl⟩
                    · rw [if_neg h123] at h
                      refine xaload_n hk dX10_isStatementLine_126 rfl ?_
                      refine xiconst (v := 4) hk dX10_isStatementLine_127 (by decide) ?_
                      obtain ⟨u128, e128, h⟩ := ob_some h
                      refine xcallV hk (c_X10_isClaimTold e128) bX10_isClaimTold kX10_263 dX10_isStatementLine_128 rfl ⟨_, _, _, _, rfl, rfl⟩ rfl (by first | decide | omega) ⟨by decide, by decide⟩ (Nat.le_of_ble_eq_true rfl) (det ?_)
                      refine xif_eq hk 138 dX10_isStatementLine_131 (by decide) (fun h131 => ?_) (fun h131 => ?_)
                      · rw [if_pos h131] at h
                        refine xiconst (v := 0) hk dX10_isStatementLine_138 (by decide) ?_
                        refine xzret hk he dX10_isStatementLine_139 ⟨by decide, by decide⟩ (by first | with_reducible exact nar_b _ | rfl) ?_
                        obtain rfl := Option.some.inj h
                        exact ⟨rfl, rfl⟩
                      · rw [if_neg h131] at h
                        refine xiconst (v := 1) hk dX10_isStatementLine_134 (by decide) ?_
                        refine xgoto hk 139 dX10_isStatementLine_135 (by decide) ?_
                        refine xzret hk he dX10_isStatementLine_139 ⟨by decide, by decide⟩ (by first | with_reducible exact nar_b _ | rfl) ?_
                        obtain rfl := Option.some.inj h
                        exact ⟨rfl, rfl⟩
                  · rw [if_pos h110] at h
                    refine xbipush (v := 6) hk dX10_isStatementLine_113 (by decide) ?_
                    refine xgoto hk 120 dX10_isStatementLine_115 (by decide) ?_
                    obtain ⟨u120, e120, h⟩ := ob_some h
                    refine xcallV hk (c_X10_eat e120) bX10_eat kX10_242 dX10_isStatementLine_120 rfl ⟨_, _, _, _, rfl, rfl⟩ rfl (by first | decide | omega) ⟨by decide, by decide⟩ (Nat.le_of_ble_eq_true rfl) (det ?_)
                    refine xif_eq hk 138 dX10_isStatementLine_123 (by decide) (fun h123 => ?_) (fun h123 => ?_)
                    · rw [if_pos h123] at h
                      refine xiconst (v := 0) hk dX10_isStatementLine_138 (by decide) ?_
                      refine xzret hk he dX10_isStatementLine_139 ⟨by decide, by decide⟩ (by first | with_reducible exact nar_b _ | rfl) ?_
                      obtain rfl := Option.some.inj h
                      exact ⟨rfl, rfl⟩
                    · rw [if_neg h123] at h
                      refine xaload_n hk dX10_isStatementLine_126 rfl ?_
                      refine xiconst (v := 4) hk dX10_isStatementLine_127 (by decide) ?_
                      obtain ⟨u128, e128, h⟩ := ob_some h
                      refine xcallV hk (c_X10_isClaimTold e128) bX10_isClaimTold kX10_263 dX10_isStatementLine_128 rfl ⟨_, _, _, _, rfl, rfl⟩ rfl (by first | decide | omega) ⟨by decide, by decide⟩ (Nat.le_of_ble_eq_true rfl) (det ?_)
                      refine xif_eq hk 138 dX10_isStatementLine_131 (by decide) (fun h131 => ?_) (fun h131 => ?_)
                      · rw [if_pos h131] at h
                        refine xiconst (v := 0) hk dX10_isStatementLine_138 (by decide) ?_
                        refine xzret hk he dX10_isStatementLine_139 ⟨by decide, by decide⟩ (by first | with_reducible exact nar_b _ | rfl) ?_
                        obtain rfl := Option.some.inj h
                        exact ⟨rfl, rfl⟩
                      · rw [if_neg h131] at h
                        refine xiconst (v := 1) hk dX10_isStatementLine_134 (by decide) ?_
                        refine xgoto hk 139 dX10_isStatementLine_135 (by decide) ?_
                        refine xzret hk he dX10_isStatementLine_139 ⟨by decide, by decide⟩ (by first | with_reducible exact nar_b _ | rfl) ?_
                        obtain rfl := Option.some.inj h
                        exact ⟨rfl, rfl⟩
                · rw [if_pos h101] at h
                  refine xiconst (v := 3) hk dX10_isStatementLine_104 (by decide) ?_
                  refine xgoto hk 120 dX10_isStatementLine_105 (by decide) ?_
                  obtain ⟨u120, e120, h⟩ := ob_some h
                  refine xcallV hk (c_X10_eat e120) bX10_eat kX10_242 dX10_isStatementLine_120 rfl ⟨_, _, _, _, rfl, rfl⟩ rfl (by first | decide | omega) ⟨by decide, by decide⟩ (Nat.le_of_ble_eq_true rfl) (det ?_)
                  refine xif_eq hk 138 dX10_isStatementLine_123 (by decide) (fun h123 => ?_) (fun h123 => ?_)
                  · rw [if_pos h123] at h
                    refine xiconst (v := 0) hk dX10_isStatementLine_138 (by decide) ?_
                    refine xzret hk he dX10_isStatementLine_139 ⟨by decide, by decide⟩ (by first | with_reducible exact nar_b _ | rfl) ?_
                    obtain rfl := Option.some.inj h
                    exact ⟨rfl, rfl⟩
                  · rw [if_neg h123] at h
                    refine xaload_n hk dX10_isStatementLine_126 rfl ?_
                    refine xiconst (v := 4) hk dX10_isStatementLine_127 (by decide) ?_
                    obtain ⟨u128, e128, h⟩ := ob_some h
                    refine xcallV hk (c_X10_isClaimTold e128) bX10_isClaimTold kX10_263 dX10_isStatementLine_128 rfl ⟨_, _, _, _, rfl, rfl⟩ rfl (by first | decide | omega) ⟨by decide, by decide⟩ (Nat.le_of_ble_eq_true rfl) (det ?_)
                    refine xif_eq hk 138 dX10_isStatementLine_131 (by decide) (fun h131 => ?_) (fun h131 => ?_)
                    · rw [if_pos h131] at h
                      refine xiconst (v := 0) hk dX10_isStatementLine_138 (by decide) ?_
                      refine xzret hk he dX10_isStatementLine_139 ⟨by decide, by decide⟩ (by first | with_reducible exact nar_b _ | rfl) ?_
                      obtain rfl := Option.some.inj h
                      exact ⟨rfl, rfl⟩
                    · rw [if_neg h131] at h
                      refine xiconst (v := 1) hk dX10_isStatementLine_134 (by decide) ?_
                      refine xgoto hk 139 dX10_isStatementLine_135 (by decide) ?_
                      refine xzret hk he dX10_isStatementLine_139 ⟨by decide, by decide⟩ (by first | with_reducible exact nar_b _ | rfl) ?_
                      obtain rfl := Option.some.inj h
                      exact ⟨rfl, rfl⟩
            · rw [if_pos h87] at h
              refine xiconst (v := 0) hk dX10_isStatementLine_90 (by decide) ?_
              refine xzret hk he dX10_isStatementLine_91 ⟨by decide, by decide⟩ (by first | with_reducible exact nar_b _ | rfl) ?_
              obtain rfl := Option.some.inj h
              exact ⟨rfl, rfl⟩
      · rw [if_pos h58] at h
        refine xaload_n hk dX10_isStatementLine_61 rfl ?_
        refine xiconst (v := 2) hk dX10_isStatementLine_62 (by decide) ?_
        obtain ⟨u63, e63, h⟩ := ob_some h
        refine xcallV hk (c_X10_eat e63) bX10_eat kX10_242 dX10_isStatementLine_63 rfl ⟨_, _, _, _, rfl, rfl⟩ rfl (by first | decide | omega) ⟨by decide, by decide⟩ (Nat.le_of_ble_eq_true rfl) (det ?_)
        refine xif_eq hk 90 dX10_isStatementLine_66 (by decide) (fun h66 => ?_) (fun h66 => ?_)
        · rw [if_pos h66] at h
          refine xiconst (v := 0) hk dX10_isStatementLine_90 (by decide) ?_
          refine xzret hk he dX10_isStatementLine_91 ⟨by decide, by decide⟩ (by first | with_reducible exact nar_b _ | rfl) ?_
          obtain rfl := Option.some.inj h
          exact ⟨rfl, rfl⟩
        · rw [if_neg h66] at h
          refine xiload_n hk dX10_isStatementLine_69 rfl ?_
          refine xiconst (v := 4) hk dX10_isStatementLine_70 (by decide) ?_
          refine xicmp_ne hk 82 dX10_isStatementLine_71 (by decide) (fun h71 => ?_) (fun h71 => ?_)
          · rw [if_neg h71] at h
            refine xaload_n hk dX10_isStatementLine_82 rfl ?_
            refine xiconst (v := 3) hk dX10_isStatementLine_83 (by decide) ?_
            obtain ⟨u84, e84, h⟩ := ob_some h
            refine xcallV hk (c_X10_isClaimTold e84) bX10_isClaimTold kX10_263 dX10_isStatementLine_84 rfl ⟨_, _, _, _, rfl, rfl⟩ rfl (by first | decide | omega) ⟨by decide, by decide⟩ (Nat.le_of_ble_eq_true rfl) (det ?_)
            refine xif_ne hk 92 dX10_isStatementLine_87 (by decide) (fun h87 => ?_) (fun h87 => ?_)
            · rw [if_neg h87] at h
              refine xiload_n hk dX10_isStatementLine_92 rfl ?_
              refine xbipush (v := 9) hk dX10_isStatementLine_93 (by decide) ?_
              refine xicmp_eq hk 134 dX10_isStatementLine_95 (by decide) (fun h95 => ?_) (fun h95 => ?_)
              · rw [if_pos h95] at h
                refine xiconst (v := 1) hk dX10_isStatementLine_134 (by decide) ?_
                refine xgoto hk 139 dX10_isStatementLine_135 (by decide) ?_
                refine xzret hk he dX10_isStatementLine_139 ⟨by decide, by decide⟩ (by first | with_reducible exact nar_b _ | rfl) ?_
                obtain rfl := Option.some.inj h
                exact ⟨rfl, rfl⟩
              · rw [if_neg h95] at h
                refine xaload_n hk dX10_isStatementLine_98 rfl ?_
                refine xiload_n hk dX10_isStatementLine_99 rfl ?_
                refine xiconst (v := 1) hk dX10_isStatementLine_100 (by decide) ?_
                refine xicmp_ne hk 108 dX10_isStatementLine_101 (by decide) (fun h101 => ?_) (fun h101 => ?_)
                · rw [if_neg h101] at h
                  refine xiload_n hk dX10_isStatementLine_108 rfl ?_
                  refine xiconst (v := 4) hk dX10_isStatementLine_109 (by decide) ?_
                  refine xicmp_ne hk 118 dX10_isStatementLine_110 (by decide) (fun h110 => ?_) (fun h110 => ?_)
                  · rw [if_neg h110] at h
                    refine xbipush (v := 8) hk dX10_isStatementLine_118 (by decide) ?_
                    obtain ⟨u120, e120, h⟩ := ob_some h
                    refine xcallV hk (c_X10_eat e120) bX10_eat kX10_242 dX10_isStatementLine_120 rfl ⟨_, _, _, _, rfl, rfl⟩ rfl (by first | decide | omega) ⟨by decide, by decide⟩ (Nat.le_of_ble_eq_true rfl) (det ?_)
                    refine xif_eq hk 138 dX10_isStatementLine_123 (by decide) (fun h123 => ?_) (fun h123 => ?_)
                    · rw [if_pos h123] at h
                      refine xiconst (v := 0) hk dX10_isStatementLine_138 (by decide) ?_
                      refine xzret hk he dX10_isStatementLine_139 ⟨by decide, by decide⟩ (by first | with_reducible exact nar_b _ | rfl) ?_
                      obtain rfl := Option.some.inj h
                      exact ⟨rfl, rfl⟩
                    · rw [if_neg h123] at h
                      refine xaload_n hk dX10_isStatementLine_126 rfl ?_
                      refine xiconst (v := 4) hk dX10_isStatementLine_127 (by decide) ?_
                      obtain ⟨u128, e128, h⟩ := ob_some h
                      refine xcallV hk (c_X10_isClaimTold e128) bX10_isClaimTold kX10_263 dX10_isStatementLine_128 rfl ⟨_, _, _, _, rfl, rfl⟩ rfl (by first | decide | omega) ⟨by decide, by decide⟩ (Nat.le_of_ble_eq_true rfl) (det ?_)
                      refine xif_eq hk 138 dX10_isStatementLine_131 (by decide) (fun h131 => ?_) (fun h131 => ?_)
                      · rw [if_pos h131] at h
                        refine xiconst (v := 0) hk dX10_isStatementLine_138 (by decide) ?_
                        refine xzret hk he dX10_isStatementLine_139 ⟨by decide, by decide⟩ (by first | with_reducible exact nar_b _ | rfl) ?_
                        obtain rfl := Option.some.inj h
                        exact ⟨rfl, rfl⟩
                      · rw [if_neg h131] at h
                        refine xiconst (v := 1) hk dX10_isStatementLine_134 (by decide) ?_
                        refine xgoto hk 139 dX10_isStatementLine_135 (by decide) ?_
                        refine xzret hk he dX10_isStatementLine_139 ⟨by decide, by decide⟩ (by first | with_reducible exact nar_b _ | rfl) ?_
                        obtain rfl := Option.some.inj h
                        exact ⟨rfl, rfl⟩
                  · rw [if_pos h110] at h
                    refine xbipush (v := 6) hk dX10_isStatementLine_113 (by decide) ?_
                    refine xgoto hk 120 dX10_isStatementLine_115 (by decide) ?_
                    obtain ⟨u120, e120, h⟩ := ob_some h
                    refine xcallV hk (c_X10_eat e120) bX10_eat kX10_242 dX10_isStatementLine_120 rfl ⟨_, _, _, _, rfl, rfl⟩ rfl (by first | decide | omega) ⟨by decide, by decide⟩ (Nat.le_of_ble_eq_true rfl) (det ?_)
                    refine xif_eq hk 138 dX10_isStatementLine_123 (by decide) (fun h123 => ?_) (fun h123 => ?_)
                    · rw [if_pos h123] at h
                      refine xiconst (v := 0) hk dX10_isStatementLine_138 (by decide) ?_
                      refine xzret hk he dX10_isStatementLine_139 ⟨by decide, by decide⟩ (by first | with_reducible exact nar_b _ | rfl) ?_
                      obtain rfl := Option.some.inj h
                      exact ⟨rfl, rfl⟩
                    · rw [if_neg h123] at h
                      refine xaload_n hk dX10_isStatementLine_126 rfl ?_
                      refine xiconst (v := 4) hk dX10_isStatementLine_127 (by decide) ?_
                      obtain ⟨u128, e128, h⟩ := ob_some h
                      refine xcallV hk (c_X10_isClaimTold e128) bX10_isClaimTold kX10_263 dX10_isStatementLine_128 rfl ⟨_, _, _, _, rfl, rfl⟩ rfl (by first | decide | omega) ⟨by decide, by decide⟩ (Nat.le_of_ble_eq_true rfl) (det ?_)
                      refine xif_eq hk 138 dX10_isStatementLine_131 (by decide) (fun h131 => ?_) (fun h131 => ?_)
                      · rw [if_pos h131] at h
                        refine xiconst (v := 0) hk dX10_isStatementLine_138 (by decide) ?_
                        refine xzret hk he dX10_isStatementLine_139 ⟨by decide, by decide⟩ (by first | with_reducible exact nar_b _ | rfl) ?_
                        obtain rfl := Option.some.inj h
                        exact ⟨rfl, rfl⟩
                      · rw [if_neg h131] at h
                        refine xiconst (v := 1) hk dX10_isStatementLine_134 (by decide) ?_
                        refine xgoto hk 139 dX10_isStatementLine_135 (by decide) ?_
                        refine xzret hk he dX10_isStatementLine_139 ⟨by decide, by decide⟩ (by first | with_reducible exact nar_b _ | rfl) ?_
                        obtain rfl := Option.some.inj h
                        exact ⟨rfl, rfl⟩
                · rw [if_pos h101] at h
                  refine xiconst (v := 3) hk dX10_isStatementLine_104 (by decide) ?_
                  refine xgoto hk 120 dX10_isStatementLine_105 (by decide) ?_
                  obtain ⟨u120, e120, h⟩ := ob_some h
                  refine xcallV hk (c_X10_eat e120) bX10_eat kX10_242 dX10_isStatementLine_120 rfl ⟨_, _, _, _, rfl, rfl⟩ rfl (by first | decide | omega) ⟨by decide, by decide⟩ (Nat.le_of_ble_eq_true rfl) (det ?_)
                  refine xif_eq hk 138 dX10_isStatementLine_123 (by decide) (fun h123 => ?_) (fun h123 => ?_)
                  · rw [if_pos h123] at h
                    refine xiconst (v := 0) hk dX10_isStatementLine_138 (by decide) ?_
                    refine xzret hk he dX10_isStatementLine_139 ⟨by decide, by decide⟩ (by first | with_reducible exact nar_b _ | rfl) ?_
                    obtain rfl := Option.some.inj h
                    exact ⟨rfl, rfl⟩
                  · rw [if_neg h123] at h
                    refine xaload_n hk dX10_isStatementLine_126 rfl ?_
                    refine xiconst (v := 4) hk dX10_isStatementLine_127 (by decide) ?_
                    obtain ⟨u128, e128, h⟩ := ob_some h
                    refine xcallV hk (c_X10_isClaimTold e128) bX10_isClaimTold kX10_263 dX10_isStatementLine_128 rfl ⟨_, _, _, _, rfl, rfl⟩ rfl (by first | decide | omega) ⟨by decide, by decide⟩ (Nat.le_of_ble_eq_true rfl) (det ?_)
                    refine xif_eq hk 138 dX10_isStatementLine_131 (by decide) (fun h131 => ?_) (fun h131 => ?_)
                    · rw [if_pos h131] at h
                      refine xiconst (v := 0) hk dX10_isStatementLine_138 (by decide) ?_
                      refine xzret hk he dX10_isStatementLine_139 ⟨by decide, by decide⟩ (by first | with_reducible exact nar_b _ | rfl) ?_
                      obtain rfl := Option.some.inj h
                      exact ⟨rfl, rfl⟩
                    · rw [if_neg h131] at h
                      refine xiconst (v := 1) hk dX10_isStatementLine_134 (by decide) ?_
                      refine xgoto hk 139 dX10_isStatementLine_135 (by decide) ?_
                      refine xzret hk he dX10_isStatementLine_139 ⟨by decide, by decide⟩ (by first | with_reducible exact nar_b _ | rfl) ?_
                      obtain rfl := Option.some.inj h
                      exact ⟨rfl, rfl⟩
            · rw [if_pos h87] at h
              refine xiconst (v := 0) hk dX10_isStatementLine_90 (by decide) ?_
              refine xzret hk he dX10_isStatementLine_91 ⟨by decide, by decide⟩ (by first | with_reducible exact nar_b _ | rfl) ?_
              obtain rfl := Option.some.inj h
              exact ⟨rfl, rfl⟩
          · rw [if_pos h71] at h
            refine xaload_n hk dX10_isStatementLine_74 rfl ?_
            refine xiconst (v := 5) hk dX10_isStatementLine_75 (by decide) ?_
            obtain ⟨u76, e76, h⟩ := ob_some h
            refine xcallV hk (c_X10_eat e76) bX10_eat kX10_242 dX10_isStatementLine_76 rfl ⟨_, _, _, _, rfl, rfl⟩ rfl (by first | decide | omega) ⟨by decide, by decide⟩ (Nat.le_of_ble_eq_true rfl) (det ?_)
            refine xif_eq hk 90 dX10_isStatementLine_79 (by decide) (fun h79 => ?_) (fun h79 => ?_)
            · rw [if_pos h79] at h
              refine xiconst (v := 0) hk dX10_isStatementLine_90 (by decide) ?_
              refine xzret hk he dX10_isStatementLine_91 ⟨by decide, by decide⟩ (by first | with_reducible exact nar_b _ | rfl) ?_
              obtain rfl := Option.some.inj h
              exact ⟨rfl, rfl⟩
            · rw [if_neg h79] at h
              refine xaload_n hk dX10_isStatementLine_82 rfl ?_
              refine xiconst (v := 3) hk dX10_isStatementLine_83 (by decide) ?_
              obtain ⟨u84, e84, h⟩ := ob_some h
              refine xcallV hk (c_X10_isClaimTold e84) bX10_isClaimTold kX10_263 dX10_isStatementLine_84 rfl ⟨_, _, _, _, rfl, rfl⟩ rfl (by first | decide | omega) ⟨by decide, by decide⟩ (Nat.le_of_ble_eq_true rfl) (det ?_)
              refine xif_ne hk 92 dX10_isStatementLine_87 (by decide) (fun h87 => ?_) (fun h87 => ?_)
              · rw [if_neg h87] at h
                refine xiload_n hk dX10_isStatementLine_92 rfl ?_
                refine xbipush (v := 9) hk dX10_isStatementLine_93 (by decide) ?_
                refine xicmp_eq hk 134 dX10_isStatementLine_95 (by decide) (fun h95 => ?_) (fun h95 => ?_)
                · rw [if_pos h95] at h
                  refine xiconst (v := 1) hk dX10_isStatementLine_134 (by decide) ?_
                  refine xgoto hk 139 dX10_isStatementLine_135 (by decide) ?_
                  refine xzret hk he dX10_isStatementLine_139 ⟨by decide, by decide⟩ (by first | with_reducible exact nar_b _ | rfl) ?_
                  obtain rfl := Option.some.inj h
                  exact ⟨rfl, rfl⟩
                · rw [if_neg h95] at h
                  refine xaload_n hk dX10_isStatementLine_98 rfl ?_
                  refine xiload_n hk dX10_isStatementLine_99 rfl ?_
                  refine xiconst (v := 1) hk dX10_isStatementLine_100 (by decide) ?_
                  refine xicmp_ne hk 108 dX10_isStatementLine_101 (by decide) (fun h101 => ?_) (fun h101 => ?_)
                  · rw [if_neg h101] at h
                    refine xiload_n hk dX10_isStatementLine_108 rfl ?_
                    refine xiconst (v := 4) hk dX10_isStatementLine_109 (by decide) ?_
                    refine xicmp_ne hk 118 dX10_isStatementLine_110 (by decide) (fun h110 => ?_) (fun h110 => ?_)
                    · rw [if_neg h110] at h
                      refine xbipush (v := 8) hk dX10_isStatementLine_118 (by decide) ?_
                      obtain ⟨u120, e120, h⟩ := ob_some h
                      refine xcallV hk (c_X10_eat e120) bX10_eat kX10_242 dX10_isStatementLine_120 rfl ⟨_, _, _, _, rfl, rfl⟩ rfl (by first | decide | omega) ⟨by decide, by decide⟩ (Nat.le_of_ble_eq_true rfl) (det ?_)
                      refine xif_eq hk 138 dX10_isStatementLine_123 (by decide) (fun h123 => ?_) (fun h123 => ?_)
                      · rw [if_pos h123] at h
                        refine xiconst (v := 0) hk dX10_isStatementLine_138 (by decide) ?_
                        refine xzret hk he dX10_isStatementLine_139 ⟨by decide, by decide⟩ (by first | with_reducible exact nar_b _ | rfl) ?_
                        obtain rfl := Option.some.inj h
                        exact ⟨rfl, rfl⟩
                      · rw [if_neg h123] at h
                        refine xaload_n hk dX10_isStatementLine_126 rfl ?_
                        refine xiconst (v := 4) hk dX10_isStatementLine_127 (by decide) ?_
                        obtain ⟨u128, e128, h⟩ := ob_some h
                        refine xcallV hk (c_X10_isClaimTold e128) bX10_isClaimTold kX10_263 dX10_isStatementLine_128 rfl ⟨_, _, _, _, rfl, rfl⟩ rfl (by first | decide | omega) ⟨by decide, by decide⟩ (Nat.le_of_ble_eq_true rfl) (det ?_)
                        refine xif_eq hk 138 dX10_isStatementLine_131 (by decide) (fun h131 => ?_) (fun h131 => ?_)
                        · rw [if_pos h131] at h
                          refine xiconst (v := 0) hk dX10_isStatementLine_138 (by decide) ?_
                          refine xzret hk he dX10_isStatementLine_139 ⟨by decide, by decide⟩ (by first | with_reducible exact nar_b _ | rfl) ?_
                          obtain rfl := Option.some.inj h
                          exact ⟨rfl, rfl⟩
                        · rw [if_neg h131] at h
                          refine xiconst (v := 1) hk dX10_isStatementLine_134 (by decide) ?_
                          refine xgoto hk 139 dX10_isStatementLine_135 (by decide) ?_
                          refine xzret hk he dX10_isStatementLine_139 ⟨by decide, by decide⟩ (by first | with_reducible exact nar_b _ | rfl) ?_
                          obtain rfl := Option.some.inj h
                          exact ⟨rfl, rfl⟩
                    · rw [if_pos h110] at h
                      refine xbipush (v := 6) hk dX10_isStatementLine_113 (by decide) ?_
                      refine xgoto hk 120 dX10_isStatementLine_115 (by decide) ?_
                      obtain ⟨u120, e120, h⟩ := ob_some h
                      refine xcallV hk (c_X10_eat e120) bX10_eat kX10_242 dX10_isStatementLine_120 rfl ⟨_, _, _, _, rfl, rfl⟩ rfl (by first | decide | omega) ⟨by decide, by decide⟩ (Nat.le_of_ble_eq_true rfl) (det ?_)
                      refine xif_eq hk 138 dX10_isStatementLine_123 (by decide) (fun h123 => ?_) (fun h123 => ?_)
                      · rw [if_pos h123] at h
                        refine xiconst (v := 0) hk dX10_isStatementLine_138 (by decide) ?_
                        refine xzret hk he dX10_isStatementLine_139 ⟨by decide, by decide⟩ (by first | with_reducible exact nar_b _ | rfl) ?_
                        obtain rfl := Option.some.inj h
                        exact ⟨rfl, rfl⟩
                      · rw [if_neg h123] at h
                        refine xaload_n hk dX10_isStatementLine_126 rfl ?_
                        refine xiconst (v := 4) hk dX10_isStatementLine_127 (by decide) ?_
                        obtain ⟨u128, e128, h⟩ := ob_some h
                        refine xcallV hk (c_X10_isClaimTold e128) bX10_isClaimTold kX10_263 dX10_isStatementLine_128 rfl ⟨_, _, _, _, rfl, rfl⟩ rfl (by first | decide | omega) ⟨by decide, by decide⟩ (Nat.le_of_ble_eq_true rfl) (det ?_)
                        refine xif_eq hk 138 dX10_isStatementLine_131 (by decide) (fun h131 => ?_) (fun h131 => ?_)
                        · rw [if_pos h131] at h
                          refine xiconst (v := 0) hk dX10_isStatementLine_138 (by decide) ?_
                          refine xzret hk he dX10_isStatementLine_139 ⟨by decide, by decide⟩ (by first | with_reducible exact nar_b _ | rfl) ?_
                          obtain rfl := Option.some.inj h
                          exact ⟨rfl, rfl⟩
                        · rw [if_neg h131] at h
                          refine xiconst (v := 1) hk dX10_isStatementLine_134 (by decide) ?_
                          refine xgoto hk 139 dX10_isStatementLine_135 (by decide) ?_
                          refine xzret hk he dX10_isStatementLine_139 ⟨by decide, by decide⟩ (by first | with_reducible exact nar_b _ | rfl) ?_
                          obtain rfl := Option.some.inj h
                          exact ⟨rfl, rfl⟩
                  · rw [if_pos h101] at h
                    refine xiconst (v := 3) hk dX10_isStatementLine_104 (by decide) ?_
                    refine xgoto hk 120 dX10_isStatementLine_105 (by decide) ?_
                    obtain ⟨u120, e120, h⟩ := ob_some h
                    refine xcallV hk (c_X10_eat e120) bX10_eat kX10_242 dX10_isStatementLine_120 rfl ⟨_, _, _, _, rfl, rfl⟩ rfl (by first | decide | omega) ⟨by decide, by decide⟩ (Nat.le_of_ble_eq_true rfl) (det ?_)
                    refine xif_eq hk 138 dX10_isStatementLine_123 (by decide) (fun h123 => ?_) (fun h123 => ?_)
                    · rw [if_pos h123] at h
                      refine xiconst (v := 0) hk dX10_isStatementLine_138 (by decide) ?_
                      refine xzret hk he dX10_isStatementLine_139 ⟨by decide, by decide⟩ (by first | with_reducible exact nar_b _ | rfl) ?_
                      obtain rfl := Option.some.inj h
                      exact ⟨rfl, rfl⟩
                    · rw [if_neg h123] at h
                      refine xaload_n hk dX10_isStatementLine_126 rfl ?_
                      refine xiconst (v := 4) hk dX10_isStatementLine_127 (by decide) ?_
                      obtain ⟨u128, e128, h⟩ := ob_some h
                      refine xcallV hk (c_X10_isClaimTold e128) bX10_isClaimTold kX10_263 dX10_isStatementLine_128 rfl ⟨_, _, _, _, rfl, rfl⟩ rfl (by first | decide | omega) ⟨by decide, by decide⟩ (Nat.le_of_ble_eq_true rfl) (det ?_)
                      refine xif_eq hk 138 dX10_isStatementLine_131 (by decide) (fun h131 => ?_) (fun h131 => ?_)
                      · rw [if_pos h131] at h
                        refine xiconst (v := 0) hk dX10_isStatementLine_138 (by decide) ?_
                        refine xzret hk he dX10_isStatementLine_139 ⟨by decide, by decide⟩ (by first | with_reducible exact nar_b _ | rfl) ?_
                        obtain rfl := Option.some.inj h
                        exact ⟨rfl, rfl⟩
                      · rw [if_neg h131] at h
                        refine xiconst (v := 1) hk dX10_isStatementLine_134 (by decide) ?_
                        refine xgoto hk 139 dX10_isStatementLine_135 (by decide) ?_
                        refine xzret hk he dX10_isStatementLine_139 ⟨by decide, by decide⟩ (by first | with_reducible exact nar_b _ | rfl) ?_
                        obtain rfl := Option.some.inj h
                        exact ⟨rfl, rfl⟩
              · rw [if_pos h87] at h
                refine xiconst (v := 0) hk dX10_isStatementLine_90 (by decide) ?_
                refine xzret hk he dX10_isStatementLine_91 ⟨by decide, by decide⟩ (by first | with_reducible exact nar_b _ | rfl) ?_
                obtain rfl := Option.some.inj h
                exact ⟨rfl, rfl⟩
    · rw [if_pos h51] at h
      refine xiconst (v := 0) hk dX10_isStatementLine_54 (by decide) ?_
      refine xzret hk he dX10_isStatementLine_55 ⟨by decide, by decide⟩ (by first | with_reducible exact nar_b _ | rfl) ?_
      obtain rfl := Option.some.inj h
      exact ⟨rfl, rfl⟩
  · rw [if_neg h12] at h
    refine xiload_n hk dX10_isStatementLine_15 rfl ?_
    refine xiconst (v := 4) hk dX10_isStatementLine_16 (by decide) ?_
    refine xicmp_eq hk 34 dX10_isStatementLine_17 (by decide) (fun h17 => ?_) (fun h17 => ?_)
    · rw [if_pos h17] at h
      refine xaload_n hk dX10_isStatementLine_34 rfl ?_
      refine xdup hk dX10_isStatementLine_35 rfl ?_
      refine xgetI (ci := 10) (f := 9) hk dX10_isStatementLine_36 ⟨rfl, by decide, _, rfl, rfl⟩ kX10_236 ?_
      refine xiconst (v := 1) hk dX10_isStatementLine_39 (by decide) ?_
      refine xiadd hk dX10_isStatementLine_40 ?_
      refine xputI (ci := 10) (f := 9) hk dX10_isStatementLine_41 ⟨rfl, by decide, _, rfl, rfl⟩ kX10_236 ⟨rfl, by decide +kernel⟩ ?_
      refine xaload_n hk dX10_isStatementLine_44 rfl ?_
      refine xbipush (v := 40) hk dX10_isStatementLine_45 (by decide) ?_
      refine xiconst (v := 2) hk dX10_isStatementLine_47 (by decide) ?_
      obtain ⟨u48, e48, h⟩ := ob_some h
      refine xcallV hk (c_X10_eatAs e48) bX10_eatAs kX10_260 dX10_isStatementLine_48 rfl ⟨_, _, _, _, rfl, rfl⟩ rfl (by first | decide | omega) ⟨by decide, by decide⟩ (Nat.le_of_ble_eq_true rfl) (det ?_)
      refine xif_ne hk 56 dX10_isStatementLine_51 (by decide) (fun h51 => ?_) (fun h51 => ?_)
      · rw [if_neg h51] at h
        refine xiload_n hk dX10_isStatementLine_56 rfl ?_
        refine xiconst (v := 1) hk dX10_isStatementLine_57 (by decide) ?_
        refine xicmp_ne hk 69 dX10_isStatementLine_58 (by decide) (fun h58 => ?_) (fun h58 => ?_)
        · rw [if_neg h58] at h
          refine xiload_n hk dX10_isStatementLine_69 rfl ?_
          refine xiconst (v := 4) hk dX10_isStatementLine_70 (by decide) ?_
          refine xicmp_ne hk 82 dX10_isStatementLine_71 (by decide) (fun h71 => ?_) (fun h71 => ?_)
          · rw [if_neg h71] at h
            refine xaload_n hk dX10_isStatementLine_82 rfl ?_
            refine xiconst (v := 3) hk dX10_isStatementLine_83 (by decide) ?_
            obtain ⟨u84, e84, h⟩ := ob_some h
            refine xcallV hk (c_X10_isClaimTold e84) bX10_isClaimTold kX10_263 dX10_isStatementLine_84 rfl ⟨_, _, _, _, rfl, rfl⟩ rfl (by first | decide | omega) ⟨by decide, by decide⟩ (Nat.le_of_ble_eq_true rfl) (det ?_)
            refine xif_ne hk 92 dX10_isStatementLine_87 (by decide) (fun h87 => ?_) (fun h87 => ?_)
            · rw [if_neg h87] at h
              refine xiload_n hk dX10_isStatementLine_92 rfl ?_
              refine xbipush (v := 9) hk dX10_isStatementLine_93 (by decide) ?_
              refine xicmp_eq hk 134 dX10_isStatementLine_95 (by decide) (fun h95 => ?_) (fun h95 => ?_)
              · rw [if_pos h95] at h
                refine xiconst (v := 1) hk dX10_isStatementLine_134 (by decide) ?_
                refine xgoto hk 139 dX10_isStatementLine_135 (by decide) ?_
                refine xzret hk he dX10_isStatementLine_139 ⟨by decide, by decide⟩ (by first | with_reducible exact nar_b _ | rfl) ?_
                obtain rfl := Option.some.inj h
                exact ⟨rfl, rfl⟩
              · rw [if_neg h95] at h
                refine xaload_n hk dX10_isStatementLine_98 rfl ?_
                refine xiload_n hk dX10_isStatementLine_99 rfl ?_
                refine xiconst (v := 1) hk dX10_isStatementLine_100 (by decide) ?_
                refine xicmp_ne hk 108 dX10_isStatementLine_101 (by decide) (fun h101 => ?_) (fun h101 => ?_)
                · rw [if_neg h101] at h
                  refine xiload_n hk dX10_isStatementLine_108 rfl ?_
                  refine xiconst (v := 4) hk dX10_isStatementLine_109 (by decide) ?_
                  refine xicmp_ne hk 118 dX10_isStatementLine_110 (by decide) (fun h110 => ?_) (fun h110 => ?_)
                  · rw [if_neg h110] at h
                    refine xbipush (v := 8) hk dX10_isStatementLine_118 (by decide) ?_
                    obtain ⟨u120, e120, h⟩ := ob_some h
                    refine xcallV hk (c_X10_eat e120) bX10_eat kX10_242 dX10_isStatementLine_120 rfl ⟨_, _, _, _, rfl, rfl⟩ rfl (by first | decide | omega) ⟨by decide, by decide⟩ (Nat.le_of_ble_eq_true rfl) (det ?_)
                    refine xif_eq hk 138 dX10_isStatementLine_123 (by decide) (fun h123 => ?_) (fun h123 => ?_)
                    · rw [if_pos h123] at h
                      refine xiconst (v := 0) hk dX10_isStatementLine_138 (by decide) ?_
                      refine xzret hk he dX10_isStatementLine_139 ⟨by decide, by decide⟩ (by first | with_reducible exact nar_b _ | rfl) ?_
                      obtain rfl := Option.some.inj h
                      exact ⟨rfl, rfl⟩
                    · rw [if_neg h123] at h
                      refine xaload_n hk dX10_isStatementLine_126 rfl ?_
                      refine xiconst (v := 4) hk dX10_isStatementLine_127 (by decide) ?_
                      obtain ⟨u128, e128, h⟩ := ob_some h
                      refine xcallV hk (c_X10_isClaimTold e128) bX10_isClaimTold kX10_263 dX10_isStatementLine_128 rfl ⟨_, _, _, _, rfl, rfl⟩ rfl (by first | decide | omega) ⟨by decide, by decide⟩ (Nat.le_of_ble_eq_true rfl) (det ?_)
                      refine xif_eq hk 138 dX10_isStatementLine_131 (by decide) (fun h131 => ?_) (fun h131 => ?_)
                      · rw [if_pos h131] at h
                        refine xiconst (v := 0) hk dX10_isStatementLine_138 (by decide) ?_
                        refine xzret hk he dX10_isStatementLine_139 ⟨by decide, by decide⟩ (by first | with_reducible exact nar_b _ | rfl) ?_
                        obtain rfl := Option.some.inj h
                        exact ⟨rfl, rfl⟩
                      · rw [if_neg h131] at h
                        refine xiconst (v := 1) hk dX10_isStatementLine_134 (by decide) ?_
                        refine xgoto hk 139 dX10_isStatementLine_135 (by decide) ?_
                        refine xzret hk he dX10_isStatementLine_139 ⟨by decide, by decide⟩ (by first | with_reducible exact nar_b _ | rfl) ?_
                        obtain rfl := Option.some.inj h
                        exact ⟨rfl, rfl⟩
                  · rw [if_pos h110] at h
                    refine xbipush (v := 6) hk dX10_isStatementLine_113 (by decide) ?_
                    refine xgoto hk 120 dX10_isStatementLine_115 (by decide) ?_
                    obtain ⟨u120, e120, h⟩ := ob_some h
                    refine xcallV hk (c_X10_eat e120) bX10_eat kX10_242 dX10_isStatementLine_120 rfl ⟨_, _, _, _, rfl, rfl⟩ rfl (by first | decide | omega) ⟨by decide, by decide⟩ (Nat.le_of_ble_eq_true rfl) (det ?_)
                    refine xif_eq hk 138 dX10_isStatementLine_123 (by decide) (fun h123 => ?_) (fun h123 => ?_)
                    · rw [if_pos h123] at h
                      refine xiconst (v := 0) hk dX10_isStatementLine_138 (by decide) ?_
                      refine xzret hk he dX10_isStatementLine_139 ⟨by decide, by decide⟩ (by first | with_reducible exact nar_b _ | rfl) ?_
                      obtain rfl := Option.some.inj h
                      exact ⟨rfl, rfl⟩
                    · rw [if_neg h123] at h
                      refine xaload_n hk dX10_isStatementLine_126 rfl ?_
                      refine xiconst (v := 4) hk dX10_isStatementLine_127 (by decide) ?_
                      obtain ⟨u128, e128, h⟩ := ob_some h
                      refine xcallV hk (c_X10_isClaimTold e128) bX10_isClaimTold kX10_263 dX10_isStatementLine_128 rfl ⟨_, _, _, _, rfl, rfl⟩ rfl (by first | decide | omega) ⟨by decide, by decide⟩ (Nat.le_of_ble_eq_true rfl) (det ?_)
                      refine xif_eq hk 138 dX10_isStatementLine_131 (by decide) (fun h131 => ?_) (fun h131 => ?_)
                      · rw [if_pos h131] at h
                        refine xiconst (v := 0) hk dX10_isStatementLine_138 (by decide) ?_
                        refine xzret hk he dX10_isStatementLine_139 ⟨by decide, by decide⟩ (by first | with_reducible exact nar_b _ | rfl) ?_
                        obtain rfl := Option.some.inj h
                        exact ⟨rfl, rfl⟩
                      · rw [if_neg h131] at h
                        refine xiconst (v := 1) hk dX10_isStatementLine_134 (by decide) ?_
                        refine xgoto hk 139 dX10_isStatementLine_135 (by decide) ?_
                        refine xzret hk he dX10_isStatementLine_139 ⟨by decide, by decide⟩ (by first | with_reducible exact nar_b _ | rfl) ?_
                        obtain rfl := Option.some.inj h
                        exact ⟨rfl, rfl⟩
                · rw [if_pos h101] at h
                  refine xiconst (v := 3) hk dX10_isStatementLine_104 (by decide) ?_
                  refine xgoto hk 120 dX10_isStatementLine_105 (by decide) ?_
                  obtain ⟨u120, e120, h⟩ := ob_some h
                  refine xcallV hk (c_X10_eat e120) bX10_eat kX10_242 dX10_isStatementLine_120 rfl ⟨_, _, _, _, rfl, rfl⟩ rfl (by first | decide | omega) ⟨by decide, by decide⟩ (Nat.le_of_ble_eq_true rfl) (det ?_)
                  refine xif_eq hk 138 dX10_isStatementLine_123 (by decide) (fun h123 => ?_) (fun h123 => ?_)
                  · rw [if_pos h123] at h
                    refine xiconst (v := 0) hk dX10_isStatementLine_138 (by decide) ?_
                    refine xzret hk he dX10_isStatementLine_139 ⟨by decide, by decide⟩ (by first | with_reducible exact nar_b _ | rfl) ?_
                    obtain rfl := Option.some.inj h
                    exact ⟨rfl, rfl⟩
                  · rw [if_neg h123] at h
                    refine xaload_n hk dX10_isStatementLine_126 rfl ?_
                    refine xiconst (v := 4) hk dX10_isStatementLine_127 (by decide) ?_
                    obtain ⟨u128, e128, h⟩ := ob_some h
                    refine xcallV hk (c_X10_isClaimTold e128) bX10_isClaimTold kX10_263 dX10_isStatementLine_128 rfl ⟨_, _, _, _, rfl, rfl⟩ rfl (by first | decide | omega) ⟨by decide, by decide⟩ (Nat.le_of_ble_eq_true rfl) (det ?_)
                    refine xif_eq hk 138 dX10_isStatementLine_131 (by decide) (fun h131 => ?_) (fun h131 => ?_)
                    · rw [if_pos h131] at h
                      refine xiconst (v := 0) hk dX10_isStatementLine_138 (by decide) ?_
                      refine xzret hk he dX10_isStatementLine_139 ⟨by decide, by decide⟩ (by first | with_reducible exact nar_b _ | rfl) ?_
                      obtain rfl := Option.some.inj h
                      exact ⟨rfl, rfl⟩
                    · rw [if_neg h131] at h
                      refine xiconst (v := 1) hk dX10_isStatementLine_134 (by decide) ?_
                      refine xgoto hk 139 dX10_isStatementLine_135 (by decide) ?_
                      refine xzret hk he dX10_isStatementLine_139 ⟨by decide, by decide⟩ (by first | with_reducible exact nar_b _ | rfl) ?_
                      obtain rfl := Option.some.inj h
                      exact ⟨rfl, rfl⟩
            · rw [if_pos h87] at h
              refine xiconst (v := 0) hk dX10_isStatementLine_90 (by decide) ?_
              refine xzret hk he dX10_isStatementLine_91 ⟨by decide, by decide⟩ (by first | with_reducible exact nar_b _ | rfl) ?_
              obtain rfl := Option.some.inj h
              exact ⟨rfl, rfl⟩
          · rw [if_pos h71] at h
            refine xaload_n hk dX10_isStatementLine_74 rfl ?_
            refine xiconst (v := 5) hk dX10_isStatementLine_75 (by decide) ?_
            obtain ⟨u76, e76, h⟩ := ob_some h
            refine xcallV hk (c_X10_eat e76) bX10_eat kX10_242 dX10_isStatementLine_76 rfl ⟨_, _, _, _, rfl, rfl⟩ rfl (by first | decide | omega) ⟨by decide, by decide⟩ (Nat.le_of_ble_eq_true rfl) (det ?_)
            refine xif_eq hk 90 dX10_isStatementLine_79 (by decide) (fun h79 => ?_) (fun h79 => ?_)
            · rw [if_pos h79] at h
              refine xiconst (v := 0) hk dX10_isStatementLine_90 (by decide) ?_
              refine xzret hk he dX10_isStatementLine_91 ⟨by decide, by decide⟩ (by first | with_reducible exact nar_b _ | rfl) ?_
              obtain rfl := Option.some.inj h
              exact ⟨rfl, rfl⟩
            · rw [if_neg h79] at h
              refine xaload_n hk dX10_isStatementLine_82 rfl ?_
              refine xiconst (v := 3) hk dX10_isStatementLine_83 (by decide) ?_
              obtain ⟨u84, e84, h⟩ := ob_some h
              refine xcallV hk (c_X10_isClaimTold e84) bX10_isClaimTold kX10_263 dX10_isStatementLine_84 rfl ⟨_, _, _, _, rfl, rfl⟩ rfl (by first | decide | omega) ⟨by decide, by decide⟩ (Nat.le_of_ble_eq_true rfl) (det ?_)
              refine xif_ne hk 92 dX10_isStatementLine_87 (by decide) (fun h87 => ?_) (fun h87 => ?_)
              · rw [if_neg h87] at h
                refine xiload_n hk dX10_isStatementLine_92 rfl ?_
                refine xbipush (v := 9) hk dX10_isStatementLine_93 (by decide) ?_
                refine xicmp_eq hk 134 dX10_isStatementLine_95 (by decide) (fun h95 => ?_) (fun h95 => ?_)
                · rw [if_pos h95] at h
                  refine xiconst (v := 1) hk dX10_isStatementLine_134 (by decide) ?_
                  refine xgoto hk 139 dX10_isStatementLine_135 (by decide) ?_
                  refine xzret hk he dX10_isStatementLine_139 ⟨by decide, by decide⟩ (by first | with_reducible exact nar_b _ | rfl) ?_
                  obtain rfl := Option.some.inj h
                  exact ⟨rfl, rfl⟩
                · rw [if_neg h95] at h
                  refine xaload_n hk dX10_isStatementLine_98 rfl ?_
                  refine xiload_n hk dX10_isStatementLine_99 rfl ?_
                  refine xiconst (v := 1) hk dX10_isStatementLine_100 (by decide) ?_
                  refine xicmp_ne hk 108 dX10_isStatementLine_101 (by decide) (fun h101 => ?_) (fun h101 => ?_)
                  · rw [if_neg h101] at h
                    refine xiload_n hk dX10_isStatementLine_108 rfl ?_
                    refine xiconst (v := 4) hk dX10_isStatementLine_109 (by decide) ?_
                    refine xicmp_ne hk 118 dX10_isStatementLine_110 (by decide) (fun h110 => ?_) (fun h110 => ?_)
                    · rw [if_neg h110] at h
                      refine xbipush (v := 8) hk dX10_isStatementLine_118 (by decide) ?_
                      obtain ⟨u120, e120, h⟩ := ob_some h
                      refine xcallV hk (c_X10_eat e120) bX10_eat kX10_242 dX10_isStatementLine_120 rfl ⟨_, _, _, _, rfl, rfl⟩ rfl (by first | decide | omega) ⟨by decide, by decide⟩ (Nat.le_of_ble_eq_true rfl) (det ?_)
                      refine xif_eq hk 138 dX10_isStatementLine_123 (by decide) (fun h123 => ?_) (fun h123 => ?_)
                      · rw [if_pos h123] at h
                        refine xiconst (v := 0) hk dX10_isStatementLine_138 (by decide) ?_
                        refine xzret hk he dX10_isStatementLine_139 ⟨by decide, by decide⟩ (by first | with_reducible exact nar_b _ | rfl) ?_
                        obtain rfl := Option.some.inj h
                        exact ⟨rfl, rfl⟩
                      · rw [if_neg h123] at h
                        refine xaload_n hk dX10_isStatementLine_126 rfl ?_
                        refine xiconst (v := 4) hk dX10_isStatementLine_127 (by decide) ?_
                        obtain ⟨u128, e128, h⟩ := ob_some h
                        refine xcallV hk (c_X10_isClaimTold e128) bX10_isClaimTold kX10_263 dX10_isStatementLine_128 rfl ⟨_, _, _, _, rfl, rfl⟩ rfl (by first | decide | omega) ⟨by decide, by decide⟩ (Nat.le_of_ble_eq_true rfl) (det ?_)
                        refine xif_eq hk 138 dX10_isStatementLine_131 (by decide) (fun h131 => ?_) (fun h131 => ?_)
                        · rw [if_pos h131] at h
                          refine xiconst (v := 0) hk dX10_isStatementLine_138 (by decide) ?_
                          refine xzret hk he dX10_isStatementLine_139 ⟨by decide, by decide⟩ (by first | with_reducible exact nar_b _ | rfl) ?_
                          obtain rfl := Option.some.inj h
                          exact ⟨rfl, rfl⟩
                        · rw [if_neg h131] at h
                          refine xiconst (v := 1) hk dX10_isStatementLine_134 (by decide) ?_
                          refine xgoto hk 139 dX10_isStatementLine_135 (by decide) ?_
                          refine xzret hk he dX10_isStatementLine_139 ⟨by decide, by decide⟩ (by first | with_reducible exact nar_b _ | rfl) ?_
                          obtain rfl := Option.some.inj h
                          exact ⟨rfl, rfl⟩
                    · rw [if_pos h110] at h
                      refine xbipush (v := 6) hk dX10_isStatementLine_113 (by decide) ?_
                      refine xgoto hk 120 dX10_isStatementLine_115 (by decide) ?_
                      obtain ⟨u120, e120, h⟩ := ob_some h
                      refine xcallV hk (c_X10_eat e120) bX10_eat kX10_242 dX10_isStatementLine_120 rfl ⟨_, _, _, _, rfl, rfl⟩ rfl (by first | decide | omega) ⟨by decide, by decide⟩ (Nat.le_of_ble_eq_true rfl) (det ?_)
                      refine xif_eq hk 138 dX10_isStatementLine_123 (by decide) (fun h123 => ?_) (fun h123 => ?_)
                      · rw [if_pos h123] at h
                        refine xiconst (v := 0) hk dX10_isStatementLine_138 (by decide) ?_
                        refine xzret hk he dX10_isStatementLine_139 ⟨by decide, by decide⟩ (by first | with_reducible exact nar_b _ | rfl) ?_
                        obtain rfl := Option.some.inj h
                        exact ⟨rfl, rfl⟩
                      · rw [if_neg h123] at h
                        refine xaload_n hk dX10_isStatementLine_126 rfl ?_
                        refine xiconst (v := 4) hk dX10_isStatementLine_127 (by decide) ?_
                        obtain ⟨u128, e128, h⟩ := ob_some h
                        refine xcallV hk (c_X10_isClaimTold e128) bX10_isClaimTold kX10_263 dX10_isStatementLine_128 rfl ⟨_, _, _, _, rfl, rfl⟩ rfl (by first | decide | omega) ⟨by decide, by decide⟩ (Nat.le_of_ble_eq_true rfl) (det ?_)
                        refine xif_eq hk 138 dX10_isStatementLine_131 (by decide) (fun h131 => ?_) (fun h131 => ?_)
                        · rw [if_pos h131] at h
                          refine xiconst (v := 0) hk dX10_isStatementLine_138 (by decide) ?_
                          refine xzret hk he dX10_isStatementLine_139 ⟨by decide, by decide⟩ (by first | with_reducible exact nar_b _ | rfl) ?_
                          obtain rfl := Option.some.inj h
                          exact ⟨rfl, rfl⟩
                        · rw [if_neg h131] at h
                          refine xiconst (v := 1) hk dX10_isStatementLine_134 (by decide) ?_
                          refine xgoto hk 139 dX10_isStatementLine_135 (by decide) ?_
                          refine xzret hk he dX10_isStatementLine_139 ⟨by decide, by decide⟩ (by first | with_reducible exact nar_b _ | rfl) ?_
                          obtain rfl := Option.some.inj h
                          exact ⟨rfl, rfl⟩
                  · rw [if_pos h101] at h
                    refine xiconst (v := 3) hk dX10_isStatementLine_104 (by decide) ?_
                    refine xgoto hk 120 dX10_isStatementLine_105 (by decide) ?_
                    obtain ⟨u120, e120, h⟩ := ob_some h
                    refine xcallV hk (c_X10_eat e120) bX10_eat kX10_242 dX10_isStatementLine_120 rfl ⟨_, _, _, _, rfl, rfl⟩ rfl (by first | decide | omega) ⟨by decide, by decide⟩ (Nat.le_of_ble_eq_true rfl) (det ?_)
                    refine xif_eq hk 138 dX10_isStatementLine_123 (by decide) (fun h123 => ?_) (fun h123 => ?_)
                    · rw [if_pos h123] at h
                      refine xiconst (v := 0) hk dX10_isStatementLine_138 (by decide) ?_
                      refine xzret hk he dX10_isStatementLine_139 ⟨by decide, by decide⟩ (by first | with_reducible exact nar_b _ | rfl) ?_
                      obtain rfl := Option.some.inj h
                      exact ⟨rfl, rfl⟩
                    · rw [if_neg h123] at h
                      refine xaload_n hk dX10_isStatementLine_126 rfl ?_
                      refine xiconst (v := 4) hk dX10_isStatementLine_127 (by decide) ?_
                      obtain ⟨u128, e128, h⟩ := ob_some h
                      refine xcallV hk (c_X10_isClaimTold e128) bX10_isClaimTold kX10_263 dX10_isStatementLine_128 rfl ⟨_, _, _, _, rfl, rfl⟩ rfl (by first | decide | omega) ⟨by decide, by decide⟩ (Nat.le_of_ble_eq_true rfl) (det ?_)
                      refine xif_eq hk 138 dX10_isStatementLine_131 (by decide) (fun h131 => ?_) (fun h131 => ?_)
                      · rw [if_pos h131] at h
                        refine xiconst (v := 0) hk dX10_isStatementLine_138 (by decide) ?_
                        refine xzret hk he dX10_isStatementLine_139 ⟨by decide, by decide⟩ (by first | with_reducible exact nar_b _ | rfl) ?_
                        obtain rfl := Option.some.inj h
                        exact ⟨rfl, rfl⟩
                      · rw [if_neg h131] at h
                        refine xiconst (v := 1) hk dX10_isStatementLine_134 (by decide) ?_
                        refine xgoto hk 139 dX10_isStatementLine_135 (by decide) ?_
                        refine xzret hk he dX10_isStatementLine_139 ⟨by decide, by decide⟩ (by first | with_reducible exact nar_b _ | rfl) ?_
                        obtain rfl := Option.some.inj h
                        exact ⟨rfl, rfl⟩
              · rw [if_pos h87] at h
                refine xiconst (v := 0) hk dX10_isStatementLine_90 (by decide) ?_
                refine xzret hk he dX10_isStatementLine_91 ⟨by decide, by decide⟩ (by first | with_reducible exact nar_b _ | rfl) ?_
                obtain rfl := Option.some.inj h
                exact ⟨rfl, rfl⟩
        · rw [if_pos h58] at h
          refine xaload_n hk dX10_isStatementLine_61 rfl ?_
          refine xiconst (v := 2) hk dX10_isStatementLine_62 (by decide) ?_
          obtain ⟨u63, e63, h⟩ := ob_some h
          refine xcallV hk (c_X10_eat e63) bX10_eat kX10_242 dX10_isStatementLine_63 rfl ⟨_, _, _, _, rfl, rfl⟩ rfl (by first | decide | omega) ⟨by decide, by decide⟩ (Nat.le_of_ble_eq_true rfl) (det ?_)
          refine xif_eq hk 90 dX10_isStatementLine_66 (by decide) (fun h66 => ?_) (fun h66 => ?_)
          · rw [if_pos h66] at h
            refine xiconst (v := 0) hk dX10_isStatementLine_90 (by decide) ?_
            refine xzret hk he dX10_isStatementLine_91 ⟨by decide, by decide⟩ (by first | with_reducible exact nar_b _ | rfl) ?_
            obtain rfl := Option.some.inj h
            exact ⟨rfl, rfl⟩
          · rw [if_neg h66] at h
            refine xiload_n hk dX10_isStatementLine_69 rfl ?_
            refine xiconst (v := 4) hk dX10_isStatementLine_70 (by decide) ?_
            refine xicmp_ne hk 82 dX10_isStatementLine_71 (by decide) (fun h71 => ?_) (fun h71 => ?_)
            · rw [if_neg h71] at h
              refine xaload_n hk dX10_isStatementLine_82 rfl ?_
              refine xiconst (v := 3) hk dX10_isStatementLine_83 (by decide) ?_
              obtain ⟨u84, e84, h⟩ := ob_some h
              refine xcallV hk (c_X10_isClaimTold e84) bX10_isClaimTold kX10_263 dX10_isStatementLine_84 rfl ⟨_, _, _, _, rfl, rfl⟩ rfl (by first | decide | omega) ⟨by decide, by decide⟩ (Nat.le_of_ble_eq_true rfl) (det ?_)
              refine xif_ne hk 92 dX10_isStatementLine_87 (by decide) (fun h87 => ?_) (fun h87 => ?_)
              · rw [if_neg h87] at h
                refine xiload_n hk dX10_isStatementLine_92 rfl ?_
                refine xbipush (v := 9) hk dX10_isStatementLine_93 (by decide) ?_
                refine xicmp_eq hk 134 dX10_isStatementLine_95 (by decide) (fun h95 => ?_) (fun h95 => ?_)
                · rw [if_pos h95] at h
                  refine xiconst (v := 1) hk dX10_isStatementLine_134 (by decide) ?_
                  refine xgoto hk 139 dX10_isStatementLine_135 (by decide) ?_
                  refine xzret hk he dX10_isStatementLine_139 ⟨by decide, by decide⟩ (by first | with_reducible exact nar_b _ | rfl) ?_
                  obtain rfl := Option.some.inj h
                  exact ⟨rfl, rfl⟩
                · rw [if_neg h95] at h
                  refine xaload_n hk dX10_isStatementLine_98 rfl ?_
                  refine xiload_n hk dX10_isStatementLine_99 rfl ?_
                  refine xiconst (v := 1) hk dX10_isStatementLine_100 (by decide) ?_
                  refine xicmp_ne hk 108 dX10_isStatementLine_101 (by decide) (fun h101 => ?_) (fun h101 => ?_)
                  · rw [if_neg h101] at h
                    refine xiload_n hk dX10_isStatementLine_108 rfl ?_
                    refine xiconst (v := 4) hk dX10_isStatementLine_109 (by decide) ?_
                    refine xicmp_ne hk 118 dX10_isStatementLine_110 (by decide) (fun h110 => ?_) (fun h110 => ?_)
                    · rw [if_neg h110] at h
                      refine xbipush (v := 8) hk dX10_isStatementLine_118 (by decide) ?_
                      obtain ⟨u120, e120, h⟩ := ob_some h
                      refine xcallV hk (c_X10_eat e120) bX10_eat kX10_242 dX10_isStatementLine_120 rfl ⟨_, _, _, _, rfl, rfl⟩ rfl (by first | decide | omega) ⟨by decide, by decide⟩ (Nat.le_of_ble_eq_true rfl) (det ?_)
                      refine xif_eq hk 138 dX10_isStatementLine_123 (by decide) (fun h123 => ?_) (fun h123 => ?_)
                      · rw [if_pos h123] at h
                        refine xiconst (v := 0) hk dX10_isStatementLine_138 (by decide) ?_
                        refine xzret hk he dX10_isStatementLine_139 ⟨by decide, by decide⟩ (by first | with_reducible exact nar_b _ | rfl) ?_
                        obtain rfl := Option.some.inj h
                        exact ⟨rfl, rfl⟩
                      · rw [if_neg h123] at h
                        refine xaload_n hk dX10_isStatementLine_126 rfl ?_
                        refine xiconst (v := 4) hk dX10_isStatementLine_127 (by decide) ?_
                        obtain ⟨u128, e128, h⟩ := ob_some h
                        refine xcallV hk (c_X10_isClaimTold e128) bX10_isClaimTold kX10_263 dX10_isStatementLine_128 rfl ⟨_, _, _, _, rfl, rfl⟩ rfl (by first | decide | omega) ⟨by decide, by decide⟩ (Nat.le_of_ble_eq_true rfl) (det ?_)
                        refine xif_eq hk 138 dX10_isStatementLine_131 (by decide) (fun h131 => ?_) (fun h131 => ?_)
                        · rw [if_pos h131] at h
                          refine xiconst (v := 0) hk dX10_isStatementLine_138 (by decide) ?_
                          refine xzret hk he dX10_isStatementLine_139 ⟨by decide, by decide⟩ (by first | with_reducible exact nar_b _ | rfl) ?_
                          obtain rfl := Option.some.inj h
                          exact ⟨rfl, rfl⟩
                        · rw [if_neg h131] at h
                          refine xiconst (v := 1) hk dX10_isStatementLine_134 (by decide) ?_
                          refine xgoto hk 139 dX10_isStatementLine_135 (by decide) ?_
                          refine xzret hk he dX10_isStatementLine_139 ⟨by decide, by decide⟩ (by first | with_reducible exact nar_b _ | rfl) ?_
                          obtain rfl := Option.some.inj h
                          exact ⟨rfl, rfl⟩
                    · rw [if_pos h110] at h
                      refine xbipush (v := 6) hk dX10_isStatementLine_113 (by decide) ?_
                      refine xgoto hk 120 dX10_isStatementLine_115 (by decide) ?_
                      obtain ⟨u120, e120, h⟩ := ob_some h
                      refine xcallV hk (c_X10_eat e120) bX10_eat kX10_242 dX10_isStatementLine_120 rfl ⟨_, _, _, _, rfl, rfl⟩ rfl (by first | decide | omega) ⟨by decide, by decide⟩ (Nat.le_of_ble_eq_true rfl) (det ?_)
                      refine xif_eq hk 138 dX10_isStatementLine_123 (by decide) (fun h123 => ?_) (fun h123 => ?_)
                      · rw [if_pos h123] at h
                        refine xiconst (v := 0) hk dX10_isStatementLine_138 (by decide) ?_
                        refine xzret hk he dX10_isStatementLine_139 ⟨by decide, by decide⟩ (by first | with_reducible exact nar_b _ | rfl) ?_
                        obtain rfl := Option.some.inj h
                        exact ⟨rfl, rfl⟩
                      · rw [if_neg h123] at h
                        refine xaload_n hk dX10_isStatementLine_126 rfl ?_
                        refine xiconst (v := 4) hk dX10_isStatementLine_127 (by decide) ?_
                        obtain ⟨u128, e128, h⟩ := ob_some h
                        refine xcallV hk (c_X10_isClaimTold e128) bX10_isClaimTold kX10_263 dX10_isStatementLine_128 rfl ⟨_, _, _, _, rfl, rfl⟩ rfl (by first | decide | omega) ⟨by decide, by decide⟩ (Nat.le_of_ble_eq_true rfl) (det ?_)
                        refine xif_eq hk 138 dX10_isStatementLine_131 (by decide) (fun h131 => ?_) (fun h131 => ?_)
                        · rw [if_pos h131] at h
                          refine xiconst (v := 0) hk dX10_isStatementLine_138 (by decide) ?_
                          refine xzret hk he dX10_isStatementLine_139 ⟨by decide, by decide⟩ (by first | with_reducible exact nar_b _ | rfl) ?_
                          obtain rfl := Option.some.inj h
                          exact ⟨rfl, rfl⟩
                        · rw [if_neg h131] at h
                          refine xiconst (v := 1) hk dX10_isStatementLine_134 (by decide) ?_
                          refine xgoto hk 139 dX10_isStatementLine_135 (by decide) ?_
                          refine xzret hk he dX10_isStatementLine_139 ⟨by decide, by decide⟩ (by first | with_reducible exact nar_b _ | rfl) ?_
                          obtain rfl := Option.some.inj h
                          exact ⟨rfl, rfl⟩
                  · rw [if_pos h101] at h
                    refine xiconst (v := 3) hk dX10_isStatementLine_104 (by decide) ?_
                    refine xgoto hk 120 dX10_isStatementLine_105 (by decide) ?_
                    obtain ⟨u120, e120, h⟩ := ob_some h
                    refine xcallV hk (c_X10_eat e120) bX10_eat kX10_242 dX10_isStatementLine_120 rfl ⟨_, _, _, _, rfl, rfl⟩ rfl (by first | decide | omega) ⟨by decide, by decide⟩ (Nat.le_of_ble_eq_true rfl) (det ?_)
                    refine xif_eq hk 138 dX10_isStatementLine_123 (by decide) (fun h123 => ?_) (fun h123 => ?_)
                    · rw [if_pos h123] at h
                      refine xiconst (v := 0) hk dX10_isStatementLine_138 (by decide) ?_
                      refine xzret hk he dX10_isStatementLine_139 ⟨by decide, by decide⟩ (by first | with_reducible exact nar_b _ | rfl) ?_
                      obtain rfl := Option.some.inj h
                      exact ⟨rfl, rfl⟩
                    · rw [if_neg h123] at h
                      refine xaload_n hk dX10_isStatementLine_126 rfl ?_
                      refine xiconst (v := 4) hk dX10_isStatementLine_127 (by decide) ?_
                      obtain ⟨u128, e128, h⟩ := ob_some h
                      refine xcallV hk (c_X10_isClaimTold e128) bX10_isClaimTold kX10_263 dX10_isStatementLine_128 rfl ⟨_, _, _, _, rfl, rfl⟩ rfl (by first | decide | omega) ⟨by decide, by decide⟩ (Nat.le_of_ble_eq_true rfl) (det ?_)
                      refine xif_eq hk 138 dX10_isStatementLine_131 (by decide) (fun h131 => ?_) (fun h131 => ?_)
                      · rw [if_pos h131] at h
                        refine xiconst (v := 0) hk dX10_isStatementLine_138 (by decide) ?_
                        refine xzret hk he dX10_isStatementLine_139 ⟨by decide, by decide⟩ (by first | with_reducible exact nar_b _ | rfl) ?_
                        obtain rfl := Option.some.inj h
                        exact ⟨rfl, rfl⟩
                      · rw [if_neg h131] at h
                        refine xiconst (v := 1) hk dX10_isStatementLine_134 (by decide) ?_
                        refine xgoto hk 139 dX10_isStatementLine_135 (by decide) ?_
                        refine xzret hk he dX10_isStatementLine_139 ⟨by decide, by decide⟩ (by first | with_reducible exact nar_b _ | rfl) ?_
                        obtain rfl := Option.some.inj h
                        exact ⟨rfl, rfl⟩
              · rw [if_pos h87] at h
                refine xiconst (v := 0) hk dX10_isStatementLine_90 (by decide) ?_
                refine xzret hk he dX10_isStatementLine_91 ⟨by decide, by decide⟩ (by first | with_reducible exact nar_b _ | rfl) ?_
                obtain rfl := Option.some.inj h
                exact ⟨rfl, rfl⟩
            · rw [if_pos h71] at h
              refine xaload_n hk dX10_isStatementLine_74 rfl ?_
              refine xiconst (v := 5) hk dX10_isStatementLine_75 (by decide) ?_
              obtain ⟨u76, e76, h⟩ := ob_some h
              refine xcallV hk (c_X10_eat e76) bX10_eat kX10_242 dX10_isStatementLine_76 rfl ⟨_, _, _, _, rfl, rfl⟩ rfl (by first | decide | omega) ⟨by decide, by decide⟩ (Nat.le_of_ble_eq_true rfl) (det ?_)
              refine xif_eq hk 90 dX10_isStatementLine_79 (by decide) (fun h79 => ?_) (fun h79 => ?_)
              · rw [if_pos h79] at h
                refine xiconst (v := 0) hk dX10_isStatementLine_90 (by decide) ?_
                refine xzret hk he dX10_isStatementLine_91 ⟨by decide, by decide⟩ (by first | with_reducible exact nar_b _ | rfl) ?_
                obtain rfl := Option.some.inj h
                exact ⟨rfl, rfl⟩
              · rw [if_neg h79] at h
                refine xaload_n hk dX10_isStatementLine_82 rfl ?_
                refine xiconst (v := 3) hk dX10_isStatementLine_83 (by decide) ?_
                obtain ⟨u84, e84, h⟩ := ob_some h
                refine xcallV hk (c_X10_isClaimTold e84) bX10_isClaimTold kX10_263 dX10_isStatementLine_84 rfl ⟨_, _, _, _, rfl, rfl⟩ rfl (by first | decide | omega) ⟨by decide, by decide⟩ (Nat.le_of_ble_eq_true rfl) (det ?_)
                refine xif_ne hk 92 dX10_isStatementLine_87 (by decide) (fun h87 => ?_) (fun h87 => ?_)
                · rw [if_neg h87] at h
                  refine xiload_n hk dX10_isStatementLine_92 rfl ?_
                  refine xbipush (v := 9) hk dX10_isStatementLine_93 (by decide) ?_
                  refine xicmp_eq hk 134 dX10_isStatementLine_95 (by decide) (fun h95 => ?_) (fun h95 => ?_)
                  · rw [if_pos h95] at h
                    refine xiconst (v := 1) hk dX10_isStatementLine_134 (by decide) ?_
                    refine xgoto hk 139 dX10_isStatementLine_135 (by decide) ?_
                    refine xzret hk he dX10_isStatementLine_139 ⟨by decide, by decide⟩ (by first | with_reducible exact nar_b _ | rfl) ?_
                    obtain rfl := Option.some.inj h
                    exact ⟨rfl, rfl⟩
                  · rw [if_neg h95] at h
                    refine xaload_n hk dX10_isStatementLine_98 rfl ?_
                    refine xiload_n hk dX10_isStatementLine_99 rfl ?_
                    refine xiconst (v := 1) hk dX10_isStatementLine_100 (by decide) ?_
                    refine xicmp_ne hk 108 dX10_isStatementLine_101 (by decide) (fun h101 => ?_) (fun h101 => ?_)
                    · rw [if_neg h101] at h
                      refine xiload_n hk dX10_isStatementLine_108 rfl ?_
                      refine xiconst (v := 4) hk dX10_isStatementLine_109 (by decide) ?_
                      refine xicmp_ne hk 118 dX10_isStatementLine_110 (by decide) (fun h110 => ?_) (fun h110 => ?_)
                      · rw [if_neg h110] at h
                        refine xbipush (v := 8) hk dX10_isStatementLine_118 (by decide) ?_
                        obtain ⟨u120, e120, h⟩ := ob_some h
                        refine xcallV hk (c_X10_eat e120) bX10_eat kX10_242 dX10_isStatementLine_120 rfl ⟨_, _, _, _, rfl, rfl⟩ rfl (by first | decide | omega) ⟨by decide, by decide⟩ (Nat.le_of_ble_eq_true rfl) (det ?_)
                        refine xif_eq hk 138 dX10_isStatementLine_123 (by decide) (fun h123 => ?_) (fun h123 => ?_)
                        · rw [if_pos h123] at h
                          refine xiconst (v := 0) hk dX10_isStatementLine_138 (by decide) ?_
                          refine xzret hk he dX10_isStatementLine_139 ⟨by decide, by decide⟩ (by first | with_reducible exact nar_b _ | rfl) ?_
                          obtain rfl := Option.some.inj h
                          exact ⟨rfl, rfl⟩
                        · rw [if_neg h123] at h
                          refine xaload_n hk dX10_isStatementLine_126 rfl ?_
                          refine xiconst (v := 4) hk dX10_isStatementLine_127 (by decide) ?_
                          obtain ⟨u128, e128, h⟩ := ob_some h
                          refine xcallV hk (c_X10_isClaimTold e128) bX10_isClaimTold kX10_263 dX10_isStatementLine_128 rfl ⟨_, _, _, _, rfl, rfl⟩ rfl (by first | decide | omega) ⟨by decide, by decide⟩ (Nat.le_of_ble_eq_true rfl) (det ?_)
                          refine xif_eq hk 138 dX10_isStatementLine_131 (by decide) (fun h131 => ?_) (fun h131 => ?_)
                          · rw [if_pos h131] at h
                            refine xiconst (v := 0) hk dX10_isStatementLine_138 (by decide) ?_
                            refine xzret hk he dX10_isStatementLine_139 ⟨by decide, by decide⟩ (by first | with_reducible exact nar_b _ | rfl) ?_
                            obtain rfl := Option.some.inj h
                            exact ⟨rfl, rfl⟩
                          · rw [if_neg h131] at h
                            refine xiconst (v := 1) hk dX10_isStatementLine_134 (by decide) ?_
                            refine xgoto hk 139 dX10_isStatementLine_135 (by decide) ?_
                            refine xzret hk he dX10_isStatementLine_139 ⟨by decide, by decide⟩ (by first | with_reducible exact nar_b _ | rfl) ?_
                            obtain rfl := Option.some.inj h
                            exact ⟨rfl, rfl⟩
                      · rw [if_pos h110] at h
                        refine xbipush (v := 6) hk dX10_isStatementLine_113 (by decide) ?_
                        refine xgoto hk 120 dX10_isStatementLine_115 (by decide) ?_
                        obtain ⟨u120, e120, h⟩ := ob_some h
                        refine xcallV hk (c_X10_eat e120) bX10_eat kX10_242 dX10_isStatementLine_120 rfl ⟨_, _, _, _, rfl, rfl⟩ rfl (by first | decide | omega) ⟨by decide, by decide⟩ (Nat.le_of_ble_eq_true rfl) (det ?_)
                        refine xif_eq hk 138 dX10_isStatementLine_123 (by decide) (fun h123 => ?_) (fun h123 => ?_)
                        · rw [if_pos h123] at h
                          refine xiconst (v := 0) hk dX10_isStatementLine_138 (by decide) ?_
                          refine xzret hk he dX10_isStatementLine_139 ⟨by decide, by decide⟩ (by first | with_reducible exact nar_b _ | rfl) ?_
                          obtain rfl := Option.some.inj h
                          exact ⟨rfl, rfl⟩
                        · rw [if_neg h123] at h
                          refine xaload_n hk dX10_isStatementLine_126 rfl ?_
                          refine xiconst (v := 4) hk dX10_isStatementLine_127 (by decide) ?_
                          obtain ⟨u128, e128, h⟩ := ob_some h
                          refine xcallV hk (c_X10_isClaimTold e128) bX10_isClaimTold kX10_263 dX10_isStatementLine_128 rfl ⟨_, _, _, _, rfl, rfl⟩ rfl (by first | decide | omega) ⟨by decide, by decide⟩ (Nat.le_of_ble_eq_true rfl) (det ?_)
                          refine xif_eq hk 138 dX10_isStatementLine_131 (by decide) (fun h131 => ?_) (fun h131 => ?_)
                          · rw [if_pos h131] at h
                            refine xiconst (v := 0) hk dX10_isStatementLine_138 (by decide) ?_
                            refine xzret hk he dX10_isStatementLine_139 ⟨by decide, by decide⟩ (by first | with_reducible exact nar_b _ | rfl) ?_
                            obtain rfl := Option.some.inj h
                            exact ⟨rfl, rfl⟩
                          · rw [if_neg h131] at h
                            refine xiconst (v := 1) hk dX10_isStatementLine_134 (by decide) ?_
                            refine xgoto hk 139 dX10_isStatementLine_135 (by decide) ?_
                            refine xzret hk he dX10_isStatementLine_139 ⟨by decide, by decide⟩ (by first | with_reducible exact nar_b _ | rfl) ?_
                            obtain rfl := Option.some.inj h
                            exact ⟨rfl, rfl⟩
                    · rw [if_pos h101] at h
                      refine xiconst (v := 3) hk dX10_isStatementLine_104 (by decide) ?_
                      refine xgoto hk 120 dX10_isStatementLine_105 (by decide) ?_
                      obtain ⟨u120, e120, h⟩ := ob_some h
                      refine xcallV hk (c_X10_eat e120) bX10_eat kX10_242 dX10_isStatementLine_120 rfl ⟨_, _, _, _, rfl, rfl⟩ rfl (by first | decide | omega) ⟨by decide, by decide⟩ (Nat.le_of_ble_eq_true rfl) (det ?_)
                      refine xif_eq hk 138 dX10_isStatementLine_123 (by decide) (fun h123 => ?_) (fun h123 => ?_)
                      · rw [if_pos h123] at h
                        refine xiconst (v := 0) hk dX10_isStatementLine_138 (by decide) ?_
                        refine xzret hk he dX10_isStatementLine_139 ⟨by decide, by decide⟩ (by first | with_reducible exact nar_b _ | rfl) ?_
                        obtain rfl := Option.some.inj h
                        exact ⟨rfl, rfl⟩
                      · rw [if_neg h123] at h
                        refine xaload_n hk dX10_isStatementLine_126 rfl ?_
                        refine xiconst (v := 4) hk dX10_isStatementLine_127 (by decide) ?_
                        obtain ⟨u128, e128, h⟩ := ob_some h
                        refine xcallV hk (c_X10_isClaimTold e128) bX10_isClaimTold kX10_263 dX10_isStatementLine_128 rfl ⟨_, _, _, _, rfl, rfl⟩ rfl (by first | decide | omega) ⟨by decide, by decide⟩ (Nat.le_of_ble_eq_true rfl) (det ?_)
                        refine xif_eq hk 138 dX10_isStatementLine_131 (by decide) (fun h131 => ?_) (fun h131 => ?_)
                        · rw [if_pos h131] at h
                          refine xiconst (v := 0) hk dX10_isStatementLine_138 (by decide) ?_
                          refine xzret hk he dX10_isStatementLine_139 ⟨by decide, by decide⟩ (by first | with_reducible exact nar_b _ | rfl) ?_
                          obtain rfl := Option.some.inj h
                          exact ⟨rfl, rfl⟩
                        · rw [if_neg h131] at h
                          refine xiconst (v := 1) hk dX10_isStatementLine_134 (by decide) ?_
                          refine xgoto hk 139 dX10_isStatementLine_135 (by decide) ?_
                          refine xzret hk he dX10_isStatementLine_139 ⟨by decide, by decide⟩ (by first | with_reducible exact nar_b _ | rfl) ?_
                          obtain rfl := Option.some.inj h
                          exact ⟨rfl, rfl⟩
                · rw [if_pos h87] at h
                  refine xiconst (v := 0) hk dX10_isStatementLine_90 (by decide) ?_
                  refine xzret hk he dX10_isStatementLine_91 ⟨by decide, by decide⟩ (by first | with_reducible exact nar_b _ | rfl) ?_
                  obtain rfl := Option.some.inj h
                  exact ⟨rfl, rfl⟩
      · rw [if_pos h51] at h
        refine xiconst (v := 0) hk dX10_isStatementLine_54 (by decide) ?_
        refine xzret hk he dX10_isStatementLine_55 ⟨by decide, by decide⟩ (by first | with_reducible exact nar_b _ | rfl) ?_
        obtain rfl := Option.some.inj h
        exact ⟨rfl, rfl⟩
    · rw [if_neg h17] at h
      refine xiload_n hk dX10_isStatementLine_20 rfl ?_
      refine xbipush (v := 7) hk dX10_isStatementLine_21 (by decide) ?_
      refine xicmp_eq hk 34 dX10_isStatementLine_23 (by decide) (fun h23 => ?_) (fun h23 => ?_)
      · rw [if_pos h23] at h
        refine xaload_n hk dX10_isStatementLine_34 rfl ?_
        refine xdup hk dX10_isStatementLine_35 rfl ?_
        refine xgetI (ci := 10) (f := 9) hk dX10_isStatementLine_36 ⟨rfl, by decide, _, rfl, rfl⟩ kX10_236 ?_
        refine xiconst (v := 1) hk dX10_isStatementLine_39 (by decide) ?_
        refine xiadd hk dX10_isStatementLine_40 ?_
        refine xputI (ci := 10) (f := 9) hk dX10_isStatementLine_41 ⟨rfl, by decide, _, rfl, rfl⟩ kX10_236 ⟨rfl, by decide +kernel⟩ ?_
        refine xaload_n hk dX10_isStatementLine_44 rfl ?_
        refine xbipush (v := 40) hk dX10_isStatementLine_45 (by decide) ?_
        refine xiconst (v := 2) hk dX10_isStatementLine_47 (by decide) ?_
        obtain ⟨u48, e48, h⟩ := ob_some h
        refine xcallV hk (c_X10_eatAs e48) bX10_eatAs kX10_260 dX10_isStatementLine_48 rfl ⟨_, _, _, _, rfl, rfl⟩ rfl (by first | decide | omega) ⟨by decide, by decide⟩ (Nat.le_of_ble_eq_true rfl) (det ?_)
        refine xif_ne hk 56 dX10_isStatementLine_51 (by decide) (fun h51 => ?_) (fun h51 => ?_)
        · rw [if_neg h51] at h
          refine xiload_n hk dX10_isStatementLine_56 rfl ?_
          refine xiconst (v := 1) hk dX10_isStatementLine_57 (by decide) ?_
          refine xicmp_ne hk 69 dX10_isStatementLine_58 (by decide) (fun h58 => ?_) (fun h58 => ?_)
          · rw [if_neg h58] at h
            refine xiload_n hk dX10_isStatementLine_69 rfl ?_
            refine xiconst (v := 4) hk dX10_isStatementLine_70 (by decide) ?_
            refine xicmp_ne hk 82 dX10_isStatementLine_71 (by decide) (fun h71 => ?_) (fun h71 => ?_)
            · rw [if_neg h71] at h
              refine xaload_n hk dX10_isStatementLine_82 rfl ?_
              refine xiconst (v := 3) hk dX10_isStatementLine_83 (by decide) ?_
              obtain ⟨u84, e84, h⟩ := ob_some h
              refine xcallV hk (c_X10_isClaimTold e84) bX10_isClaimTold kX10_263 dX10_isStatementLine_84 rfl ⟨_, _, _, _, rfl, rfl⟩ rfl (by first | decide | omega) ⟨by decide, by decide⟩ (Nat.le_of_ble_eq_true rfl) (det ?_)
              refine xif_ne hk 92 dX10_isStatementLine_87 (by decide) (fun h87 => ?_) (fun h87 => ?_)
              · rw [if_neg h87] at h
                refine xiload_n hk dX10_isStatementLine_92 rfl ?_
                refine xbipush (v := 9) hk dX10_isStatementLine_93 (by decide) ?_
                refine xicmp_eq hk 134 dX10_isStatementLine_95 (by decide) (fun h95 => ?_) (fun h95 => ?_)
                · rw [if_pos h95] at h
                  refine xiconst (v := 1) hk dX10_isStatementLine_134 (by decide) ?_
                  refine xgoto hk 139 dX10_isStatementLine_135 (by decide) ?_
                  refine xzret hk he dX10_isStatementLine_139 ⟨by decide, by decide⟩ (by first | with_reducible exact nar_b _ | rfl) ?_
                  obtain rfl := Option.some.inj h
                  exact ⟨rfl, rfl⟩
                · rw [if_neg h95] at h
                  refine xaload_n hk dX10_isStatementLine_98 rfl ?_
                  refine xiload_n hk dX10_isStatementLine_99 rfl ?_
                  refine xiconst (v := 1) hk dX10_isStatementLine_100 (by decide) ?_
                  refine xicmp_ne hk 108 dX10_isStatementLine_101 (by decide) (fun h101 => ?_) (fun h101 => ?_)
                  · rw [if_neg h101] at h
                    refine xiload_n hk dX10_isStatementLine_108 rfl ?_
                    refine xiconst (v := 4) hk dX10_isStatementLine_109 (by decide) ?_
                    refine xicmp_ne hk 118 dX10_isStatementLine_110 (by decide) (fun h110 => ?_) (fun h110 => ?_)
                    · rw [if_neg h110] at h
                      refine xbipush (v := 8) hk dX10_isStatementLine_118 (by decide) ?_
                      obtain ⟨u120, e120, h⟩ := ob_some h
                      refine xcallV hk (c_X10_eat e120) bX10_eat kX10_242 dX10_isStatementLine_120 rfl ⟨_, _, _, _, rfl, rfl⟩ rfl (by first | decide | omega) ⟨by decide, by decide⟩ (Nat.le_of_ble_eq_true rfl) (det ?_)
                      refine xif_eq hk 138 dX10_isStatementLine_123 (by decide) (fun h123 => ?_) (fun h123 => ?_)
                      · rw [if_pos h123] at h
                        refine xiconst (v := 0) hk dX10_isStatementLine_138 (by decide) ?_
                        refine xzret hk he dX10_isStatementLine_139 ⟨by decide, by decide⟩ (by first | with_reducible exact nar_b _ | rfl) ?_
                        obtain rfl := Option.some.inj h
                        exact ⟨rfl, rfl⟩
                      · rw [if_neg h123] at h
                        refine xaload_n hk dX10_isStatementLine_126 rfl ?_
                        refine xiconst (v := 4) hk dX10_isStatementLine_127 (by decide) ?_
                        obtain ⟨u128, e128, h⟩ := ob_some h
                        refine xcallV hk (c_X10_isClaimTold e128) bX10_isClaimTold kX10_263 dX10_isStatementLine_128 rfl ⟨_, _, _, _, rfl, rfl⟩ rfl (by first | decide | omega) ⟨by decide, by decide⟩ (Nat.le_of_ble_eq_true rfl) (det ?_)
                        refine xif_eq hk 138 dX10_isStatementLine_131 (by decide) (fun h131 => ?_) (fun h131 => ?_)
                        · rw [if_pos h131] at h
                          refine xiconst (v := 0) hk dX10_isStatementLine_138 (by decide) ?_
                          refine xzret hk he dX10_isStatementLine_139 ⟨by decide, by decide⟩ (by first | with_reducible exact nar_b _ | rfl) ?_
                          obtain rfl := Option.some.inj h
                          exact ⟨rfl, rfl⟩
                        · rw [if_neg h131] at h
                          refine xiconst (v := 1) hk dX10_isStatementLine_134 (by decide) ?_
                          refine xgoto hk 139 dX10_isStatementLine_135 (by decide) ?_
                          refine xzret hk he dX10_isStatementLine_139 ⟨by decide, by decide⟩ (by first | with_reducible exact nar_b _ | rfl) ?_
                          obtain rfl := Option.some.inj h
                          exact ⟨rfl, rfl⟩
                    · rw [if_pos h110] at h
                      refine xbipush (v := 6) hk dX10_isStatementLine_113 (by decide) ?_
                      refine xgoto hk 120 dX10_isStatementLine_115 (by decide) ?_
                      obtain ⟨u120, e120, h⟩ := ob_some h
                      refine xcallV hk (c_X10_eat e120) bX10_eat kX10_242 dX10_isStatementLine_120 rfl ⟨_, _, _, _, rfl, rfl⟩ rfl (by first | decide | omega) ⟨by decide, by decide⟩ (Nat.le_of_ble_eq_true rfl) (det ?_)
                      refine xif_eq hk 138 dX10_isStatementLine_123 (by decide) (fun h123 => ?_) (fun h123 => ?_)
                      · rw [if_pos h123] at h
                        refine xiconst (v := 0) hk dX10_isStatementLine_138 (by decide) ?_
                        refine xzret hk he dX10_isStatementLine_139 ⟨by decide, by decide⟩ (by first | with_reducible exact nar_b _ | rfl) ?_
                        obtain rfl := Option.some.inj h
                        exact ⟨rfl, rfl⟩
                      · rw [if_neg h123] at h
                        refine xaload_n hk dX10_isStatementLine_126 rfl ?_
                        refine xiconst (v := 4) hk dX10_isStatementLine_127 (by decide) ?_
                        obtain ⟨u128, e128, h⟩ := ob_some h
                        refine xcallV hk (c_X10_isClaimTold e128) bX10_isClaimTold kX10_263 dX10_isStatementLine_128 rfl ⟨_, _, _, _, rfl, rfl⟩ rfl (by first | decide | omega) ⟨by decide, by decide⟩ (Nat.le_of_ble_eq_true rfl) (det ?_)
                        refine xif_eq hk 138 dX10_isStatementLine_131 (by decide) (fun h131 => ?_) (fun h131 => ?_)
                        · rw [if_pos h131] at h
                          refine xiconst (v := 0) hk dX10_isStatementLine_138 (by decide) ?_
                          refine xzret hk he dX10_isStatementLine_139 ⟨by decide, by decide⟩ (by first | with_reducible exact nar_b _ | rfl) ?_
                          obtain rfl := Option.some.inj h
                          exact ⟨rfl, rfl⟩
                        · rw [if_neg h131] at h
                          refine xiconst (v := 1) hk dX10_isStatementLine_134 (by decide) ?_
                          refine xgoto hk 139 dX10_isStatementLine_135 (by decide) ?_
                          refine xzret hk he dX10_isStatementLine_139 ⟨by decide, by decide⟩ (by first | with_reducible exact nar_b _ | rfl) ?_
                          obtain rfl := Option.some.inj h
                          exact ⟨rfl, rfl⟩
                  · rw [if_pos h101] at h
                    refine xiconst (v := 3) hk dX10_isStatementLine_104 (by decide) ?_
                    refine xgoto hk 120 dX10_isStatementLine_105 (by decide) ?_
                    obtain ⟨u120, e120, h⟩ := ob_some h
                    refine xcallV hk (c_X10_eat e120) bX10_eat kX10_242 dX10_isStatementLine_120 rfl ⟨_, _, _, _, rfl, rfl⟩ rfl (by first | decide | omega) ⟨by decide, by decide⟩ (Nat.le_of_ble_eq_true rfl) (det ?_)
                    refine xif_eq hk 138 dX10_isStatementLine_123 (by decide) (fun h123 => ?_) (fun h123 => ?_)
                    · rw [if_pos h123] at h
                      refine xiconst (v := 0) hk dX10_isStatementLine_138 (by decide) ?_
                      refine xzret hk he dX10_isStatementLine_139 ⟨by decide, by decide⟩ (by first | with_reducible exact nar_b _ | rfl) ?_
                      obtain rfl := Option.some.inj h
                      exact ⟨rfl, rfl⟩
                    · rw [if_neg h123] at h
                      refine xaload_n hk dX10_isStatementLine_126 rfl ?_
                      refine xiconst (v := 4) hk dX10_isStatementLine_127 (by decide) ?_
                      obtain ⟨u128, e128, h⟩ := ob_some h
                      refine xcallV hk (c_X10_isClaimTold e128) bX10_isClaimTold kX10_263 dX10_isStatementLine_128 rfl ⟨_, _, _, _, rfl, rfl⟩ rfl (by first | decide | omega) ⟨by decide, by decide⟩ (Nat.le_of_ble_eq_true rfl) (det ?_)
                      refine xif_eq hk 138 dX10_isStatementLine_131 (by decide) (fun h131 => ?_) (fun h131 => ?_)
                      · rw [if_pos h131] at h
                        refine xiconst (v := 0) hk dX10_isStatementLine_138 (by decide) ?_
                        refine xzret hk he dX10_isStatementLine_139 ⟨by decide, by decide⟩ (by first | with_reducible exact nar_b _ | rfl) ?_
                        obtain rfl := Option.some.inj h
                        exact ⟨rfl, rfl⟩
                      · rw [if_neg h131] at h
                        refine xiconst (v := 1) hk dX10_isStatementLine_134 (by decide) ?_
                        refine xgoto hk 139 dX10_isStatementLine_135 (by decide) ?_
                        refine xzret hk he dX10_isStatementLine_139 ⟨by decide, by decide⟩ (by first | with_reducible exact nar_b _ | rfl) ?_
                        obtain rfl := Option.some.inj h
                        exact ⟨rfl, rfl⟩
              · rw [if_pos h87] at h
                refine xiconst (v := 0) hk dX10_isStatementLine_90 (by decide) ?_
                refine xzret hk he dX10_isStatementLine_91 ⟨by decide, by decide⟩ (by first | with_reducible exact nar_b _ | rfl) ?_
                obtain rfl := Option.some.inj h
                exact ⟨rfl, rfl⟩
            · rw [if_pos h71] at h
              refine xaload_n hk dX10_isStatementLine_74 rfl ?_
              refine xiconst (v := 5) hk dX10_isStatementLine_75 (by decide) ?_
              obtain ⟨u76, e76, h⟩ := ob_some h
              refine xcallV hk (c_X10_eat e76) bX10_eat kX10_242 dX10_isStatementLine_76 rfl ⟨_, _, _, _, rfl, rfl⟩ rfl (by first | decide | omega) ⟨by decide, by decide⟩ (Nat.le_of_ble_eq_true rfl) (det ?_)
              refine xif_eq hk 90 dX10_isStatementLine_79 (by decide) (fun h79 => ?_) (fun h79 => ?_)
              · rw [if_pos h79] at h
                refine xiconst (v := 0) hk dX10_isStatementLine_90 (by decide) ?_
                refine xzret hk he dX10_isStatementLine_91 ⟨by decide, by decide⟩ (by first | with_reducible exact nar_b _ | rfl) ?_
                obtain rfl := Option.some.inj h
                exact ⟨rfl, rfl⟩
              · rw [if_neg h79] at h
                refine xaload_n hk dX10_isStatementLine_82 rfl ?_
                refine xiconst (v := 3) hk dX10_isStatementLine_83 (by decide) ?_
                obtain ⟨u84, e84, h⟩ := ob_some h
                refine xcallV hk (c_X10_isClaimTold e84) bX10_isClaimTold kX10_263 dX10_isStatementLine_84 rfl ⟨_, _, _, _, rfl, rfl⟩ rfl (by first | decide | omega) ⟨by decide, by decide⟩ (Nat.le_of_ble_eq_true rfl) (det ?_)
                refine xif_ne hk 92 dX10_isStatementLine_87 (by decide) (fun h87 => ?_) (fun h87 => ?_)
                · rw [if_neg h87] at h
                  refine xiload_n hk dX10_isStatementLine_92 rfl ?_
                  refine xbipush (v := 9) hk dX10_isStatementLine_93 (by decide) ?_
                  refine xicmp_eq hk 134 dX10_isStatementLine_95 (by decide) (fun h95 => ?_) (fun h95 => ?_)
                  · rw [if_pos h95] at h
                    refine xiconst (v := 1) hk dX10_isStatementLine_134 (by decide) ?_
                    refine xgoto hk 139 dX10_isStatementLine_135 (by decide) ?_
                    refine xzret hk he dX10_isStatementLine_139 ⟨by decide, by decide⟩ (by first | with_reducible exact nar_b _ | rfl) ?_
                    obtain rfl := Option.some.inj h
                    exact ⟨rfl, rfl⟩
                  · rw [if_neg h95] at h
                    refine xaload_n hk dX10_isStatementLine_98 rfl ?_
                    refine xiload_n hk dX10_isStatementLine_99 rfl ?_
                    refine xiconst (v := 1) hk dX10_isStatementLine_100 (by decide) ?_
                    refine xicmp_ne hk 108 dX10_isStatementLine_101 (by decide) (fun h101 => ?_) (fun h101 => ?_)
                    · rw [if_neg h101] at h
                      refine xiload_n hk dX10_isStatementLine_108 rfl ?_
                      refine xiconst (v := 4) hk dX10_isStatementLine_109 (by decide) ?_
                      refine xicmp_ne hk 118 dX10_isStatementLine_110 (by decide) (fun h110 => ?_) (fun h110 => ?_)
                      · rw [if_neg h110] at h
                        refine xbipush (v := 8) hk dX10_isStatementLine_118 (by decide) ?_
                        obtain ⟨u120, e120, h⟩ := ob_some h
                        refine xcallV hk (c_X10_eat e120) bX10_eat kX10_242 dX10_isStatementLine_120 rfl ⟨_, _, _, _, rfl, rfl⟩ rfl (by first | decide | omega) ⟨by decide, by decide⟩ (Nat.le_of_ble_eq_true rfl) (det ?_)
                        refine xif_eq hk 138 dX10_isStatementLine_123 (by decide) (fun h123 => ?_) (fun h123 => ?_)
                        · rw [if_pos h123] at h
                          refine xiconst (v := 0) hk dX10_isStatementLine_138 (by decide) ?_
                          refine xzret hk he dX10_isStatementLine_139 ⟨by decide, by decide⟩ (by first | with_reducible exact nar_b _ | rfl) ?_
                          obtain rfl := Option.some.inj h
                          exact ⟨rfl, rfl⟩
                        · rw [if_neg h123] at h
                          refine xaload_n hk dX10_isStatementLine_126 rfl ?_
                          refine xiconst (v := 4) hk dX10_isStatementLine_127 (by decide) ?_
                          obtain ⟨u128, e128, h⟩ := ob_some h
                          refine xcallV hk (c_X10_isClaimTold e128) bX10_isClaimTold kX10_263 dX10_isStatementLine_128 rfl ⟨_, _, _, _, rfl, rfl⟩ rfl (by first | decide | omega) ⟨by decide, by decide⟩ (Nat.le_of_ble_eq_true rfl) (det ?_)
                          refine xif_eq hk 138 dX10_isStatementLine_131 (by decide) (fun h131 => ?_) (fun h131 => ?_)
                          · rw [if_pos h131] at h
                            refine xiconst (v := 0) hk dX10_isStatementLine_138 (by decide) ?_
                            refine xzret hk he dX10_isStatementLine_139 ⟨by decide, by decide⟩ (by first | with_reducible exact nar_b _ | rfl) ?_
                            obtain rfl := Option.some.inj h
                            exact ⟨rfl, rfl⟩
                          · rw [if_neg h131] at h
                            refine xiconst (v := 1) hk dX10_isStatementLine_134 (by decide) ?_
                            refine xgoto hk 139 dX10_isStatementLine_135 (by decide) ?_
                            refine xzret hk he dX10_isStatementLine_139 ⟨by decide, by decide⟩ (by first | with_reducible exact nar_b _ | rfl) ?_
                            obtain rfl := Option.some.inj h
                            exact ⟨rfl, rfl⟩
                      · rw [if_pos h110] at h
                        refine xbipush (v := 6) hk dX10_isStatementLine_113 (by decide) ?_
                        refine xgoto hk 120 dX10_isStatementLine_115 (by decide) ?_
                        obtain ⟨u120, e120, h⟩ := ob_some h
                        refine xcallV hk (c_X10_eat e120) bX10_eat kX10_242 dX10_isStatementLine_120 rfl ⟨_, _, _, _, rfl, rfl⟩ rfl (by first | decide | omega) ⟨by decide, by decide⟩ (Nat.le_of_ble_eq_true rfl) (det ?_)
                        refine xif_eq hk 138 dX10_isStatementLine_123 (by decide) (fun h123 => ?_) (fun h123 => ?_)
                        · rw [if_pos h123] at h
                          refine xiconst (v := 0) hk dX10_isStatementLine_138 (by decide) ?_
                          refine xzret hk he dX10_isStatementLine_139 ⟨by decide, by decide⟩ (by first | with_reducible exact nar_b _ | rfl) ?_
                          obtain rfl := Option.some.inj h
                          exact ⟨rfl, rfl⟩
                        · rw [if_neg h123] at h
                          refine xaload_n hk dX10_isStatementLine_126 rfl ?_
                          refine xiconst (v := 4) hk dX10_isStatementLine_127 (by decide) ?_
                          obtain ⟨u128, e128, h⟩ := ob_some h
                          refine xcallV hk (c_X10_isClaimTold e128) bX10_isClaimTold kX10_263 dX10_isStatementLine_128 rfl ⟨_, _, _, _, rfl, rfl⟩ rfl (by first | decide | omega) ⟨by decide, by decide⟩ (Nat.le_of_ble_eq_true rfl) (det ?_)
                          refine xif_eq hk 138 dX10_isStatementLine_131 (by decide) (fun h131 => ?_) (fun h131 => ?_)
                          · rw [if_pos h131] at h
                            refine xiconst (v := 0) hk dX10_isStatementLine_138 (by decide) ?_
                            refine xzret hk he dX10_isStatementLine_139 ⟨by decide, by decide⟩ (by first | with_reducible exact nar_b _ | rfl) ?_
                            obtain rfl := Option.some.inj h
                            exact ⟨rfl, rfl⟩
                          · rw [if_neg h131] at h
                            refine xiconst (v := 1) hk dX10_isStatementLine_134 (by decide) ?_
                            refine xgoto hk 139 dX10_isStatementLine_135 (by decide) ?_
                            refine xzret hk he dX10_isStatementLine_139 ⟨by decide, by decide⟩ (by first | with_reducible exact nar_b _ | rfl) ?_
                            obtain rfl := Option.some.inj h
                            exact ⟨rfl, rfl⟩
                    · rw [if_pos h101] at h
                      refine xiconst (v := 3) hk dX10_isStatementLine_104 (by decide) ?_
                      refine xgoto hk 120 dX10_isStatementLine_105 (by decide) ?_
                      obtain ⟨u120, e120, h⟩ := ob_some h
                      refine xcallV hk (c_X10_eat e120) bX10_eat kX10_242 dX10_isStatementLine_120 rfl ⟨_, _, _, _, rfl, rfl⟩ rfl (by first | decide | omega) ⟨by decide, by decide⟩ (Nat.le_of_ble_eq_true rfl) (det ?_)
                      refine xif_eq hk 138 dX10_isStatementLine_123 (by decide) (fun h123 => ?_) (fun h123 => ?_)
                      · rw [if_pos h123] at h
                        refine xiconst (v := 0) hk dX10_isStatementLine_138 (by decide) ?_
                        refine xzret hk he dX10_isStatementLine_139 ⟨by decide, by decide⟩ (by first | with_reducible exact nar_b _ | rfl) ?_
                        obtain rfl := Option.some.inj h
                        exact ⟨rfl, rfl⟩
                      · rw [if_neg h123] at h
                        refine xaload_n hk dX10_isStatementLine_126 rfl ?_
                        refine xiconst (v := 4) hk dX10_isStatementLine_127 (by decide) ?_
                        obtain ⟨u128, e128, h⟩ := ob_some h
                        refine xcallV hk (c_X10_isClaimTold e128) bX10_isClaimTold kX10_263 dX10_isStatementLine_128 rfl ⟨_, _, _, _, rfl, rfl⟩ rfl (by first | decide | omega) ⟨by decide, by decide⟩ (Nat.le_of_ble_eq_true rfl) (det ?_)
                        refine xif_eq hk 138 dX10_isStatementLine_131 (by decide) (fun h131 => ?_) (fun h131 => ?_)
                        · rw [if_pos h131] at h
                          refine xiconst (v := 0) hk dX10_isStatementLine_138 (by decide) ?_
                          refine xzret hk he dX10_isStatementLine_139 ⟨by decide, by decide⟩ (by first | with_reducible exact nar_b _ | rfl) ?_
                          obtain rfl := Option.some.inj h
                          exact ⟨rfl, rfl⟩
                        · rw [if_neg h131] at h
                          refine xiconst (v := 1) hk dX10_isStatementLine_134 (by decide) ?_
                          refine xgoto hk 139 dX10_isStatementLine_135 (by decide) ?_
                          refine xzret hk he dX10_isStatementLine_139 ⟨by decide, by decide⟩ (by first | with_reducible exact nar_b _ | rfl) ?_
                          obtain rfl := Option.some.inj h
                          exact ⟨rfl, rfl⟩
                · rw [if_pos h87] at h
                  refine xiconst (v := 0) hk dX10_isStatementLine_90 (by decide) ?_
                  refine xzret hk he dX10_isStatementLine_91 ⟨by decide, by decide⟩ (by first | with_reducible exact nar_b _ | rfl) ?_
                  obtain rfl := Option.some.inj h
                  exact ⟨rfl, rfl⟩
          · rw [if_pos h58] at h
            refine xaload_n hk dX10_isStatementLine_61 rfl ?_
            refine xiconst (v := 2) hk dX10_isStatementLine_62 (by decide) ?_
            obtain ⟨u63, e63, h⟩ := ob_some h
            refine xcallV hk (c_X10_eat e63) bX10_eat kX10_242 dX10_isStatementLine_63 rfl ⟨_, _, _, _, rfl, rfl⟩ rfl (by first | decide | omega) ⟨by decide, by decide⟩ (Nat.le_of_ble_eq_true rfl) (det ?_)
            refine xif_eq hk 90 dX10_isStatementLine_66 (by decide) (fun h66 => ?_) (fun h66 => ?_)
            · rw [if_pos h66] at h
              refine xiconst (v := 0) hk dX10_isStatementLine_90 (by decide) ?_
              refine xzret hk he dX10_isStatementLine_91 ⟨by decide, by decide⟩ (by first | with_reducible exact nar_b _ | rfl) ?_
              obtain rfl := Option.some.inj h
              exact ⟨rfl, rfl⟩
            · rw [if_neg h66] at h
              refine xiload_n hk dX10_isStatementLine_69 rfl ?_
              refine xiconst (v := 4) hk dX10_isStatementLine_70 (by decide) ?_
              refine xicmp_ne hk 82 dX10_isStatementLine_71 (by decide) (fun h71 => ?_) (fun h71 => ?_)
              · rw [if_neg h71] at h
                refine xaload_n hk dX10_isStatementLine_82 rfl ?_
                refine xiconst (v := 3) hk dX10_isStatementLine_83 (by decide) ?_
                obtain ⟨u84, e84, h⟩ := ob_some h
                refine xcallV hk (c_X10_isClaimTold e84) bX10_isClaimTold kX10_263 dX10_isStatementLine_84 rfl ⟨_, _, _, _, rfl, rfl⟩ rfl (by first | decide | omega) ⟨by decide, by decide⟩ (Nat.le_of_ble_eq_true rfl) (det ?_)
                refine xif_ne hk 92 dX10_isStatementLine_87 (by decide) (fun h87 => ?_) (fun h87 => ?_)
                · rw [if_neg h87] at h
                  refine xiload_n hk dX10_isStatementLine_92 rfl ?_
                  refine xbipush (v := 9) hk dX10_isStatementLine_93 (by decide) ?_
                  refine xicmp_eq hk 134 dX10_isStatementLine_95 (by decide) (fun h95 => ?_) (fun h95 => ?_)
                  · rw [if_pos h95] at h
                    refine xiconst (v := 1) hk dX10_isStatementLine_134 (by decide) ?_
                    refine xgoto hk 139 dX10_isStatementLine_135 (by decide) ?_
                    refine xzret hk he dX10_isStatementLine_139 ⟨by decide, by decide⟩ (by first | with_reducible exact nar_b _ | rfl) ?_
                    obtain rfl := Option.some.inj h
                    exact ⟨rfl, rfl⟩
                  · rw [if_neg h95] at h
                    refine xaload_n hk dX10_isStatementLine_98 rfl ?_
                    refine xiload_n hk dX10_isStatementLine_99 rfl ?_
                    refine xiconst (v := 1) hk dX10_isStatementLine_100 (by decide) ?_
                    refine xicmp_ne hk 108 dX10_isStatementLine_101 (by decide) (fun h101 => ?_) (fun h101 => ?_)
                    · rw [if_neg h101] at h
                      refine xiload_n hk dX10_isStatementLine_108 rfl ?_
                      refine xiconst (v := 4) hk dX10_isStatementLine_109 (by decide) ?_
                      refine xicmp_ne hk 118 dX10_isStatementLine_110 (by decide) (fun h110 => ?_) (fun h110 => ?_)
                      · rw [if_neg h110] at h
                        refine xbipush (v := 8) hk dX10_isStatementLine_118 (by decide) ?_
                        obtain ⟨u120, e120, h⟩ := ob_some h
                        refine xcallV hk (c_X10_eat e120) bX10_eat kX10_242 dX10_isStatementLine_120 rfl ⟨_, _, _, _, rfl, rfl⟩ rfl (by first | decide | omega) ⟨by decide, by decide⟩ (Nat.le_of_ble_eq_true rfl) (det ?_)
                        refine xif_eq hk 138 dX10_isStatementLine_123 (by decide) (fun h123 => ?_) (fun h123 => ?_)
                        · rw [if_pos h123] at h
                          refine xiconst (v := 0) hk dX10_isStatementLine_138 (by decide) ?_
                          refine xzret hk he dX10_isStatementLine_139 ⟨by decide, by decide⟩ (by first | with_reducible exact nar_b _ | rfl) ?_
                          obtain rfl := Option.some.inj h
                          exact ⟨rfl, rfl⟩
                        · rw [if_neg h123] at h
                          refine xaload_n hk dX10_isStatementLine_126 rfl ?_
                          refine xiconst (v := 4) hk dX10_isStatementLine_127 (by decide) ?_
                          obtain ⟨u128, e128, h⟩ := ob_some h
                          refine xcallV hk (c_X10_isClaimTold e128) bX10_isClaimTold kX10_263 dX10_isStatementLine_128 rfl ⟨_, _, _, _, rfl, rfl⟩ rfl (by first | decide | omega) ⟨by decide, by decide⟩ (Nat.le_of_ble_eq_true rfl) (det ?_)
                          refine xif_eq hk 138 dX10_isStatementLine_131 (by decide) (fun h131 => ?_) (fun h131 => ?_)
                          · rw [if_pos h131] at h
                            refine xiconst (v := 0) hk dX10_isStatementLine_138 (by decide) ?_
                            refine xzret hk he dX10_isStatementLine_139 ⟨by decide, by decide⟩ (by first | with_reducible exact nar_b _ | rfl) ?_
                            obtain rfl := Option.some.inj h
                            exact ⟨rfl, rfl⟩
                          · rw [if_neg h131] at h
                            refine xiconst (v := 1) hk dX10_isStatementLine_134 (by decide) ?_
                            refine xgoto hk 139 dX10_isStatementLine_135 (by decide) ?_
                            refine xzret hk he dX10_isStatementLine_139 ⟨by decide, by decide⟩ (by first | with_reducible exact nar_b _ | rfl) ?_
                            obtain rfl := Option.some.inj h
                            exact ⟨rfl, rfl⟩
                      · rw [if_pos h110] at h
                        refine xbipush (v := 6) hk dX10_isStatementLine_113 (by decide) ?_
                        refine xgoto hk 120 dX10_isStatementLine_115 (by decide) ?_
                        obtain ⟨u120, e120, h⟩ := ob_some h
                        refine xcallV hk (c_X10_eat e120) bX10_eat kX10_242 dX10_isStatementLine_120 rfl ⟨_, _, _, _, rfl, rfl⟩ rfl (by first | decide | omega) ⟨by decide, by decide⟩ (Nat.le_of_ble_eq_true rfl) (det ?_)
                        refine xif_eq hk 138 dX10_isStatementLine_123 (by decide) (fun h123 => ?_) (fun h123 => ?_)
                        · rw [if_pos h123] at h
                          refine xiconst (v := 0) hk dX10_isStatementLine_138 (by decide) ?_
                          refine xzret hk he dX10_isStatementLine_139 ⟨by decide, by decide⟩ (by first | with_reducible exact nar_b _ | rfl) ?_
                          obtain rfl := Option.some.inj h
                          exact ⟨rfl, rfl⟩
                        · rw [if_neg h123] at h
                          refine xaload_n hk dX10_isStatementLine_126 rfl ?_
                          refine xiconst (v := 4) hk dX10_isStatementLine_127 (by decide) ?_
                          obtain ⟨u128, e128, h⟩ := ob_some h
                          refine xcallV hk (c_X10_isClaimTold e128) bX10_isClaimTold kX10_263 dX10_isStatementLine_128 rfl ⟨_, _, _, _, rfl, rfl⟩ rfl (by first | decide | omega) ⟨by decide, by decide⟩ (Nat.le_of_ble_eq_true rfl) (det ?_)
                          refine xif_eq hk 138 dX10_isStatementLine_131 (by decide) (fun h131 => ?_) (fun h131 => ?_)
                          · rw [if_pos h131] at h
                            refine xiconst (v := 0) hk dX10_isStatementLine_138 (by decide) ?_
                            refine xzret hk he dX10_isStatementLine_139 ⟨by decide, by decide⟩ (by first | with_reducible exact nar_b _ | rfl) ?_
                            obtain rfl := Option.some.inj h
                            exact ⟨rfl, rfl⟩
                          · rw [if_neg h131] at h
                            refine xiconst (v := 1) hk dX10_isStatementLine_134 (by decide) ?_
                            refine xgoto hk 139 dX10_isStatementLine_135 (by decide) ?_
                            refine xzret hk he dX10_isStatementLine_139 ⟨by decide, by decide⟩ (by first | with_reducible exact nar_b _ | rfl) ?_
                            obtain rfl := Option.some.inj h
                            exact ⟨rfl, rfl⟩
                    · rw [if_pos h101] at h
                      refine xiconst (v := 3) hk dX10_isStatementLine_104 (by decide) ?_
                      refine xgoto hk 120 dX10_isStatementLine_105 (by decide) ?_
                      obtain ⟨u120, e120, h⟩ := ob_some h
                      refine xcallV hk (c_X10_eat e120) bX10_eat kX10_242 dX10_isStatementLine_120 rfl ⟨_, _, _, _, rfl, rfl⟩ rfl (by first | decide | omega) ⟨by decide, by decide⟩ (Nat.le_of_ble_eq_true rfl) (det ?_)
                      refine xif_eq hk 138 dX10_isStatementLine_123 (by decide) (fun h123 => ?_) (fun h123 => ?_)
                      · rw [if_pos h123] at h
                        refine xiconst (v := 0) hk dX10_isStatementLine_138 (by decide) ?_
                        refine xzret hk he dX10_isStatementLine_139 ⟨by decide, by decide⟩ (by first | with_reducible exact nar_b _ | rfl) ?_
                        obtain rfl := Option.some.inj h
                        exact ⟨rfl, rfl⟩
                      · rw [if_neg h123] at h
                        refine xaload_n hk dX10_isStatementLine_126 rfl ?_
                        refine xiconst (v := 4) hk dX10_isStatementLine_127 (by decide) ?_
                        obtain ⟨u128, e128, h⟩ := ob_some h
                        refine xcallV hk (c_X10_isClaimTold e128) bX10_isClaimTold kX10_263 dX10_isStatementLine_128 rfl ⟨_, _, _, _, rfl, rfl⟩ rfl (by first | decide | omega) ⟨by decide, by decide⟩ (Nat.le_of_ble_eq_true rfl) (det ?_)
                        refine xif_eq hk 138 dX10_isStatementLine_131 (by decide) (fun h131 => ?_) (fun h131 => ?_)
                        · rw [if_pos h131] at h
                          refine xiconst (v := 0) hk dX10_isStatementLine_138 (by decide) ?_
                          refine xzret hk he dX10_isStatementLine_139 ⟨by decide, by decide⟩ (by first | with_reducible exact nar_b _ | rfl) ?_
                          obtain rfl := Option.some.inj h
                          exact ⟨rfl, rfl⟩
                        · rw [if_neg h131] at h
                          refine xiconst (v := 1) hk dX10_isStatementLine_134 (by decide) ?_
                          refine xgoto hk 139 dX10_isStatementLine_135 (by decide) ?_
                          refine xzret hk he dX10_isStatementLine_139 ⟨by decide, by decide⟩ (by first | with_reducible exact nar_b _ | rfl) ?_
                          obtain rfl := Option.some.inj h
                          exact ⟨rfl, rfl⟩
                · rw [if_pos h87] at h
                  refine xiconst (v := 0) hk dX10_isStatementLine_90 (by decide) ?_
                  refine xzret hk he dX10_isStatementLine_91 ⟨by decide, by decide⟩ (by first | with_reducible exact nar_b _ | rfl) ?_
                  obtain rfl := Option.some.inj h
                  exact ⟨rfl, rfl⟩
              · rw [if_pos h71] at h
                refine xaload_n hk dX10_isStatementLine_74 rfl ?_
                refine xiconst (v := 5) hk dX10_isStatementLine_75 (by decide) ?_
                obtain ⟨u76, e76, h⟩ := ob_some h
                refine xcallV hk (c_X10_eat e76) bX10_eat kX10_242 dX10_isStatementLine_76 rfl ⟨_, _, _, _, rfl, rfl⟩ rfl (by first | decide | omega) ⟨by decide, by decide⟩ (Nat.le_of_ble_eq_true rfl) (det ?_)
                refine xif_eq hk 90 dX10_isStatementLine_79 (by decide) (fun h79 => ?_) (fun h79 => ?_)
                · rw [if_pos h79] at h
                  refine xiconst (v := 0) hk dX10_isStatementLine_90 (by decide) ?_
                  refine xzret hk he dX10_isStatementLine_91 ⟨by decide, by decide⟩ (by first | with_reducible exact nar_b _ | rfl) ?_
                  obtain rfl := Option.some.inj h
                  exact ⟨rfl, rfl⟩
                · rw [if_neg h79] at h
                  refine xaload_n hk dX10_isStatementLine_82 rfl ?_
                  refine xiconst (v := 3) hk dX10_isStatementLine_83 (by decide) ?_
                  obtain ⟨u84, e84, h⟩ := ob_some h
                  refine xcallV hk (c_X10_isClaimTold e84) bX10_isClaimTold kX10_263 dX10_isStatementLine_84 rfl ⟨_, _, _, _, rfl, rfl⟩ rfl (by first | decide | omega) ⟨by decide, by decide⟩ (Nat.le_of_ble_eq_true rfl) (det ?_)
                  refine xif_ne hk 92 dX10_isStatementLine_87 (by decide) (fun h87 => ?_) (fun h87 => ?_)
                  · rw [if_neg h87] at h
                    refine xiload_n hk dX10_isStatementLine_92 rfl ?_
                    refine xbipush (v := 9) hk dX10_isStatementLine_93 (by decide) ?_
                    refine xicmp_eq hk 134 dX10_isStatementLine_95 (by decide) (fun h95 => ?_) (fun h95 => ?_)
                    · rw [if_pos h95] at h
                      refine xiconst (v := 1) hk dX10_isStatementLine_134 (by decide) ?_
                      refine xgoto hk 139 dX10_isStatementLine_135 (by decide) ?_
                      refine xzret hk he dX10_isStatementLine_139 ⟨by decide, by decide⟩ (by first | with_reducible exact nar_b _ | rfl) ?_
                      obtain rfl := Option.some.inj h
                      exact ⟨rfl, rfl⟩
                    · rw [if_neg h95] at h
                      refine xaload_n hk dX10_isStatementLine_98 rfl ?_
                      refine xiload_n hk dX10_isStatementLine_99 rfl ?_
                      refine xiconst (v := 1) hk dX10_isStatementLine_100 (by decide) ?_
                      refine xicmp_ne hk 108 dX10_isStatementLine_101 (by decide) (fun h101 => ?_) (fun h101 => ?_)
                      · rw [if_neg h101] at h
                        refine xiload_n hk dX10_isStatementLine_108 rfl ?_
                        refine xiconst (v := 4) hk dX10_isStatementLine_109 (by decide) ?_
                        refine xicmp_ne hk 118 dX10_isStatementLine_110 (by decide) (fun h110 => ?_) (fun h110 => ?_)
                        · rw [if_neg h110] at h
                          refine xbipush (v := 8) hk dX10_isStatementLine_118 (by decide) ?_
                          obtain ⟨u120, e120, h⟩ := ob_some h
                          refine xcallV hk (c_X10_eat e120) bX10_eat kX10_242 dX10_isStatementLine_120 rfl ⟨_, _, _, _, rfl, rfl⟩ rfl (by first | decide | omega) ⟨by decide, by decide⟩ (Nat.le_of_ble_eq_true rfl) (det ?_)
                          refine xif_eq hk 138 dX10_isStatementLine_123 (by decide) (fun h123 => ?_) (fun h123 => ?_)
                          · rw [if_pos h123] at h
                            refine xiconst (v := 0) hk dX10_isStatementLine_138 (by decide) ?_
                            refine xzret hk he dX10_isStatementLine_139 ⟨by decide, by decide⟩ (by first | with_reducible exact nar_b _ | rfl) ?_
                            obtain rfl := Option.some.inj h
                            exact ⟨rfl, rfl⟩
                          · rw [if_neg h123] at h
                            refine xaload_n hk dX10_isStatementLine_126 rfl ?_
                            refine xiconst (v := 4) hk dX10_isStatementLine_127 (by decide) ?_
                            obtain ⟨u128, e128, h⟩ := ob_some h
                            refine xcallV hk (c_X10_isClaimTold e128) bX10_isClaimTold kX10_263 dX10_isStatementLine_128 rfl ⟨_, _, _, _, rfl, rfl⟩ rfl (by first | decide | omega) ⟨by decide, by decide⟩ (Nat.le_of_ble_eq_true rfl) (det ?_)
                            refine xif_eq hk 138 dX10_isStatementLine_131 (by decide) (fun h131 => ?_) (fun h131 => ?_)
                            · rw [if_pos h131] at h
                              refine xiconst (v := 0) hk dX10_isStatementLine_138 (by decide) ?_
                              refine xzret hk he dX10_isStatementLine_139 ⟨by decide, by decide⟩ (by first | with_reducible exact nar_b _ | rfl) ?_
                              obtain rfl := Option.some.inj h
                              exact ⟨rfl, rfl⟩
                            · rw [if_neg h131] at h
                              refine xiconst (v := 1) hk dX10_isStatementLine_134 (by decide) ?_
                              refine xgoto hk 139 dX10_isStatementLine_135 (by decide) ?_
                              refine xzret hk he dX10_isStatementLine_139 ⟨by decide, by decide⟩ (by first | with_reducible exact nar_b _ | rfl) ?_
                              obtain rfl := Option.some.inj h
                              exact ⟨rfl, rfl⟩
                        · rw [if_pos h110] at h
                          refine xbipush (v := 6) hk dX10_isStatementLine_113 (by decide) ?_
                          refine xgoto hk 120 dX10_isStatementLine_115 (by decide) ?_
                          obtain ⟨u120, e120, h⟩ := ob_some h
                          refine xcallV hk (c_X10_eat e120) bX10_eat kX10_242 dX10_isStatementLine_120 rfl ⟨_, _, _, _, rfl, rfl⟩ rfl (by first | decide | omega) ⟨by decide, by decide⟩ (Nat.le_of_ble_eq_true rfl) (det ?_)
                          refine xif_eq hk 138 dX10_isStatementLine_123 (by decide) (fun h123 => ?_) (fun h123 => ?_)
                          · rw [if_pos h123] at h
                            refine xiconst (v := 0) hk dX10_isStatementLine_138 (by decide) ?_
                            refine xzret hk he dX10_isStatementLine_139 ⟨by decide, by decide⟩ (by first | with_reducible exact nar_b _ | rfl) ?_
                            obtain rfl := Option.some.inj h
                            exact ⟨rfl, rfl⟩
                          · rw [if_neg h123] at h
                            refine xaload_n hk dX10_isStatementLine_126 rfl ?_
                            refine xiconst (v := 4) hk dX10_isStatementLine_127 (by decide) ?_
                            obtain ⟨u128, e128, h⟩ := ob_some h
                            refine xcallV hk (c_X10_isClaimTold e128) bX10_isClaimTold kX10_263 dX10_isStatementLine_128 rfl ⟨_, _, _, _, rfl, rfl⟩ rfl (by first | decide | omega) ⟨by decide, by decide⟩ (Nat.le_of_ble_eq_true rfl) (det ?_)
                            refine xif_eq hk 138 dX10_isStatementLine_131 (by decide) (fun h131 => ?_) (fun h131 => ?_)
                            · rw [if_pos h131] at h
                              refine xiconst (v := 0) hk dX10_isStatementLine_138 (by decide) ?_
                              refine xzret hk he dX10_isStatementLine_139 ⟨by decide, by decide⟩ (by first | with_reducible exact nar_b _ | rfl) ?_
                              obtain rfl := Option.some.inj h
                              exact ⟨rfl, rfl⟩
                            · rw [if_neg h131] at h
                              refine xiconst (v := 1) hk dX10_isStatementLine_134 (by decide) ?_
                              refine xgoto hk 139 dX10_isStatementLine_135 (by decide) ?_
                              refine xzret hk he dX10_isStatementLine_139 ⟨by decide, by decide⟩ (by first | with_reducible exact nar_b _ | rfl) ?_
                              obtain rfl := Option.some.inj h
                              exact ⟨rfl, rfl⟩
                      · rw [if_pos h101] at h
                        refine xiconst (v := 3) hk dX10_isStatementLine_104 (by decide) ?_
                        refine xgoto hk 120 dX10_isStatementLine_105 (by decide) ?_
                        obtain ⟨u120, e120, h⟩ := ob_some h
                        refine xcallV hk (c_X10_eat e120) bX10_eat kX10_242 dX10_isStatementLine_120 rfl ⟨_, _, _, _, rfl, rfl⟩ rfl (by first | decide | omega) ⟨by decide, by decide⟩ (Nat.le_of_ble_eq_true rfl) (det ?_)
                        refine xif_eq hk 138 dX10_isStatementLine_123 (by decide) (fun h123 => ?_) (fun h123 => ?_)
                        · rw [if_pos h123] at h
                          refine xiconst (v := 0) hk dX10_isStatementLine_138 (by decide) ?_
                          refine xzret hk he dX10_isStatementLine_139 ⟨by decide, by decide⟩ (by first | with_reducible exact nar_b _ | rfl) ?_
                          obtain rfl := Option.some.inj h
                          exact ⟨rfl, rfl⟩
                        · rw [if_neg h123] at h
                          refine xaload_n hk dX10_isStatementLine_126 rfl ?_
                          refine xiconst (v := 4) hk dX10_isStatementLine_127 (by decide) ?_
                          obtain ⟨u128, e128, h⟩ := ob_some h
                          refine xcallV hk (c_X10_isClaimTold e128) bX10_isClaimTold kX10_263 dX10_isStatementLine_128 rfl ⟨_, _, _, _, rfl, rfl⟩ rfl (by first | decide | omega) ⟨by decide, by decide⟩ (Nat.le_of_ble_eq_true rfl) (det ?_)
                          refine xif_eq hk 138 dX10_isStatementLine_131 (by decide) (fun h131 => ?_) (fun h131 => ?_)
                          · rw [if_pos h131] at h
                            refine xiconst (v := 0) hk dX10_isStatementLine_138 (by decide) ?_
                            refine xzret hk he dX10_isStatementLine_139 ⟨by decide, by decide⟩ (by first | with_reducible exact nar_b _ | rfl) ?_
                            obtain rfl := Option.some.inj h
                            exact ⟨rfl, rfl⟩
                          · rw [if_neg h131] at h
                            refine xiconst (v := 1) hk dX10_isStatementLine_134 (by decide) ?_
                            refine xgoto hk 139 dX10_isStatementLine_135 (by decide) ?_
                            refine xzret hk he dX10_isStatementLine_139 ⟨by decide, by decide⟩ (by first | with_reducible exact nar_b _ | rfl) ?_
                            obtain rfl := Option.some.inj h
                            exact ⟨rfl, rfl⟩
                  · rw [if_pos h87] at h
                    refine xiconst (v := 0) hk dX10_isStatementLine_90 (by decide) ?_
                    refine xzret hk he dX10_isStatementLine_91 ⟨by decide, by decide⟩ (by first | with_reducible exact nar_b _ | rfl) ?_
                    obtain rfl := Option.some.inj h
                    exact ⟨rfl, rfl⟩
        · rw [if_pos h51] at h
          refine xiconst (v := 0) hk dX10_isStatementLine_54 (by decide) ?_
          refine xzret hk he dX10_isStatementLine_55 ⟨by decide, by decide⟩ (by first | with_reducible exact nar_b _ | rfl) ?_
          obtain rfl := Option.some.inj h
          exact ⟨rfl, rfl⟩
      · rw [if_neg h23] at h
        refine xiload_n hk dX10_isStatementLine_26 rfl ?_
        refine xbipush (v := 9) hk dX10_isStatementLine_27 (by decide) ?_
        refine xicmp_eq hk 34 dX10_isStatementLine_29 (by decide) (fun h29 => ?_) (fun h29 => ?_)
        · rw [if_pos h29] at h
          refine xaload_n hk dX10_isStatementLine_34 rfl ?_
          refine xdup hk dX10_isStatementLine_35 rfl ?_
          refine xgetI (ci := 10) (f := 9) hk dX10_isStatementLine_36 ⟨rfl, by decide, _, rfl, rfl⟩ kX10_236 ?_
          refine xiconst (v := 1) hk dX10_isStatementLine_39 (by decide) ?_
          refine xiadd hk dX10_isStatementLine_40 ?_
          refine xputI (ci := 10) (f := 9) hk dX10_isStatementLine_41 ⟨rfl, by decide, _, rfl, rfl⟩ kX10_236 ⟨rfl, by decide +kernel⟩ ?_
          refine xaload_n hk dX10_isStatementLine_44 rfl ?_
          refine xbipush (v := 40) hk dX10_isStatementLine_45 (by decide) ?_
          refine xiconst (v := 2) hk dX10_isStatementLine_47 (by decide) ?_
          obtain ⟨u48, e48, h⟩ := ob_some h
          refine xcallV hk (c_X10_eatAs e48) bX10_eatAs kX10_260 dX10_isStatementLine_48 rfl ⟨_, _, _, _, rfl, rfl⟩ rfl (by first | decide | omega) ⟨by decide, by decide⟩ (Nat.le_of_ble_eq_true rfl) (det ?_)
          refine xif_ne hk 56 dX10_isStatementLine_51 (by decide) (fun h51 => ?_) (fun h51 => ?_)
          · rw [if_neg h51] at h
            refine xiload_n hk dX10_isStatementLine_56 rfl ?_
            refine xiconst (v := 1) hk dX10_isStatementLine_57 (by decide) ?_
            refine xicmp_ne hk 69 dX10_isStatementLine_58 (by decide) (fun h58 => ?_) (fun h58 => ?_)
            · rw [if_neg h58] at h
              refine xiload_n hk dX10_isStatementLine_69 rfl ?_
              refine xiconst (v := 4) hk dX10_isStatementLine_70 (by decide) ?_
              refine xicmp_ne hk 82 dX10_isStatementLine_71 (by decide) (fun h71 => ?_) (fun h71 => ?_)
              · rw [if_neg h71] at h
                refine xaload_n hk dX10_isStatementLine_82 rfl ?_
                refine xiconst (v := 3) hk dX10_isStatementLine_83 (by decide) ?_
                obtain ⟨u84, e84, h⟩ := ob_some h
                refine xcallV hk (c_X10_isClaimTold e84) bX10_isClaimTold kX10_263 dX10_isStatementLine_84 rfl ⟨_, _, _, _, rfl, rfl⟩ rfl (by first | decide | omega) ⟨by decide, by decide⟩ (Nat.le_of_ble_eq_true rfl) (det ?_)
                refine xif_ne hk 92 dX10_isStatementLine_87 (by decide) (fun h87 => ?_) (fun h87 => ?_)
                · rw [if_neg h87] at h
                  refine xiload_n hk dX10_isStatementLine_92 rfl ?_
                  refine xbipush (v := 9) hk dX10_isStatementLine_93 (by decide) ?_
                  refine xicmp_eq hk 134 dX10_isStatementLine_95 (by decide) (fun h95 => ?_) (fun h95 => ?_)
                  · rw [if_pos h95] at h
                    refine xiconst (v := 1) hk dX10_isStatementLine_134 (by decide) ?_
                    refine xgoto hk 139 dX10_isStatementLine_135 (by decide) ?_
                    refine xzret hk he dX10_isStatementLine_139 ⟨by decide, by decide⟩ (by first | with_reducible exact nar_b _ | rfl) ?_
                    obtain rfl := Option.some.inj h
                    exact ⟨rfl, rfl⟩
                  · rw [if_neg h95] at h
                    refine xaload_n hk dX10_isStatementLine_98 rfl ?_
                    refine xiload_n hk dX10_isStatementLine_99 rfl ?_
                    refine xiconst (v := 1) hk dX10_isStatementLine_100 (by decide) ?_
                    refine xicmp_ne hk 108 dX10_isStatementLine_101 (by decide) (fun h101 => ?_) (fun h101 => ?_)
                    · rw [if_neg h101] at h
                      refine xiload_n hk dX10_isStatementLine_108 rfl ?_
                      refine xiconst (v := 4) hk dX10_isStatementLine_109 (by decide) ?_
                      refine xicmp_ne hk 118 dX10_isStatementLine_110 (by decide) (fun h110 => ?_) (fun h110 => ?_)
                      · rw [if_neg h110] at h
                        refine xbipush (v := 8) hk dX10_isStatementLine_118 (by decide) ?_
                        obtain ⟨u120, e120, h⟩ := ob_some h
                        refine xcallV hk (c_X10_eat e120) bX10_eat kX10_242 dX10_isStatementLine_120 rfl ⟨_, _, _, _, rfl, rfl⟩ rfl (by first | decide | omega) ⟨by decide, by decide⟩ (Nat.le_of_ble_eq_true rfl) (det ?_)
                        refine xif_eq hk 138 dX10_isStatementLine_123 (by decide) (fun h123 => ?_) (fun h123 => ?_)
                        · rw [if_pos h123] at h
                          refine xiconst (v := 0) hk dX10_isStatementLine_138 (by decide) ?_
                          refine xzret hk he dX10_isStatementLine_139 ⟨by decide, by decide⟩ (by first | with_reducible exact nar_b _ | rfl) ?_
                          obtain rfl := Option.some.inj h
                          exact ⟨rfl, rfl⟩
                        · rw [if_neg h123] at h
                          refine xaload_n hk dX10_isStatementLine_126 rfl ?_
                          refine xiconst (v := 4) hk dX10_isStatementLine_127 (by decide) ?_
                          obtain ⟨u128, e128, h⟩ := ob_some h
                          refine xcallV hk (c_X10_isClaimTold e128) bX10_isClaimTold kX10_263 dX10_isStatementLine_128 rfl ⟨_, _, _, _, rfl, rfl⟩ rfl (by first | decide | omega) ⟨by decide, by decide⟩ (Nat.le_of_ble_eq_true rfl) (det ?_)
                          refine xif_eq hk 138 dX10_isStatementLine_131 (by decide) (fun h131 => ?_) (fun h131 => ?_)
                          · rw [if_pos h131] at h
                            refine xiconst (v := 0) hk dX10_isStatementLine_138 (by decide) ?_
                            refine xzret hk he dX10_isStatementLine_139 ⟨by decide, by decide⟩ (by first | with_reducible exact nar_b _ | rfl) ?_
                            obtain rfl := Option.some.inj h
                            exact ⟨rfl, rfl⟩
                          · rw [if_neg h131] at h
                            refine xiconst (v := 1) hk dX10_isStatementLine_134 (by decide) ?_
                            refine xgoto hk 139 dX10_isStatementLine_135 (by decide) ?_
                            refine xzret hk he dX10_isStatementLine_139 ⟨by decide, by decide⟩ (by first | with_reducible exact nar_b _ | rfl) ?_
                            obtain rfl := Option.some.inj h
                            exact ⟨rfl, rfl⟩
                      · rw [if_pos h110] at h
                        refine xbipush (v := 6) hk dX10_isStatementLine_113 (by decide) ?_
                        refine xgoto hk 120 dX10_isStatementLine_115 (by decide) ?_
                        obtain ⟨u120, e120, h⟩ := ob_some h
                        refine xcallV hk (c_X10_eat e120) bX10_eat kX10_242 dX10_isStatementLine_120 rfl ⟨_, _, _, _, rfl, rfl⟩ rfl (by first | decide | omega) ⟨by decide, by decide⟩ (Nat.le_of_ble_eq_true rfl) (det ?_)
                        refine xif_eq hk 138 dX10_isStatementLine_123 (by decide) (fun h123 => ?_) (fun h123 => ?_)
                        · rw [if_pos h123] at h
                          refine xiconst (v := 0) hk dX10_isStatementLine_138 (by decide) ?_
                          refine xzret hk he dX10_isStatementLine_139 ⟨by decide, by decide⟩ (by first | with_reducible exact nar_b _ | rfl) ?_
                          obtain rfl := Option.some.inj h
                          exact ⟨rfl, rfl⟩
                        · rw [if_neg h123] at h
                          refine xaload_n hk dX10_isStatementLine_126 rfl ?_
                          refine xiconst (v := 4) hk dX10_isStatementLine_127 (by decide) ?_
                          obtain ⟨u128, e128, h⟩ := ob_some h
                          refine xcallV hk (c_X10_isClaimTold e128) bX10_isClaimTold kX10_263 dX10_isStatementLine_128 rfl ⟨_, _, _, _, rfl, rfl⟩ rfl (by first | decide | omega) ⟨by decide, by decide⟩ (Nat.le_of_ble_eq_true rfl) (det ?_)
                          refine xif_eq hk 138 dX10_isStatementLine_131 (by decide) (fun h131 => ?_) (fun h131 => ?_)
                          · rw [if_pos h131] at h
                            refine xiconst (v := 0) hk dX10_isStatementLine_138 (by decide) ?_
                            refine xzret hk he dX10_isStatementLine_139 ⟨by decide, by decide⟩ (by first | with_reducible exact nar_b _ | rfl) ?_
                            obtain rfl := Option.some.inj h
                            exact ⟨rfl, rfl⟩
                          · rw [if_neg h131] at h
                            refine xiconst (v := 1) hk dX10_isStatementLine_134 (by decide) ?_
                            refine xgoto hk 139 dX10_isStatementLine_135 (by decide) ?_
                            refine xzret hk he dX10_isStatementLine_139 ⟨by decide, by decide⟩ (by first | with_reducible exact nar_b _ | rfl) ?_
                            obtain rfl := Option.some.inj h
                            exact ⟨rfl, rfl⟩
                    · rw [if_pos h101] at h
                      refine xiconst (v := 3) hk dX10_isStatementLine_104 (by decide) ?_
                      refine xgoto hk 120 dX10_isStatementLine_105 (by decide) ?_
                      obtain ⟨u120, e120, h⟩ := ob_some h
                      refine xcallV hk (c_X10_eat e120) bX10_eat kX10_242 dX10_isStatementLine_120 rfl ⟨_, _, _, _, rfl, rfl⟩ rfl (by first | decide | omega) ⟨by decide, by decide⟩ (Nat.le_of_ble_eq_true rfl) (det ?_)
                      refine xif_eq hk 138 dX10_isStatementLine_123 (by decide) (fun h123 => ?_) (fun h123 => ?_)
                      · rw [if_pos h123] at h
                        refine xiconst (v := 0) hk dX10_isStatementLine_138 (by decide) ?_
                        refine xzret hk he dX10_isStatementLine_139 ⟨by decide, by decide⟩ (by first | with_reducible exact nar_b _ | rfl) ?_
                        obtain rfl := Option.some.inj h
                        exact ⟨rfl, rfl⟩
                      · rw [if_neg h123] at h
                        refine xaload_n hk dX10_isStatementLine_126 rfl ?_
                        refine xiconst (v := 4) hk dX10_isStatementLine_127 (by decide) ?_
                        obtain ⟨u128, e128, h⟩ := ob_some h
                        refine xcallV hk (c_X10_isClaimTold e128) bX10_isClaimTold kX10_263 dX10_isStatementLine_128 rfl ⟨_, _, _, _, rfl, rfl⟩ rfl (by first | decide | omega) ⟨by decide, by decide⟩ (Nat.le_of_ble_eq_true rfl) (det ?_)
                        refine xif_eq hk 138 dX10_isStatementLine_131 (by decide) (fun h131 => ?_) (fun h131 => ?_)
                        · rw [if_pos h131] at h
                          refine xiconst (v := 0) hk dX10_isStatementLine_138 (by decide) ?_
                          refine xzret hk he dX10_isStatementLine_139 ⟨by decide, by decide⟩ (by first | with_reducible exact nar_b _ | rfl) ?_
                          obtain rfl := Option.some.inj h
                          exact ⟨rfl, rfl⟩
                        · rw [if_neg h131] at h
                          refine xiconst (v := 1) hk dX10_isStatementLine_134 (by decide) ?_
                          refine xgoto hk 139 dX10_isStatementLine_135 (by decide) ?_
                          refine xzret hk he dX10_isStatementLine_139 ⟨by decide, by decide⟩ (by first | with_reducible exact nar_b _ | rfl) ?_
                          obtain rfl := Option.some.inj h
                          exact ⟨rfl, rfl⟩
                · rw [if_pos h87] at h
                  refine xiconst (v := 0) hk dX10_isStatementLine_90 (by decide) ?_
                  refine xzret hk he dX10_isStatementLine_91 ⟨by decide, by decide⟩ (by first | with_reducible exact nar_b _ | rfl) ?_
                  obtain rfl := Option.some.inj h
                  exact ⟨rfl, rfl⟩
              · rw [if_pos h71] at h
                refine xaload_n hk dX10_isStatementLine_74 rfl ?_
                refine xiconst (v := 5) hk dX10_isStatementLine_75 (by decide) ?_
                obtain ⟨u76, e76, h⟩ := ob_some h
                refine xcallV hk (c_X10_eat e76) bX10_eat kX10_242 dX10_isStatementLine_76 rfl ⟨_, _, _, _, rfl, rfl⟩ rfl (by first | decide | omega) ⟨by decide, by decide⟩ (Nat.le_of_ble_eq_true rfl) (det ?_)
                refine xif_eq hk 90 dX10_isStatementLine_79 (by decide) (fun h79 => ?_) (fun h79 => ?_)
                · rw [if_pos h79] at h
                  refine xiconst (v := 0) hk dX10_isStatementLine_90 (by decide) ?_
                  refine xzret hk he dX10_isStatementLine_91 ⟨by decide, by decide⟩ (by first | with_reducible exact nar_b _ | rfl) ?_
                  obtain rfl := Option.some.inj h
                  exact ⟨rfl, rfl⟩
                · rw [if_neg h79] at h
                  refine xaload_n hk dX10_isStatementLine_82 rfl ?_
                  refine xiconst (v := 3) hk dX10_isStatementLine_83 (by decide) ?_
                  obtain ⟨u84, e84, h⟩ := ob_some h
                  refine xcallV hk (c_X10_isClaimTold e84) bX10_isClaimTold kX10_263 dX10_isStatementLine_84 rfl ⟨_, _, _, _, rfl, rfl⟩ rfl (by first | decide | omega) ⟨by decide, by decide⟩ (Nat.le_of_ble_eq_true rfl) (det ?_)
                  refine xif_ne hk 92 dX10_isStatementLine_87 (by decide) (fun h87 => ?_) (fun h87 => ?_)
                  · rw [if_neg h87] at h
                    refine xiload_n hk dX10_isStatementLine_92 rfl ?_
                    refine xbipush (v := 9) hk dX10_isStatementLine_93 (by decide) ?_
                    refine xicmp_eq hk 134 dX10_isStatementLine_95 (by decide) (fun h95 => ?_) (fun h95 => ?_)
                    · rw [if_pos h95] at h
                      refine xiconst (v := 1) hk dX10_isStatementLine_134 (by decide) ?_
                      refine xgoto hk 139 dX10_isStatementLine_135 (by decide) ?_
                      refine xzret hk he dX10_isStatementLine_139 ⟨by decide, by decide⟩ (by first | with_reducible exact nar_b _ | rfl) ?_
                      obtain rfl := Option.some.inj h
                      exact ⟨rfl, rfl⟩
                    · rw [if_neg h95] at h
                      refine xaload_n hk dX10_isStatementLine_98 rfl ?_
                      refine xiload_n hk dX10_isStatementLine_99 rfl ?_
                      refine xiconst (v := 1) hk dX10_isStatementLine_100 (by decide) ?_
                      refine xicmp_ne hk 108 dX10_isStatementLine_101 (by decide) (fun h101 => ?_) (fun h101 => ?_)
                      · rw [if_neg h101] at h
                        refine xiload_n hk dX10_isStatementLine_108 rfl ?_
                        refine xiconst (v := 4) hk dX10_isStatementLine_109 (by decide) ?_
                        refine xicmp_ne hk 118 dX10_isStatementLine_110 (by decide) (fun h110 => ?_) (fun h110 => ?_)
                        · rw [if_neg h110] at h
                          refine xbipush (v := 8) hk dX10_isStatementLine_118 (by decide) ?_
                          obtain ⟨u120, e120, h⟩ := ob_some h
                          refine xcallV hk (c_X10_eat e120) bX10_eat kX10_242 dX10_isStatementLine_120 rfl ⟨_, _, _, _, rfl, rfl⟩ rfl (by first | decide | omega) ⟨by decide, by decide⟩ (Nat.le_of_ble_eq_true rfl) (det ?_)
                          refine xif_eq hk 138 dX10_isStatementLine_123 (by decide) (fun h123 => ?_) (fun h123 => ?_)
                          · rw [if_pos h123] at h
                            refine xiconst (v := 0) hk dX10_isStatementLine_138 (by decide) ?_
                            refine xzret hk he dX10_isStatementLine_139 ⟨by decide, by decide⟩ (by first | with_reducible exact nar_b _ | rfl) ?_
                            obtain rfl := Option.some.inj h
                            exact ⟨rfl, rfl⟩
                          · rw [if_neg h123] at h
                            refine xaload_n hk dX10_isStatementLine_126 rfl ?_
                            refine xiconst (v := 4) hk dX10_isStatementLine_127 (by decide) ?_
                            obtain ⟨u128, e128, h⟩ := ob_some h
                            refine xcallV hk (c_X10_isClaimTold e128) bX10_isClaimTold kX10_263 dX10_isStatementLine_128 rfl ⟨_, _, _, _, rfl, rfl⟩ rfl (by first | decide | omega) ⟨by decide, by decide⟩ (Nat.le_of_ble_eq_true rfl) (det ?_)
                            refine xif_eq hk 138 dX10_isStatementLine_131 (by decide) (fun h131 => ?_) (fun h131 => ?_)
                            · rw [if_pos h131] at h
                              refine xiconst (v := 0) hk dX10_isStatementLine_138 (by decide) ?_
                              refine xzret hk he dX10_isStatementLine_139 ⟨by decide, by decide⟩ (by first | with_reducible exact nar_b _ | rfl) ?_
                              obtain rfl := Option.some.inj h
                              exact ⟨rfl, rfl⟩
                            · rw [if_neg h131] at h
                              refine xiconst (v := 1) hk dX10_isStatementLine_134 (by decide) ?_
                              refine xgoto hk 139 dX10_isStatementLine_135 (by decide) ?_
                              refine xzret hk he dX10_isStatementLine_139 ⟨by decide, by decide⟩ (by first | with_reducible exact nar_b _ | rfl) ?_
                              obtain rfl := Option.some.inj h
                              exact ⟨rfl, rfl⟩
                        · rw [if_pos h110] at h
                          refine xbipush (v := 6) hk dX10_isStatementLine_113 (by decide) ?_
                          refine xgoto hk 120 dX10_isStatementLine_115 (by decide) ?_
                          obtain ⟨u120, e120, h⟩ := ob_some h
                          refine xcallV hk (c_X10_eat e120) bX10_eat kX10_242 dX10_isStatementLine_120 rfl ⟨_, _, _, _, rfl, rfl⟩ rfl (by first | decide | omega) ⟨by decide, by decide⟩ (Nat.le_of_ble_eq_true rfl) (det ?_)
                          refine xif_eq hk 138 dX10_isStatementLine_123 (by decide) (fun h123 => ?_) (fun h123 => ?_)
                          · rw [if_pos h123] at h
                            refine xiconst (v := 0) hk dX10_isStatementLine_138 (by decide) ?_
                            refine xzret hk he dX10_isStatementLine_139 ⟨by decide, by decide⟩ (by first | with_reducible exact nar_b _ | rfl) ?_
                            obtain rfl := Option.some.inj h
                            exact ⟨rfl, rfl⟩
                          · rw [if_neg h123] at h
                            refine xaload_n hk dX10_isStatementLine_126 rfl ?_
                            refine xiconst (v := 4) hk dX10_isStatementLine_127 (by decide) ?_
                            obtain ⟨u128, e128, h⟩ := ob_some h
                            refine xcallV hk (c_X10_isClaimTold e128) bX10_isClaimTold kX10_263 dX10_isStatementLine_128 rfl ⟨_, _, _, _, rfl, rfl⟩ rfl (by first | decide | omega) ⟨by decide, by decide⟩ (Nat.le_of_ble_eq_true rfl) (det ?_)
                            refine xif_eq hk 138 dX10_isStatementLine_131 (by decide) (fun h131 => ?_) (fun h131 => ?_)
                            · rw [if_pos h131] at h
                              refine xiconst (v := 0) hk dX10_isStatementLine_138 (by decide) ?_
                              refine xzret hk he dX10_isStatementLine_139 ⟨by decide, by decide⟩ (by first | with_reducible exact nar_b _ | rfl) ?_
                              obtain rfl := Option.some.inj h
                              exact ⟨rfl, rfl⟩
                            · rw [if_neg h131] at h
                              refine xiconst (v := 1) hk dX10_isStatementLine_134 (by decide) ?_
                              refine xgoto hk 139 dX10_isStatementLine_135 (by decide) ?_
                              refine xzret hk he dX10_isStatementLine_139 ⟨by decide, by decide⟩ (by first | with_reducible exact nar_b _ | rfl) ?_
                              obtain rfl := Option.some.inj h
                              exact ⟨rfl, rfl⟩
                      · rw [if_pos h101] at h
                        refine xiconst (v := 3) hk dX10_isStatementLine_104 (by decide) ?_
                        refine xgoto hk 120 dX10_isStatementLine_105 (by decide) ?_
                        obtain ⟨u120, e120, h⟩ := ob_some h
                        refine xcallV hk (c_X10_eat e120) bX10_eat kX10_242 dX10_isStatementLine_120 rfl ⟨_, _, _, _, rfl, rfl⟩ rfl (by first | decide | omega) ⟨by decide, by decide⟩ (Nat.le_of_ble_eq_true rfl) (det ?_)
                        refine xif_eq hk 138 dX10_isStatementLine_123 (by decide) (fun h123 => ?_) (fun h123 => ?_)
                        · rw [if_pos h123] at h
                          refine xiconst (v := 0) hk dX10_isStatementLine_138 (by decide) ?_
                          refine xzret hk he dX10_isStatementLine_139 ⟨by decide, by decide⟩ (by first | with_reducible exact nar_b _ | rfl) ?_
                          obtain rfl := Option.some.inj h
                          exact ⟨rfl, rfl⟩
                        · rw [if_neg h123] at h
                          refine xaload_n hk dX10_isStatementLine_126 rfl ?_
                          refine xiconst (v := 4) hk dX10_isStatementLine_127 (by decide) ?_
                          obtain ⟨u128, e128, h⟩ := ob_some h
                          refine xcallV hk (c_X10_isClaimTold e128) bX10_isClaimTold kX10_263 dX10_isStatementLine_128 rfl ⟨_, _, _, _, rfl, rfl⟩ rfl (by first | decide | omega) ⟨by decide, by decide⟩ (Nat.le_of_ble_eq_true rfl) (det ?_)
                          refine xif_eq hk 138 dX10_isStatementLine_131 (by decide) (fun h131 => ?_) (fun h131 => ?_)
                          · rw [if_pos h131] at h
                            refine xiconst (v := 0) hk dX10_isStatementLine_138 (by decide) ?_
                            refine xzret hk he dX10_isStatementLine_139 ⟨by decide, by decide⟩ (by first | with_reducible exact nar_b _ | rfl) ?_
                            obtain rfl := Option.some.inj h
                            exact ⟨rfl, rfl⟩
                          · rw [if_neg h131] at h
                            refine xiconst (v := 1) hk dX10_isStatementLine_134 (by decide) ?_
                            refine xgoto hk 139 dX10_isStatementLine_135 (by decide) ?_
                            refine xzret hk he dX10_isStatementLine_139 ⟨by decide, by decide⟩ (by first | with_reducible exact nar_b _ | rfl) ?_
                            obtain rfl := Option.some.inj h
                            exact ⟨rfl, rfl⟩
                  · rw [if_pos h87] at h
                    refine xiconst (v := 0) hk dX10_isStatementLine_90 (by decide) ?_
                    refine xzret hk he dX10_isStatementLine_91 ⟨by decide, by decide⟩ (by first | with_reducible exact nar_b _ | rfl) ?_
                    obtain rfl := Option.some.inj h
                    exact ⟨rfl, rfl⟩
            · rw [if_pos h58] at h
              refine xaload_n hk dX10_isStatementLine_61 rfl ?_
              refine xiconst (v := 2) hk dX10_isStatementLine_62 (by decide) ?_
              obtain ⟨u63, e63, h⟩ := ob_some h
              refine xcallV hk (c_X10_eat e63) bX10_eat kX10_242 dX10_isStatementLine_63 rfl ⟨_, _, _, _, rfl, rfl⟩ rfl (by first | decide | omega) ⟨by decide, by decide⟩ (Nat.le_of_ble_eq_true rfl) (det ?_)
              refine xif_eq hk 90 dX10_isStatementLine_66 (by decide) (fun h66 => ?_) (fun h66 => ?_)
              · rw [if_pos h66] at h
                refine xiconst (v := 0) hk dX10_isStatementLine_90 (by decide) ?_
                refine xzret hk he dX10_isStatementLine_91 ⟨by decide, by decide⟩ (by first | with_reducible exact nar_b _ | rfl) ?_
                obtain rfl := Option.some.inj h
                exact ⟨rfl, rfl⟩
              · rw [if_neg h66] at h
                refine xiload_n hk dX10_isStatementLine_69 rfl ?_
                refine xiconst (v := 4) hk dX10_isStatementLine_70 (by decide) ?_
                refine xicmp_ne hk 82 dX10_isStatementLine_71 (by decide) (fun h71 => ?_) (fun h71 => ?_)
                · rw [if_neg h71] at h
                  refine xaload_n hk dX10_isStatementLine_82 rfl ?_
                  refine xiconst (v := 3) hk dX10_isStatementLine_83 (by decide) ?_
                  obtain ⟨u84, e84, h⟩ := ob_some h
                  refine xcallV hk (c_X10_isClaimTold e84) bX10_isClaimTold kX10_263 dX10_isStatementLine_84 rfl ⟨_, _, _, _, rfl, rfl⟩ rfl (by first | decide | omega) ⟨by decide, by decide⟩ (Nat.le_of_ble_eq_true rfl) (det ?_)
                  refine xif_ne hk 92 dX10_isStatementLine_87 (by decide) (fun h87 => ?_) (fun h87 => ?_)
                  · rw [if_neg h87] at h
                    refine xiload_n hk dX10_isStatementLine_92 rfl ?_
                    refine xbipush (v := 9) hk dX10_isStatementLine_93 (by decide) ?_
                    refine xicmp_eq hk 134 dX10_isStatementLine_95 (by decide) (fun h95 => ?_) (fun h95 => ?_)
                    · rw [if_pos h95] at h
                      refine xiconst (v := 1) hk dX10_isStatementLine_134 (by decide) ?_
                      refine xgoto hk 139 dX10_isStatementLine_135 (by decide) ?_
                      refine xzret hk he dX10_isStatementLine_139 ⟨by decide, by decide⟩ (by first | with_reducible exact nar_b _ | rfl) ?_
                      obtain rfl := Option.some.inj h
                      exact ⟨rfl, rfl⟩
                    · rw [if_neg h95] at h
                      refine xaload_n hk dX10_isStatementLine_98 rfl ?_
                      refine xiload_n hk dX10_isStatementLine_99 rfl ?_
                      refine xiconst (v := 1) hk dX10_isStatementLine_100 (by decide) ?_
                      refine xicmp_ne hk 108 dX10_isStatementLine_101 (by decide) (fun h101 => ?_) (fun h101 => ?_)
                      · rw [if_neg h101] at h
                        refine xiload_n hk dX10_isStatementLine_108 rfl ?_
                        refine xiconst (v := 4) hk dX10_isStatementLine_109 (by decide) ?_
                        refine xicmp_ne hk 118 dX10_isStatementLine_110 (by decide) (fun h110 => ?_) (fun h110 => ?_)
                        · rw [if_neg h110] at h
                          refine xbipush (v := 8) hk dX10_isStatementLine_118 (by decide) ?_
                          obtain ⟨u120, e120, h⟩ := ob_some h
                          refine xcallV hk (c_X10_eat e120) bX10_eat kX10_242 dX10_isStatementLine_120 rfl ⟨_, _, _, _, rfl, rfl⟩ rfl (by first | decide | omega) ⟨by decide, by decide⟩ (Nat.le_of_ble_eq_true rfl) (det ?_)
                          refine xif_eq hk 138 dX10_isStatementLine_123 (by decide) (fun h123 => ?_) (fun h123 => ?_)
                          · rw [if_pos h123] at h
                            refine xiconst (v := 0) hk dX10_isStatementLine_138 (by decide) ?_
                            refine xzret hk he dX10_isStatementLine_139 ⟨by decide, by decide⟩ (by first | with_reducible exact nar_b _ | rfl) ?_
                            obtain rfl := Option.some.inj h
                            exact ⟨rfl, rfl⟩
                          · rw [if_neg h123] at h
                            refine xaload_n hk dX10_isStatementLine_126 rfl ?_
                            refine xiconst (v := 4) hk dX10_isStatementLine_127 (by decide) ?_
                            obtain ⟨u128, e128, h⟩ := ob_some h
                            refine xcallV hk (c_X10_isClaimTold e128) bX10_isClaimTold kX10_263 dX10_isStatementLine_128 rfl ⟨_, _, _, _, rfl, rfl⟩ rfl (by first | decide | omega) ⟨by decide, by decide⟩ (Nat.le_of_ble_eq_true rfl) (det ?_)
                            refine xif_eq hk 138 dX10_isStatementLine_131 (by decide) (fun h131 => ?_) (fun h131 => ?_)
                            · rw [if_pos h131] at h
                              refine xiconst (v := 0) hk dX10_isStatementLine_138 (by decide) ?_
                              refine xzret hk he dX10_isStatementLine_139 ⟨by decide, by decide⟩ (by first | with_reducible exact nar_b _ | rfl) ?_
                              obtain rfl := Option.some.inj h
                              exact ⟨rfl, rfl⟩
                            · rw [if_neg h131] at h
                              refine xiconst (v := 1) hk dX10_isStatementLine_134 (by decide) ?_
                              refine xgoto hk 139 dX10_isStatementLine_135 (by decide) ?_
                              refine xzret hk he dX10_isStatementLine_139 ⟨by decide, by decide⟩ (by first | with_reducible exact nar_b _ | rfl) ?_
                              obtain rfl := Option.some.inj h
                              exact ⟨rfl, rfl⟩
                        · rw [if_pos h110] at h
                          refine xbipush (v := 6) hk dX10_isStatementLine_113 (by decide) ?_
                          refine xgoto hk 120 dX10_isStatementLine_115 (by decide) ?_
                          obtain ⟨u120, e120, h⟩ := ob_some h
                          refine xcallV hk (c_X10_eat e120) bX10_eat kX10_242 dX10_isStatementLine_120 rfl ⟨_, _, _, _, rfl, rfl⟩ rfl (by first | decide | omega) ⟨by decide, by decide⟩ (Nat.le_of_ble_eq_true rfl) (det ?_)
                          refine xif_eq hk 138 dX10_isStatementLine_123 (by decide) (fun h123 => ?_) (fun h123 => ?_)
                          · rw [if_pos h123] at h
                            refine xiconst (v := 0) hk dX10_isStatementLine_138 (by decide) ?_
                            refine xzret hk he dX10_isStatementLine_139 ⟨by decide, by decide⟩ (by first | with_reducible exact nar_b _ | rfl) ?_
                            obtain rfl := Option.some.inj h
                            exact ⟨rfl, rfl⟩
                          · rw [if_neg h123] at h
                            refine xaload_n hk dX10_isStatementLine_126 rfl ?_
                            refine xiconst (v := 4) hk dX10_isStatementLine_127 (by decide) ?_
                            obtain ⟨u128, e128, h⟩ := ob_some h
                            refine xcallV hk (c_X10_isClaimTold e128) bX10_isClaimTold kX10_263 dX10_isStatementLine_128 rfl ⟨_, _, _, _, rfl, rfl⟩ rfl (by first | decide | omega) ⟨by decide, by decide⟩ (Nat.le_of_ble_eq_true rfl) (det ?_)
                            refine xif_eq hk 138 dX10_isStatementLine_131 (by decide) (fun h131 => ?_) (fun h131 => ?_)
                            · rw [if_pos h131] at h
                              refine xiconst (v := 0) hk dX10_isStatementLine_138 (by decide) ?_
                              refine xzret hk he dX10_isStatementLine_139 ⟨by decide, by decide⟩ (by first | with_reducible exact nar_b _ | rfl) ?_
                              obtain rfl := Option.some.inj h
                              exact ⟨rfl, rfl⟩
                            · rw [if_neg h131] at h
                              refine xiconst (v := 1) hk dX10_isStatementLine_134 (by decide) ?_
                              refine xgoto hk 139 dX10_isStatementLine_135 (by decide) ?_
                              refine xzret hk he dX10_isStatementLine_139 ⟨by decide, by decide⟩ (by first | with_reducible exact nar_b _ | rfl) ?_
                              obtain rfl := Option.some.inj h
                              exact ⟨rfl, rfl⟩
                      · rw [if_pos h101] at h
                        refine xiconst (v := 3) hk dX10_isStatementLine_104 (by decide) ?_
                        refine xgoto hk 120 dX10_isStatementLine_105 (by decide) ?_
                        obtain ⟨u120, e120, h⟩ := ob_some h
                        refine xcallV hk (c_X10_eat e120) bX10_eat kX10_242 dX10_isStatementLine_120 rfl ⟨_, _, _, _, rfl, rfl⟩ rfl (by first | decide | omega) ⟨by decide, by decide⟩ (Nat.le_of_ble_eq_true rfl) (det ?_)
                        refine xif_eq hk 138 dX10_isStatementLine_123 (by decide) (fun h123 => ?_) (fun h123 => ?_)
                        · rw [if_pos h123] at h
                          refine xiconst (v := 0) hk dX10_isStatementLine_138 (by decide) ?_
                          refine xzret hk he dX10_isStatementLine_139 ⟨by decide, by decide⟩ (by first | with_reducible exact nar_b _ | rfl) ?_
                          obtain rfl := Option.some.inj h
                          exact ⟨rfl, rfl⟩
                        · rw [if_neg h123] at h
                          refine xaload_n hk dX10_isStatementLine_126 rfl ?_
                          refine xiconst (v := 4) hk dX10_isStatementLine_127 (by decide) ?_
                          obtain ⟨u128, e128, h⟩ := ob_some h
                          refine xcallV hk (c_X10_isClaimTold e128) bX10_isClaimTold kX10_263 dX10_isStatementLine_128 rfl ⟨_, _, _, _, rfl, rfl⟩ rfl (by first | decide | omega) ⟨by decide, by decide⟩ (Nat.le_of_ble_eq_true rfl) (det ?_)
                          refine xif_eq hk 138 dX10_isStatementLine_131 (by decide) (fun h131 => ?_) (fun h131 => ?_)
                          · rw [if_pos h131] at h
                            refine xiconst (v := 0) hk dX10_isStatementLine_138 (by decide) ?_
                            refine xzret hk he dX10_isStatementLine_139 ⟨by decide, by decide⟩ (by first | with_reducible exact nar_b _ | rfl) ?_
                            obtain rfl := Option.some.inj h
                            exact ⟨rfl, rfl⟩
                          · rw [if_neg h131] at h
                            refine xiconst (v := 1) hk dX10_isStatementLine_134 (by decide) ?_
                            refine xgoto hk 139 dX10_isStatementLine_135 (by decide) ?_
                            refine xzret hk he dX10_isStatementLine_139 ⟨by decide, by decide⟩ (by first | with_reducible exact nar_b _ | rfl) ?_
                            obtain rfl := Option.some.inj h
                            exact ⟨rfl, rfl⟩
                  · rw [if_pos h87] at h
                    refine xiconst (v := 0) hk dX10_isStatementLine_90 (by decide) ?_
                    refine xzret hk he dX10_isStatementLine_91 ⟨by decide, by decide⟩ (by first | with_reducible exact nar_b _ | rfl) ?_
                    obtain rfl := Option.some.inj h
                    exact ⟨rfl, rfl⟩
                · rw [if_pos h71] at h
                  refine xaload_n hk dX10_isStatementLine_74 rfl ?_
                  refine xiconst (v := 5) hk dX10_isStatementLine_75 (by decide) ?_
                  obtain ⟨u76, e76, h⟩ := ob_some h
                  refine xcallV hk (c_X10_eat e76) bX10_eat kX10_242 dX10_isStatementLine_76 rfl ⟨_, _, _, _, rfl, rfl⟩ rfl (by first | decide | omega) ⟨by decide, by decide⟩ (Nat.le_of_ble_eq_true rfl) (det ?_)
                  refine xif_eq hk 90 dX10_isStatementLine_79 (by decide) (fun h79 => ?_) (fun h79 => ?_)
                  · rw [if_pos h79] at h
                    refine xiconst (v := 0) hk dX10_isStatementLine_90 (by decide) ?_
                    refine xzret hk he dX10_isStatementLine_91 ⟨by decide, by decide⟩ (by first | with_reducible exact nar_b _ | rfl) ?_
                    obtain rfl := Option.some.inj h
                    exact ⟨rfl, rfl⟩
                  · rw [if_neg h79] at h
                    refine xaload_n hk dX10_isStatementLine_82 rfl ?_
                    refine xiconst (v := 3) hk dX10_isStatementLine_83 (by decide) ?_
                    obtain ⟨u84, e84, h⟩ := ob_some h
                    refine xcallV hk (c_X10_isClaimTold e84) bX10_isClaimTold kX10_263 dX10_isStatementLine_84 rfl ⟨_, _, _, _, rfl, rfl⟩ rfl (by first | decide | omega) ⟨by decide, by decide⟩ (Nat.le_of_ble_eq_true rfl) (det ?_)
                    refine xif_ne hk 92 dX10_isStatementLine_87 (by decide) (fun h87 => ?_) (fun h87 => ?_)
                    · rw [if_neg h87] at h
                      refine xiload_n hk dX10_isStatementLine_92 rfl ?_
                      refine xbipush (v := 9) hk dX10_isStatementLine_93 (by decide) ?_
                      refine xicmp_eq hk 134 dX10_isStatementLine_95 (by decide) (fun h95 => ?_) (fun h95 => ?_)
                      · rw [if_pos h95] at h
                        refine xiconst (v := 1) hk dX10_isStatementLine_134 (by decide) ?_
                        refine xgoto hk 139 dX10_isStatementLine_135 (by decide) ?_
                        refine xzret hk he dX10_isStatementLine_139 ⟨by decide, by decide⟩ (by first | with_reducible exact nar_b _ | rfl) ?_
                        obtain rfl := Option.some.inj h
                        exact ⟨rfl, rfl⟩
                      · rw [if_neg h95] at h
                        refine xaload_n hk dX10_isStatementLine_98 rfl ?_
                        refine xiload_n hk dX10_isStatementLine_99 rfl ?_
                        refine xiconst (v := 1) hk dX10_isStatementLine_100 (by decide) ?_
                        refine xicmp_ne hk 108 dX10_isStatementLine_101 (by decide) (fun h101 => ?_) (fun h101 => ?_)
                        · rw [if_neg h101] at h
                          refine xiload_n hk dX10_isStatementLine_108 rfl ?_
                          refine xiconst (v := 4) hk dX10_isStatementLine_109 (by decide) ?_
                          refine xicmp_ne hk 118 dX10_isStatementLine_110 (by decide) (fun h110 => ?_) (fun h110 => ?_)
                          · rw [if_neg h110] at h
                            refine xbipush (v := 8) hk dX10_isStatementLine_118 (by decide) ?_
                            obtain ⟨u120, e120, h⟩ := ob_some h
                            refine xcallV hk (c_X10_eat e120) bX10_eat kX10_242 dX10_isStatementLine_120 rfl ⟨_, _, _, _, rfl, rfl⟩ rfl (by first | decide | omega) ⟨by decide, by decide⟩ (Nat.le_of_ble_eq_true rfl) (det ?_)
                            refine xif_eq hk 138 dX10_isStatementLine_123 (by decide) (fun h123 => ?_) (fun h123 => ?_)
                            · rw [if_pos h123] at h
                              refine xiconst (v := 0) hk dX10_isStatementLine_138 (by decide) ?_
                              refine xzret hk he dX10_isStatementLine_139 ⟨by decide, by decide⟩ (by first | with_reducible exact nar_b _ | rfl) ?_
                              obtain rfl := Option.some.inj h
                              exact ⟨rfl, rfl⟩
                            · rw [if_neg h123] at h
                              refine xaload_n hk dX10_isStatementLine_126 rfl ?_
                              refine xiconst (v := 4) hk dX10_isStatementLine_127 (by decide) ?_
                              obtain ⟨u128, e128, h⟩ := ob_some h
                              refine xcallV hk (c_X10_isClaimTold e128) bX10_isClaimTold kX10_263 dX10_isStatementLine_128 rfl ⟨_, _, _, _, rfl, rfl⟩ rfl (by first | decide | omega) ⟨by decide, by decide⟩ (Nat.le_of_ble_eq_true rfl) (det ?_)
                              refine xif_eq hk 138 dX10_isStatementLine_131 (by decide) (fun h131 => ?_) (fun h131 => ?_)
                              · rw [if_pos h131] at h
                                refine xiconst (v := 0) hk dX10_isStatementLine_138 (by decide) ?_
                                refine xzret hk he dX10_isStatementLine_139 ⟨by decide, by decide⟩ (by first | with_reducible exact nar_b _ | rfl) ?_
                                obtain rfl := Option.some.inj h
                                exact ⟨rfl, rfl⟩
                              · rw [if_neg h131] at h
                                refine xiconst (v := 1) hk dX10_isStatementLine_134 (by decide) ?_
                                refine xgoto hk 139 dX10_isStatementLine_135 (by decide) ?_
                                refine xzret hk he dX10_isStatementLine_139 ⟨by decide, by decide⟩ (by first | with_reducible exact nar_b _ | rfl) ?_
                                obtain rfl := Option.some.inj h
                                exact ⟨rfl, rfl⟩
                          · rw [if_pos h110] at h
                            refine xbipush (v := 6) hk dX10_isStatementLine_113 (by decide) ?_
                            refine xgoto hk 120 dX10_isStatementLine_115 (by decide) ?_
                            obtain ⟨u120, e120, h⟩ := ob_some h
                            refine xcallV hk (c_X10_eat e120) bX10_eat kX10_242 dX10_isStatementLine_120 rfl ⟨_, _, _, _, rfl, rfl⟩ rfl (by first | decide | omega) ⟨by decide, by decide⟩ (Nat.le_of_ble_eq_true rfl) (det ?_)
                            refine xif_eq hk 138 dX10_isStatementLine_123 (by decide) (fun h123 => ?_) (fun h123 => ?_)
                            · rw [if_pos h123] at h
                              refine xiconst (v := 0) hk dX10_isStatementLine_138 (by decide) ?_
                              refine xzret hk he dX10_isStatementLine_139 ⟨by decide, by decide⟩ (by first | with_reducible exact nar_b _ | rfl) ?_
                              obtain rfl := Option.some.inj h
                              exact ⟨rfl, rfl⟩
                            · rw [if_neg h123] at h
                              refine xaload_n hk dX10_isStatementLine_126 rfl ?_
                              refine xiconst (v := 4) hk dX10_isStatementLine_127 (by decide) ?_
                              obtain ⟨u128, e128, h⟩ := ob_some h
                              refine xcallV hk (c_X10_isClaimTold e128) bX10_isClaimTold kX10_263 dX10_isStatementLine_128 rfl ⟨_, _, _, _, rfl, rfl⟩ rfl (by first | decide | omega) ⟨by decide, by decide⟩ (Nat.le_of_ble_eq_true rfl) (det ?_)
                              refine xif_eq hk 138 dX10_isStatementLine_131 (by decide) (fun h131 => ?_) (fun h131 => ?_)
                              · rw [if_pos h131] at h
                                refine xiconst (v := 0) hk dX10_isStatementLine_138 (by decide) ?_
                                refine xzret hk he dX10_isStatementLine_139 ⟨by decide, by decide⟩ (by first | with_reducible exact nar_b _ | rfl) ?_
                                obtain rfl := Option.some.inj h
                                exact ⟨rfl, rfl⟩
                              · rw [if_neg h131] at h
                                refine xiconst (v := 1) hk dX10_isStatementLine_134 (by decide) ?_
                                refine xgoto hk 139 dX10_isStatementLine_135 (by decide) ?_
                                refine xzret hk he dX10_isStatementLine_139 ⟨by decide, by decide⟩ (by first | with_reducible exact nar_b _ | rfl) ?_
                                obtain rfl := Option.some.inj h
                                exact ⟨rfl, rfl⟩
                        · rw [if_pos h101] at h
                          refine xiconst (v := 3) hk dX10_isStatementLine_104 (by decide) ?_
                          refine xgoto hk 120 dX10_isStatementLine_105 (by decide) ?_
                          obtain ⟨u120, e120, h⟩ := ob_some h
                          refine xcallV hk (c_X10_eat e120) bX10_eat kX10_242 dX10_isStatementLine_120 rfl ⟨_, _, _, _, rfl, rfl⟩ rfl (by first | decide | omega) ⟨by decide, by decide⟩ (Nat.le_of_ble_eq_true rfl) (det ?_)
                          refine xif_eq hk 138 dX10_isStatementLine_123 (by decide) (fun h123 => ?_) (fun h123 => ?_)
                          · rw [if_pos h123] at h
                            refine xiconst (v := 0) hk dX10_isStatementLine_138 (by decide) ?_
                            refine xzret hk he dX10_isStatementLine_139 ⟨by decide, by decide⟩ (by first | with_reducible exact nar_b _ | rfl) ?_
                            obtain rfl := Option.some.inj h
                            exact ⟨rfl, rfl⟩
                          · rw [if_neg h123] at h
                            refine xaload_n hk dX10_isStatementLine_126 rfl ?_
                            refine xiconst (v := 4) hk dX10_isStatementLine_127 (by decide) ?_
                            obtain ⟨u128, e128, h⟩ := ob_some h
                            refine xcallV hk (c_X10_isClaimTold e128) bX10_isClaimTold kX10_263 dX10_isStatementLine_128 rfl ⟨_, _, _, _, rfl, rfl⟩ rfl (by first | decide | omega) ⟨by decide, by decide⟩ (Nat.le_of_ble_eq_true rfl) (det ?_)
                            refine xif_eq hk 138 dX10_isStatementLine_131 (by decide) (fun h131 => ?_) (fun h131 => ?_)
                            · rw [if_pos h131] at h
                              refine xiconst (v := 0) hk dX10_isStatementLine_138 (by decide) ?_
                              refine xzret hk he dX10_isStatementLine_139 ⟨by decide, by decide⟩ (by first | with_reducible exact nar_b _ | rfl) ?_
                              obtain rfl := Option.some.inj h
                              exact ⟨rfl, rfl⟩
                            · rw [if_neg h131] at h
                              refine xiconst (v := 1) hk dX10_isStatementLine_134 (by decide) ?_
                              refine xgoto hk 139 dX10_isStatementLine_135 (by decide) ?_
                              refine xzret hk he dX10_isStatementLine_139 ⟨by decide, by decide⟩ (by first | with_reducible exact nar_b _ | rfl) ?_
                              obtain rfl := Option.some.inj h
                              exact ⟨rfl, rfl⟩
                    · rw [if_pos h87] at h
                      refine xiconst (v := 0) hk dX10_isStatementLine_90 (by decide) ?_
                      refine xzret hk he dX10_isStatementLine_91 ⟨by decide, by decide⟩ (by first | with_reducible exact nar_b _ | rfl) ?_
                      obtain rfl := Option.some.inj h
                      exact ⟨rfl, rfl⟩
          · rw [if_pos h51] at h
            refine xiconst (v := 0) hk dX10_isStatementLine_54 (by decide) ?_
            refine xzret hk he dX10_isStatementLine_55 ⟨by decide, by decide⟩ (by first | with_reducible exact nar_b _ | rfl) ?_
            obtain rfl := Option.some.inj h
            exact ⟨rfl, rfl⟩
        · rw [if_neg h29] at h
          refine xiconst (v := 0) hk dX10_isStatementLine_32 (by decide) ?_
          refine xzret hk he dX10_isStatementLine_33 ⟨by decide, by decide⟩ (by first | with_reducible exact nar_b _ | rfl) ?_
          obtain rfl := Option.some.inj h
          exact ⟨rfl, rfl⟩

def f_X10_isDeeper   (x : XS) : Option (Bool × XS) := (if (x.1 0 10) = 8 then some (false, x) else some (true, (setI (setI x 0 10 ((x.1 0 10) + 1)) 0 9 (((setI x 0 10 ((x.1 0 10) + 1)).1 0 9) + 1))))

set_option maxHeartbeats 4000000 in
set_option maxRecDepth 100000 in
theorem c_X10_isDeeper {g : Gx} {a : Nat → Nat} {x : XS}    {u : Bool × XS}  (h : f_X10_isDeeper   x = some u) : Mx g yX10_isDeeper cX10_isDeeper 1 (some .boolean) 1 0 0 LM2 a x [.ref (a 0)] (pr (some (.int (b2i u.1))) u.2) := by
  refine Mx_of (by decide +kernel) (Nat.le_of_ble_eq_true rfl) ?_
  intro k hk he hg
  subst hg
  rw [f_X10_isDeeper] at h
  refine xaload_n hk dX10_isDeeper_0 rfl ?_
  refine xgetI (ci := 10) (f := 10) hk dX10_isDeeper_1 ⟨rfl, by decide, _, rfl, rfl⟩ kX10_281 ?_
  refine xbipush (v := 8) hk dX10_isDeeper_4 (by decide) ?_
  refine xicmp_ne hk 11 dX10_isDeeper_6 (by decide) (fun h6 => ?_) (fun h6 => ?_)
  · rw [if_neg h6] at h
    refine xaload_n hk dX10_isDeeper_11 rfl ?_
    refine xdup hk dX10_isDeeper_12 rfl ?_
    refine xgetI (ci := 10) (f := 10) hk dX10_isDeeper_13 ⟨rfl, by decide, _, rfl, rfl⟩ kX10_281 ?_
    refine xiconst (v := 1) hk dX10_isDeeper_16 (by decide) ?_
    refine xiadd hk dX10_isDeeper_17 ?_
    refine xputI (ci := 10) (f := 10) hk dX10_isDeeper_18 ⟨rfl, by decide, _, rfl, rfl⟩ kX10_281 ⟨rfl, by decide +kernel⟩ ?_
    refine xaload_n hk dX10_isDeeper_21 rfl ?_
    refine xdup hk dX10_isDeeper_22 rfl ?_
    refine xgetI (ci := 10) (f := 9) hk dX10_isDeeper_23 ⟨rfl, by decide, _, rfl, rfl⟩ kX10_236 ?_
    refine xiconst (v := 1) hk dX10_isDeeper_26 (by decide) ?_
    refine xiadd hk dX10_isDeeper_27 ?_
    refine xputI (ci := 10) (f := 9) hk dX10_isDeeper_28 ⟨rfl, by decide, _, rfl, rfl⟩ kX10_236 ⟨rfl, by decide +kernel⟩ ?_
    refine xiconst (v := 1) hk dX10_isDeeper_31 (by decide) ?_
    refine xzret hk he dX10_isDeeper_32 ⟨by decide, by decide⟩ (by first | with_reducible exact nar_b _ | rfl) ?_
    obtain rfl := Option.some.inj h
    exact ⟨rfl, rfl⟩
  · rw [if_pos h6] at h
    refine xiconst (v := 0) hk dX10_isDeeper_9 (by decide) ?_
    refine xzret hk he dX10_isDeeper_10 ⟨by decide, by decide⟩ (by first | with_reducible exact nar_b _ | rfl) ?_
    obtain rfl := Option.some.inj h
    exact ⟨rfl, rfl⟩

def f_X10_isName  (p : Int32) (x : XS) : Option (Bool × XS) := og (inB (x.1 21 14) 400) (ob (f_X10_put ((setI (setI x 30 ((x.1 21 14) : Int32).toNatClampNeg (x.1 21 12)) 21 14 (((setI x 30 ((x.1 21 14) : Int32).toNatClampNeg (x.1 21 12)).1 21 14) + 1)).1 0 9) (setI (setI x 30 ((x.1 21 14) : Int32).toNatClampNeg (x.1 21 12)) 21 14 (((setI x 30 ((x.1 21 14) : Int32).toNatClampNeg (x.1 21 12)).1 21 14) + 1))) (fun u40 => ob (f_X10_eatAs 40 p u40) (fun u47 => some (u47.1, u47.2))))

set_option maxHeartbeats 4000000 in
set_option maxRecDepth 100000 in
theorem c_X10_isName {g : Gx} {a : Nat → Nat} {x : XS}   {p : Int32} {u : Bool × XS}  (h : f_X10_isName  p x = some u) : Mx g yX10_isName cX10_isName 2 (some .boolean) 4 0 0 LM2 a x [.ref (a 0), .int p] (pr (some (.int (b2i u.1))) u.2) := by
  refine Mx_of (by decide +kernel) (Nat.le_of_ble_eq_true rfl) ?_
  intro k hk he hg
  subst hg
  rw [f_X10_isName] at h
  refine xaload_n hk dX10_isName_0 rfl ?_
  refine xgetR (ci := 10) (f := 12) hk dX10_isName_1 ⟨rfl, by decide, _, rfl, rfl⟩ kX10_39 ?_
  refine xgetNR (ci := 9) (f := 13) hk dX10_isName_4 ⟨rfl, by decide, _, rfl, rfl⟩ kX10_284 ?_
  refine xaload_n hk dX10_isName_7 rfl ?_
  refine xgetR (ci := 10) (f := 12) hk dX10_isName_8 ⟨rfl, by decide, _, rfl, rfl⟩ kX10_39 ?_
  refine xgetNI (ci := 9) (f := 14) hk dX10_isName_11 ⟨rfl, by decide, _, rfl, rfl⟩ kX10_287 ?_
  refine xaload_n hk dX10_isName_14 rfl ?_
  refine xgetR (ci := 10) (f := 12) hk dX10_isName_15 ⟨rfl, by decide, _, rfl, rfl⟩ kX10_39 ?_
  refine xgetNI (ci := 9) (f := 12) hk dX10_isName_18 ⟨rfl, by decide, _, rfl, rfl⟩ kX10_245 ?_
  obtain ⟨hi21, h⟩ := og_some h
  refine xiast hk dX10_isName_21 rfl (inB_v hi21) ?_
  refine xaload_n hk dX10_isName_22 rfl ?_
  refine xgetR (ci := 10) (f := 12) hk dX10_isName_23 ⟨rfl, by decide, _, rfl, rfl⟩ kX10_39 ?_
  refine xdup hk dX10_isName_26 rfl ?_
  refine xgetNI (ci := 9) (f := 14) hk dX10_isName_27 ⟨rfl, by decide, _, rfl, rfl⟩ kX10_287 ?_
  refine xiconst (v := 1) hk dX10_isName_30 (by decide) ?_
  refine xiadd hk dX10_isName_31 ?_
  refine xputIN (ci := 9) (f := 14) hk dX10_isName_32 ⟨rfl, by decide, _, rfl, rfl⟩ kX10_287 ⟨rfl, by decide +kernel⟩ ?_
  refine xaload_n hk dX10_isName_35 rfl ?_
  refine xaload_n hk dX10_isName_36 rfl ?_
  refine xgetI (ci := 10) (f := 9) hk dX10_isName_37 ⟨rfl, by decide, _, rfl, rfl⟩ kX10_236 ?_
  obtain ⟨u40, e40, h⟩ := ob_some h
  refine xcallV hk (c_X10_put e40) bX10_put kX10_275 dX10_isName_40 rfl ⟨_, _, _, _, rfl, rfl⟩ rfl (by first | decide | omega) ⟨by decide, by decide⟩ (Nat.le_of_ble_eq_true rfl) (det ?_)
  refine xaload_n hk dX10_isName_43 rfl ?_
  refine xbipush (v := 40) hk dX10_isName_44 (by decide) ?_
  refine xiload_n hk dX10_isName_46 rfl ?_
  obtain ⟨u47, e47, h⟩ := ob_some h
  refine xcallV hk (c_X10_eatAs e47) bX10_eatAs kX10_260 dX10_isName_47 rfl ⟨_, _, _, _, rfl, rfl⟩ rfl (by first | decide | omega) ⟨by decide, by decide⟩ (Nat.le_of_ble_eq_true rfl) (det ?_)
  refine xzret hk he dX10_isName_50 ⟨by decide, by decide⟩ (by first | with_reducible exact nar_b _ | rfl) ?_
  obtain rfl := Option.some.inj h
  exact ⟨rfl, rfl⟩

def f_X10_isNamed  (p : Int32) (x : XS) : Option (Bool × XS) := og (inB (x.1 0 9) 401) (ob (f_X10_put (x.1 2 ((x.1 0 9) : Int32).toNatClampNeg) x) (fun u10 => ob (f_X10_isName p (setI u10 0 9 ((u10.1 0 9) + 1))) (fun u25 => some (u25.1, u25.2))))

set_option maxHeartbeats 4000000 in
set_option maxRecDepth 100000 in
theorem c_X10_isNamed {g : Gx} {a : Nat → Nat} {x : XS}   {p : Int32} {u : Bool × XS}  (h : f_X10_isNamed  p x = some u) : Mx g yX10_isNamed cX10_isNamed 2 (some .boolean) 5 0 0 LM2 a x [.ref (a 0), .int p] (pr (some (.int (b2i u.1))) u.2) := by
  refine Mx_of (by decide +kernel) (Nat.le_of_ble_eq_true rfl) ?_
  intro k hk he hg
  subst hg
  rw [f_X10_isNamed] at h
  refine xaload_n hk dX10_isNamed_0 rfl ?_
  refine xaload_n hk dX10_isNamed_1 rfl ?_
  refine xgetR (ci := 10) (f := 4) hk dX10_isNamed_2 ⟨rfl, by decide, _, rfl, rfl⟩ kX10_17 ?_
  refine xaload_n hk dX10_isNamed_5 rfl ?_
  refine xgetI (ci := 10) (f := 9) hk dX10_isNamed_6 ⟨rfl, by decide, _, rfl, rfl⟩ kX10_236 ?_
  obtain ⟨hi9, h⟩ := og_some h
  refine xiald hk dX10_isNamed_9 rfl (inB_v hi9) ?_
  obtain ⟨u10, e10, h⟩ := ob_some h
  refine xcallV hk (c_X10_put e10) bX10_put kX10_275 dX10_isNamed_10 rfl ⟨_, _, _, _, rfl, rfl⟩ rfl (by first | decide | omega) ⟨by decide, by decide⟩ (Nat.le_of_ble_eq_true rfl) (det ?_)
  refine xaload_n hk dX10_isNamed_13 rfl ?_
  refine xdup hk dX10_isNamed_14 rfl ?_
  refine xgetI (ci := 10) (f := 9) hk dX10_isNamed_15 ⟨rfl, by decide, _, rfl, rfl⟩ kX10_236 ?_
  refine xiconst (v := 1) hk dX10_isNamed_18 (by decide) ?_
  refine xiadd hk dX10_isNamed_19 ?_
  refine xputI (ci := 10) (f := 9) hk dX10_isNamed_20 ⟨rfl, by decide, _, rfl, rfl⟩ kX10_236 ⟨rfl, by decide +kernel⟩ ?_
  refine xaload_n hk dX10_isNamed_23 rfl ?_
  refine xiload_n hk dX10_isNamed_24 rfl ?_
  obtain ⟨u25, e25, h⟩ := ob_some h
  refine xcallV hk (c_X10_isName e25) bX10_isName kX10_290 dX10_isNamed_25 rfl ⟨_, _, _, _, rfl, rfl⟩ rfl (by first | decide | omega) ⟨by decide, by decide⟩ (Nat.le_of_ble_eq_true rfl) (det ?_)
  refine xzret hk he dX10_isNamed_28 ⟨by decide, by decide⟩ (by first | with_reducible exact nar_b _ | rfl) ?_
  obtain rfl := Option.some.inj h
  exact ⟨rfl, rfl⟩

def f_X10_isClaimIn   (x : XS) : Option (Bool × XS) := ob (f_X10_isName 7 x) (fun u3 => (if (b2i u3.1) = 0 then some (false, u3.2) else ob (f_X10_is 10 u3.2) (fun u12 => (if (b2i u12.1) = 0 then ob (f_X10_is 11 u12.2) (fun u21 => (if (b2i u21.1) = 0 then some (false, u21.2) else ob (f_X10_is 11 u21.2) (fun u33 => (if (b2i u33.1) = 0 then ob (f_X10_put 0 u33.2) (fun u44 => some (true, (setI u44 0 9 ((u44.1 0 9) + 1)))) else ob (f_X10_put 1 u33.2) (fun u44 => some (true, (setI u44 0 9 ((u44.1 0 9) + 1)))))))) else ob (f_X10_is 11 u12.2) (fun u33 => (if (b2i u33.1) = 0 then ob (f_X10_put 0 u33.2) (fun u44 => some (true, (setI u44 0 9 ((u44.1 0 9) + 1)))) else ob (f_X10_put 1 u33.2) (fun u44 => some (true, (setI u44 0 9 ((u44.1 0 9) + 1))))))))))

set_option maxHeartbeats 4000000 in
set_option maxRecDepth 100000 in
theorem c_X10_isClaimIn {g : Gx} {a : Nat → Nat} {x : XS}    {u : Bool × XS}  (h : f_X10_isClaimIn   x = some u) : Mx g yX10_isClaimIn cX10_isClaimIn 1 (some .boolean) 5 0 0 LM2 a x [.ref (a 0)] (pr (some (.int (b2i u.1))) u.2) := by
  refine Mx_of (by decide +kernel) (Nat.le_of_ble_eq_true rfl) ?_
  intro k hk he hg
  subst hg
  rw [f_X10_isClaimIn] at h
  refine xaload_n hk dX10_isClaimIn_0 rfl ?_
  refine xbipush (v := 7) hk dX10_isClaimIn_1 (by decide) ?_
  obtain ⟨u3, e3, h⟩ := ob_some h
  refine xcallV hk (c_X10_isName e3) bX10_isName kX10_290 dX10_isClaimIn_3 rfl ⟨_, _, _, _, rfl, rfl⟩ rfl (by first | decide | omega) ⟨by decide, by decide⟩ (Nat.le_of_ble_eq_true rfl) (det ?_)
  refine xif_eq hk 27 dX10_isClaimIn_6 (by decide) (fun h6 => ?_) (fun h6 => ?_)
  · rw [if_pos h6] at h
    refine xiconst (v := 0) hk dX10_isClaimIn_27 (by decide) ?_
    refine xzret hk he dX10_isClaimIn_28 ⟨by decide, by decide⟩ (by first | with_reducible exact nar_b _ | rfl) ?_
    obtain rfl := Option.some.inj h
    exact ⟨rfl, rfl⟩
  · rw [if_neg h6] at h
    refine xaload_n hk dX10_isClaimIn_9 rfl ?_
    refine xbipush (v := 10) hk dX10_isClaimIn_10 (by decide) ?_
    obtain ⟨u12, e12, h⟩ := ob_some h
    refine xcallV hk (c_X10_is e12) bX10_is kX10_239 dX10_isClaimIn_12 rfl ⟨_, _, _, _, rfl, rfl⟩ rfl (by first | decide | omega) ⟨by decide, by decide⟩ (Nat.le_of_ble_eq_true rfl) (det ?_)
    refine xif_ne hk 29 dX10_isClaimIn_15 (by decide) (fun h15 => ?_) (fun h15 => ?_)
    · rw [if_neg h15] at h
      refine xaload_n hk dX10_isClaimIn_29 rfl ?_
      refine xaload_n hk dX10_isClaimIn_30 rfl ?_
      refine xbipush (v := 11) hk dX10_isClaimIn_31 (by decide) ?_
      obtain ⟨u33, e33, h⟩ := ob_some h
      refine xcallV hk (c_X10_is e33) bX10_is kX10_239 dX10_isClaimIn_33 rfl ⟨_, _, _, _, rfl, rfl⟩ rfl (by first | decide | omega) ⟨by decide, by decide⟩ (Nat.le_of_ble_eq_true rfl) (det ?_)
      refine xif_eq hk 43 dX10_isClaimIn_36 (by decide) (fun h36 => ?_) (fun h36 => ?_)
      · rw [if_pos h36] at h
        refine xiconst (v := 0) hk dX10_isClaimIn_43 (by decide) ?_
        obtain ⟨u44, e44, h⟩ := ob_some h
        refine xcallV hk (c_X10_put e44) bX10_put kX10_275 dX10_isClaimIn_44 rfl ⟨_, _, _, _, rfl, rfl⟩ rfl (by first | decide | omega) ⟨by decide, by decide⟩ (Nat.le_of_ble_eq_true rfl) (det ?_)
        refine xaload_n hk dX10_isClaimIn_47 rfl ?_
        refine xdup hk dX10_isClaimIn_48 rfl ?_
        refine xgetI (ci := 10) (f := 9) hk dX10_isClaimIn_49 ⟨rfl, by decide, _, rfl, rfl⟩ kX10_236 ?_
        refine xiconst (v := 1) hk dX10_isClaimIn_52 (by decide) ?_
        refine xiadd hk dX10_isClaimIn_53 ?_
        refine xputI (ci := 10) (f := 9) hk dX10_isClaimIn_54 ⟨rfl, by decide, _, rfl, rfl⟩ kX10_236 ⟨rfl, by decide +kernel⟩ ?_
        refine xiconst (v := 1) hk dX10_isClaimIn_57 (by decide) ?_
        refine xzret hk he dX10_isClaimIn_58 ⟨by decide, by decide⟩ (by first | with_reducible exact nar_b _ | rfl) ?_
        obtain rfl := Option.some.inj h
        exact ⟨rfl, rfl⟩
      · rw [if_neg h36] at h
        refine xiconst (v := 1) hk dX10_isClaimIn_39 (by decide) ?_
        refine xgoto hk 44 dX10_isClaimIn_40 (by decide) ?_
        obtain ⟨u44, e44, h⟩ := ob_some h
        refine xcallV hk (c_X10_put e44) bX10_put kX10_275 dX10_isClaimIn_44 rfl ⟨_, _, _, _, rfl, rfl⟩ rfl (by first | decide | omega) ⟨by decide, by decide⟩ (Nat.le_of_ble_eq_true rfl) (det ?_)
        refine xaload_n hk dX10_isClaimIn_47 rfl ?_
        refine xdup hk dX10_isClaimIn_48 rfl ?_
        refine xgetI (ci := 10) (f := 9) hk dX10_isClaimIn_49 ⟨rfl, by decide, _, rfl, rfl⟩ kX10_236 ?_
        refine xiconst (v := 1) hk dX10_isClaimIn_52 (by decide) ?_
        refine xiadd hk dX10_isClaimIn_53 ?_
        refine xputI (ci := 10) (f := 9) hk dX10_isClaimIn_54 ⟨rfl, by decide, _, rfl, rfl⟩ kX10_236 ⟨rfl, by decide +kernel⟩ ?_
        refine xiconst (v := 1) hk dX10_isClaimIn_57 (by decide) ?_
        refine xzret hk he dX10_isClaimIn_58 ⟨by decide, by decide⟩ (by first | with_reducible exact nar_b _ | rfl) ?_
        obtain rfl := Option.some.inj h
        exact ⟨rfl, rfl⟩
    · rw [if_pos h15] at h
      refine xaload_n hk dX10_isClaimIn_18 rfl ?_
      refine xbipush (v := 11) hk dX10_isClaimIn_19 (by decide) ?_
      obtain ⟨u21, e21, h⟩ := ob_some h
      refine xcallV hk (c_X10_is e21) bX10_is kX10_239 dX10_isClaimIn_21 rfl ⟨_, _, _, _, rfl, rfl⟩ rfl (by first | decide | omega) ⟨by decide, by decide⟩ (Nat.le_of_ble_eq_true rfl) (det ?_)
      refine xif_ne hk 29 dX10_isClaimIn_24 (by decide) (fun h24 => ?_) (fun h24 => ?_)
      · rw [if_neg h24] at h
        refine xaload_n hk dX10_isClaimIn_29 rfl ?_
        refine xaload_n hk dX10_isClaimIn_30 rfl ?_
        refine xbipush (v := 11) hk dX10_isClaimIn_31 (by decide) ?_
        obtain ⟨u33, e33, h⟩ := ob_some h
        refine xcallV hk (c_X10_is e33) bX10_is kX10_239 dX10_isClaimIn_33 rfl ⟨_, _, _, _, rfl, rfl⟩ rfl (by first | decide | omega) ⟨by decide, by decide⟩ (Nat.le_of_ble_eq_true rfl) (det ?_)
        refine xif_eq hk 43 dX10_isClaimIn_36 (by decide) (fun h36 => ?_) (fun h36 => ?_)
        · rw [if_pos h36] at h
          refine xiconst (v := 0) hk dX10_isClaimIn_43 (by decide) ?_
          obtain ⟨u44, e44, h⟩ := ob_some h
          refine xcallV hk (c_X10_put e44) bX10_put kX10_275 dX10_isClaimIn_44 rfl ⟨_, _, _, _, rfl, rfl⟩ rfl (by first | decide | omega) ⟨by decide, by decide⟩ (Nat.le_of_ble_eq_true rfl) (det ?_)
          refine xaload_n hk dX10_isClaimIn_47 rfl ?_
          refine xdup hk dX10_isClaimIn_48 rfl ?_
          refine xgetI (ci := 10) (f := 9) hk dX10_isClaimIn_49 ⟨rfl, by decide, _, rfl, rfl⟩ kX10_236 ?_
          refine xiconst (v := 1) hk dX10_isClaimIn_52 (by decide) ?_
          refine xiadd hk dX10_isClaimIn_53 ?_
          refine xputI (ci := 10) (f := 9) hk dX10_isClaimIn_54 ⟨rfl, by decide, _, rfl, rfl⟩ kX10_236 ⟨rfl, by decide +kernel⟩ ?_
          refine xiconst (v := 1) hk dX10_isClaimIn_57 (by decide) ?_
          refine xzret hk he dX10_isClaimIn_58 ⟨by decide, by decide⟩ (by first | with_reducible exact nar_b _ | rfl) ?_
          obtain rfl := Option.some.inj h
          exact ⟨rfl, rfl⟩
        · rw [if_neg h36] at h
          refine xiconst (v := 1) hk dX10_isClaimIn_39 (by decide) ?_
          refine xgoto hk 44 dX10_isClaimIn_40 (by decide) ?_
          obtain ⟨u44, e44, h⟩ := ob_some h
          refine xcallV hk (c_X10_put e44) bX10_put kX10_275 dX10_isClaimIn_44 rfl ⟨_, _, _, _, rfl, rfl⟩ rfl (by first | decide | omega) ⟨by decide, by decide⟩ (Nat.le_of_ble_eq_true rfl) (det ?_)
          refine xaload_n hk dX10_isClaimIn_47 rfl ?_
          refine xdup hk dX10_isClaimIn_48 rfl ?_
          refine xgetI (ci := 10) (f := 9) hk dX10_isClaimIn_49 ⟨rfl, by decide, _, rfl, rfl⟩ kX10_236 ?_
          refine xiconst (v := 1) hk dX10_isClaimIn_52 (by decide) ?_
          refine xiadd hk dX10_isClaimIn_53 ?_
          refine xputI (ci := 10) (f := 9) hk dX10_isClaimIn_54 ⟨rfl, by decide, _, rfl, rfl⟩ kX10_236 ⟨rfl, by decide +kernel⟩ ?_
          refine xiconst (v := 1) hk dX10_isClaimIn_57 (by decide) ?_
          refine xzret hk he dX10_isClaimIn_58 ⟨by decide, by decide⟩ (by first | with_reducible exact nar_b _ | rfl) ?_
          obtain rfl := Option.some.inj h
          exact ⟨rfl, rfl⟩
      · rw [if_pos h24] at h
        refine xiconst (v := 0) hk dX10_isClaimIn_27 (by decide) ?_
        refine xzret hk he dX10_isClaimIn_28 ⟨by decide, by decide⟩ (by first | with_reducible exact nar_b _ | rfl) ?_
        obtain rfl := Option.some.inj h
        exact ⟨rfl, rfl⟩

def f_X10_isOfClaims  (p : Int32) (x : XS) : Option (Bool × XS) := ob (f_X10_put p x) (fun u2 => ob (f_X10_isClaimIn (setI u2 0 9 ((u2.1 0 9) + 1))) (fun u16 => (if (b2i u16.1) = 0 then some (false, u16.2) else (if p = 19 then some (true, u16.2) else ob (f_X10_eat 22 u16.2) (fun u31 => (if (b2i u31.1) = 0 then some (false, u31.2) else ob (f_X10_isClaimIn u31.2) (fun u38 => (if (b2i u38.1) = 0 then some (false, u38.2) else some (true, u38.2)))))))))

set_option maxHeartbeats 4000000 in
set_option maxRecDepth 100000 in
theorem c_X10_isOfClaims {g : Gx} {a : Nat → Nat} {x : XS}   {p : Int32} {u : Bool × XS}  (h : f_X10_isOfClaims  p x = some u) : Mx g yX10_isOfClaims cX10_isOfClaims 2 (some .boolean) 6 0 0 LM2 a x [.ref (a 0), .int p] (pr (some (.int (b2i u.1))) u.2) := by
  refine Mx_of (by decide +kernel) (Nat.le_of_ble_eq_true rfl) ?_
  intro k hk he hg
  subst hg
  rw [f_X10_isOfClaims] at h
  refine xaload_n hk dX10_isOfClaims_0 rfl ?_
  refine xiload_n hk dX10_isOfClaims_1 rfl ?_
  obtain ⟨u2, e2, h⟩ := ob_some h
  refine xcallV hk (c_X10_put e2) bX10_put kX10_275 dX10_isOfClaims_2 rfl ⟨_, _, _, _, rfl, rfl⟩ rfl (by first | decide | omega) ⟨by decide, by decide⟩ (Nat.le_of_ble_eq_true rfl) (det ?_)
  refine xaload_n hk dX10_isOfClaims_5 rfl ?_
  refine xdup hk dX10_isOfClaims_6 rfl ?_
  refine xgetI (ci := 10) (f := 9) hk dX10_isOfClaims_7 ⟨rfl, by decide, _, rfl, rfl⟩ kX10_236 ?_
  refine xiconst (v := 1) hk dX10_isOfClaims_10 (by decide) ?_
  refine xiadd hk dX10_isOfClaims_11 ?_
  refine xputI (ci := 10) (f := 9) hk dX10_isOfClaims_12 ⟨rfl, by decide, _, rfl, rfl⟩ kX10_236 ⟨rfl, by decide +kernel⟩ ?_
  refine xaload_n hk dX10_isOfClaims_15 rfl ?_
  obtain ⟨u16, e16, h⟩ := ob_some h
  refine xcallV hk (c_X10_isClaimIn e16) bX10_isClaimIn kX10_308 dX10_isOfClaims_16 rfl ⟨_, _, _, _, rfl, rfl⟩ rfl (by first | decide | omega) ⟨by decide, by decide⟩ (Nat.le_of_ble_eq_true rfl) (det ?_)
  refine xif_eq hk 48 dX10_isOfClaims_19 (by decide) (fun h19 => ?_) (fun h19 => ?_)
  · rw [if_pos h19] at h
    refine xiconst (v := 0) hk dX10_isOfClaims_48 (by decide) ?_
    refine xzret hk he dX10_isOfClaims_49 ⟨by decide, by decide⟩ (by first | with_reducible exact nar_b _ | rfl) ?_
    obtain rfl := Option.some.inj h
    exact ⟨rfl, rfl⟩
  · rw [if_neg h19] at h
    refine xiload_n hk dX10_isOfClaims_22 rfl ?_
    refine xbipush (v := 19) hk dX10_isOfClaims_23 (by decide) ?_
    refine xicmp_eq hk 44 dX10_isOfClaims_25 (by decide) (fun h25 => ?_) (fun h25 => ?_)
    · rw [if_pos h25] at h
      refine xiconst (v := 1) hk dX10_isOfClaims_44 (by decide) ?_
      refine xgoto hk 49 dX10_isOfClaims_45 (by decide) ?_
      refine xzret hk he dX10_isOfClaims_49 ⟨by decide, by decide⟩ (by first | with_reducible exact nar_b _ | rfl) ?_
      obtain rfl := Option.some.inj h
      exact ⟨rfl, rfl⟩
    · rw [if_neg h25] at h
      refine xaload_n hk dX10_isOfClaims_28 rfl ?_
      refine xbipush (v := 22) hk dX10_isOfClaims_29 (by decide) ?_
      obtain ⟨u31, e31, h⟩ := ob_some h
      refine xcallV hk (c_X10_eat e31) bX10_eat kX10_242 dX10_isOfClaims_31 rfl ⟨_, _, _, _, rfl, rfl⟩ rfl (by first | decide | omega) ⟨by decide, by decide⟩ (Nat.le_of_ble_eq_true rfl) (det ?_)
      refine xif_eq hk 48 dX10_isOfClaims_34 (by decide) (fun h34 => ?_) (fun h34 => ?_)
      · rw [if_pos h34] at h
        refine xiconst (v := 0) hk dX10_isOfClaims_48 (by decide) ?_
        refine xzret hk he dX10_isOfClaims_49 ⟨by decide, by decide⟩ (by first | with_reducible exact nar_b _ | rfl) ?_
        obtain rfl := Option.some.inj h
        exact ⟨rfl, rfl⟩
      · rw [if_neg h34] at h
        refine xaload_n hk dX10_isOfClaims_37 rfl ?_
        obtain ⟨u38, e38, h⟩ := ob_some h
        refine xcallV hk (c_X10_isClaimIn e38) bX10_isClaimIn kX10_308 dX10_isOfClaims_38 rfl ⟨_, _, _, _, rfl, rfl⟩ rfl (by first | decide | omega) ⟨by decide, by decide⟩ (Nat.le_of_ble_eq_true rfl) (det ?_)
        refine xif_eq hk 48 dX10_isOfClaims_41 (by decide) (fun h41 => ?_) (fun h41 => ?_)
        · rw [if_pos h41] at h
          refine xiconst (v := 0) hk dX10_isOfClaims_48 (by decide) ?_
          refine xzret hk he dX10_isOfClaims_49 ⟨by decide, by decide⟩ (by first | with_reducible exact nar_b _ | rfl) ?_
          obtain rfl := Option.some.inj h
          exact ⟨rfl, rfl⟩
        · rw [if_neg h41] at h
          refine xiconst (v := 1) hk dX10_isOfClaims_44 (by decide) ?_
          refine xgoto hk 49 dX10_isOfClaims_45 (by decide) ?_
          refine xzret hk he dX10_isOfClaims_49 ⟨by decide, by decide⟩ (by first | with_reducible exact nar_b _ | rfl) ?_
          obtain rfl := Option.some.inj h
          exact ⟨rfl, rfl⟩

def f_X10_numberAt_L4   : Nat → Int32 → Int32 → Int32 → XS → Option (Int32 × XS)
  | 0, _, _, _, _ => none
  | n + 1, l1, l2, l3, x => og (inB l1 401) ((if (x.1 4 (l1 : Int32).toNatClampNeg) ≤ l3 then some (l2, x) else og (inB l1 401) (og (inB ((x.1 3 (l1 : Int32).toNatClampNeg) + l3) 2000) ((f_X10_numberAt_L4   n l1 (((10 * l2) + (x.1 1 (((x.1 3 (l1 : Int32).toNatClampNeg) + l3) : Int32).toNatClampNeg)) - 48) (l3 + 1) x)))))
def f_X10_numberAt  (p : Int32) (x : XS) : Option (Int32 × XS) := (f_X10_numberAt_L4   402 p 0 0 x)

set_option maxHeartbeats 4000000 in
set_option maxRecDepth 100000 in
theorem c_X10_numberAt {g : Gx} {a : Nat → Nat} {x : XS}   {p : Int32} {u : Int32 × XS}  (h : f_X10_numberAt  p x = some u) : Mx g yX10_numberAt cX10_numberAt 4 (some .int) 1 0 0 LM2 a x [.ref (a 0), .int p] (pr (some (.int u.1)) u.2) := by
  refine Mx_of (by decide +kernel) (Nat.le_of_ble_eq_true rfl) ?_
  intro k hk he hg
  subst hg
  rw [f_X10_numberAt] at h
  refine xiconst (v := 0) hk dX10_numberAt_0 (by decide) ?_
  refine xistore_n hk dX10_numberAt_1 (by decide) ?_
  refine xiconst (v := 0) hk dX10_numberAt_2 (by decide) ?_
  refine xistore_n hk dX10_numberAt_3 (by decide) ?_
  have loop4 : ∀ (n4 : Nat) (l1 : Int32) (l2 : Int32) (l3 : Int32) (x : XS), f_X10_numberAt_L4   n4 l1 l2 l3 x = some u → Wx k 0 0 LM2 a x 4 [(0, .ref (a 0)), (1, .int l1), (2, .int l2), (3, .int l3)] [] := by
    intro n4
    induction n4 with
    | zero => intro l1 l2 l3 x h; rw [f_X10_numberAt_L4] at h; cases h
    | succ n4 ih4 =>
      intro l1 l2 l3 x h
      rw [f_X10_numberAt_L4] at h
      refine xiload_n hk dX10_numberAt_4 rfl ?_
      refine xaload_n hk dX10_numberAt_5 rfl ?_
      refine xgetR (ci := 10) (f := 6) hk dX10_numberAt_6 ⟨rfl, by decide, _, rfl, rfl⟩ kX10_23 ?_
      refine xiload_n hk dX10_numberAt_9 rfl ?_
      obtain ⟨hi10, h⟩ := og_some h
      refine xiald hk dX10_numberAt_10 rfl (inB_v hi10) ?_
      refine xicmp_ge hk 42 dX10_numberAt_11 (by decide) (fun h11 => ?_) (fun h11 => ?_)
      · rw [if_pos h11] at h
        refine xiload_n hk dX10_numberAt_42 rfl ?_
        refine xiret hk he dX10_numberAt_43 ⟨by decide, by decide⟩ ?_
        obtain rfl := Option.some.inj h
        exact ⟨rfl, rfl⟩
      · rw [if_neg h11] at h
        refine xbipush (v := 10) hk dX10_numberAt_14 (by decide) ?_
        refine xiload_n hk dX10_numberAt_16 rfl ?_
        refine ximul hk dX10_numberAt_17 ?_
        refine xaload_n hk dX10_numberAt_18 rfl ?_
        refine xgetR (ci := 10) (f := 1) hk dX10_numberAt_19 ⟨rfl, by decide, _, rfl, rfl⟩ kX10_9 ?_
        refine xaload_n hk dX10_numberAt_22 rfl ?_
        refine xgetR (ci := 10) (f := 5) hk dX10_numberAt_23 ⟨rfl, by decide, _, rfl, rfl⟩ kX10_20 ?_
        refine xiload_n hk dX10_numberAt_26 rfl ?_
        obtain ⟨hi27, h⟩ := og_some h
        refine xiald hk dX10_numberAt_27 rfl (inB_v hi27) ?_
        refine xiload_n hk dX10_numberAt_28 rfl ?_
        refine xiadd hk dX10_numberAt_29 ?_
        obtain ⟨hi30, h⟩ := og_some h
        refine xiald hk dX10_numberAt_30 rfl (inB_v hi30) ?_
        refine xiadd hk dX10_numberAt_31 ?_
        refine xbipush (v := 48) hk dX10_numberAt_32 (by decide) ?_
        refine xisub hk dX10_numberAt_34 ?_
        refine xistore_n hk dX10_numberAt_35 (by decide) ?_
        refine xiinc (v := (l3 + 1)) hk dX10_numberAt_36 rfl (by decide) rfl ?_
        refine xgoto hk 4 dX10_numberAt_39 (by decide) ?_
        refine xsub [(0, .ref (a 0)), (1, .int l1), (2, .int (((10 * l2) + (x.1 1 (((x.1 3 (l1 : Int32).toNatClampNeg) + l3) : Int32).toNatClampNeg)) - 48)), (3, .int (l3 + 1))] rfl ?_
        exact ih4 _ _ _ _ h
  refine xsub [(0, .ref (a 0)), (1, .int p), (2, .int 0), (3, .int 0)] rfl ?_
  exact loop4 _ _ _ _ _ h

def f_X10_isSame_L19   : Nat → Int32 → Int32 → Int32 → XS → Option (Bool × XS)
  | 0, _, _, _, _ => none
  | n + 1, l1, l2, l3, x => og (inB l1 401) ((if (x.1 4 (l1 : Int32).toNatClampNeg) ≤ l3 then some (true, x) else og (inB l1 401) (og (inB ((x.1 3 (l1 : Int32).toNatClampNeg) + l3) 2000) (og (inB l2 401) (og (inB ((x.1 3 (l2 : Int32).toNatClampNeg) + l3) 2000) ((if (x.1 1 (((x.1 3 (l1 : Int32).toNatClampNeg) + l3) : Int32).toNatClampNeg) = (x.1 1 (((x.1 3 (l2 : Int32).toNatClampNeg) + l3) : Int32).toNatClampNeg) then (f_X10_isSame_L19   n l1 l2 (l3 + 1) x) else some (false, x))))))))
def f_X10_isSame  (p : Int32) (q : Int32) (x : XS) : Option (Bool × XS) := og (inB p 401) (og (inB q 401) ((if (x.1 4 (p : Int32).toNatClampNeg) = (x.1 4 (q : Int32).toNatClampNeg) then (f_X10_isSame_L19   402 p q 0 x) else some (false, x))))

set_option maxHeartbeats 4000000 in
set_option maxRecDepth 100000 in
theorem c_X10_isSame {g : Gx} {a : Nat → Nat} {x : XS}   {p : Int32} {q : Int32} {u : Bool × XS}  (h : f_X10_isSame  p q x = some u) : Mx g yX10_isSame cX10_isSame 4 (some .boolean) 1 0 0 LM2 a x [.ref (a 0), .int p, .int q] (pr (some (.int (b2i u.1))) u.2) := by
  refine Mx_of (by decide +kernel) (Nat.le_of_ble_eq_true rfl) ?_
  intro k hk he hg
  subst hg
  rw [f_X10_isSame] at h
  refine xaload_n hk dX10_isSame_0 rfl ?_
  refine xgetR (ci := 10) (f := 6) hk dX10_isSame_1 ⟨rfl, by decide, _, rfl, rfl⟩ kX10_23 ?_
  refine xiload_n hk dX10_isSame_4 rfl ?_
  obtain ⟨hi5, h⟩ := og_some h
  refine xiald hk dX10_isSame_5 rfl (inB_v hi5) ?_
  refine xaload_n hk dX10_isSame_6 rfl ?_
  refine xgetR (ci := 10) (f := 6) hk dX10_isSame_7 ⟨rfl, by decide, _, rfl, rfl⟩ kX10_23 ?_
  refine xiload_n hk dX10_isSame_10 rfl ?_
  obtain ⟨hi11, h⟩ := og_some h
  refine xiald hk dX10_isSame_11 rfl (inB_v hi11) ?_
  refine xicmp_eq hk 17 dX10_isSame_12 (by decide) (fun h12 => ?_) (fun h12 => ?_)
  · rw [if_pos h12] at h
    refine xiconst (v := 0) hk dX10_isSame_17 (by decide) ?_
    refine xistore_n hk dX10_isSame_18 (by decide) ?_
    have loop19 : ∀ (n19 : Nat) (l1 : Int32) (l2 : Int32) (l3 : Int32) (x : XS), f_X10_isSame_L19   n19 l1 l2 l3 x = some u → Wx k 0 0 LM2 a x 19 [(0, .ref (a 0)), (1, .int l1), (2, .int l2), (3, .int l3)] [] := by
      intro n19
      induction n19 with
      | zero => intro l1 l2 l3 x h; rw [f_X10_isSame_L19] at h; cases h
      | succ n19 ih19 =>
        intro l1 l2 l3 x h
        rw [f_X10_isSame_L19] at h
        refine xiload_n hk dX10_isSame_19 rfl ?_
        refine xaload_n hk dX10_isSame_20 rfl ?_
        refine xgetR (ci := 10) (f := 6) hk dX10_isSame_21 ⟨rfl, by decide, _, rfl, rfl⟩ kX10_23 ?_
        refine xiload_n hk dX10_isSame_24 rfl ?_
        obtain ⟨hi25, h⟩ := og_some h
        refine xiald hk dX10_isSame_25 rfl (inB_v hi25) ?_
        refine xicmp_ge hk 66 dX10_isSame_26 (by decide) (fun h26 => ?_) (fun h26 => ?_)
        · rw [if_pos h26] at h
          refine xiconst (v := 1) hk dX10_isSame_66 (by decide) ?_
          refine xzret hk he dX10_isSame_67 ⟨by decide, by decide⟩ (by first | with_reducible exact nar_b _ | rfl) ?_
          obtain rfl := Option.some.inj h
          exact ⟨rfl, rfl⟩
        · rw [if_neg h26] at h
          refine xaload_n hk dX10_isSame_29 rfl ?_
          refine xgetR (ci := 10) (f := 1) hk dX10_isSame_30 ⟨rfl, by decide, _, rfl, rfl⟩ kX10_9 ?_
          refine xaload_n hk dX10_isSame_33 rfl ?_
          refine xgetR (ci := 10) (f := 5) hk dX10_isSame_34 ⟨rfl, by decide, _, rfl, rfl⟩ kX10_20 ?_
          refine xiload_n hk dX10_isSame_37 rfl ?_
          obtain ⟨hi38, h⟩ := og_some h
          refine xiald hk dX10_isSame_38 rfl (inB_v hi38) ?_
          refine xiload_n hk dX10_isSame_39 rfl ?_
          refine xiadd hk dX10_isSame_40 ?_
          obtain ⟨hi41, h⟩ := og_some h
          refine xiald hk dX10_isSame_41 rfl (inB_v hi41) ?_
          refine xaload_n hk dX10_isSame_42 rfl ?_
          refine xgetR (ci := 10) (f := 1) hk dX10_isSame_43 ⟨rfl, by decide, _, rfl, rfl⟩ kX10_9 ?_
          refine xaload_n hk dX10_isSame_46 rfl ?_
          refine xgetR (ci := 10) (f := 5) hk dX10_isSame_47 ⟨rfl, by decide, _, rfl, rfl⟩ kX10_20 ?_
          refine xiload_n hk dX10_isSame_50 rfl ?_
          obtain ⟨hi51, h⟩ := og_some h
          refine xiald hk dX10_isSame_51 rfl (inB_v hi51) ?_
          refine xiload_n hk dX10_isSame_52 rfl ?_
          refine xiadd hk dX10_isSame_53 ?_
          obtain ⟨hi54, h⟩ := og_some h
          refine xiald hk dX10_isSame_54 rfl (inB_v hi54) ?_
          refine xicmp_eq hk 60 dX10_isSame_55 (by decide) (fun h55 => ?_) (fun h55 => ?_)
          · rw [if_pos h55] at h
            refine xiinc (v := (l3 + 1)) hk dX10_isSame_60 rfl (by decide) rfl ?_
            refine xgoto hk 19 dX10_isSame_63 (by decide) ?_
            refine xsub [(0, .ref (a 0)), (1, .int l1), (2, .int l2), (3, .int (l3 + 1))] rfl ?_
            exact ih19 _ _ _ _ h
          · rw [if_neg h55] at h
            refine xiconst (v := 0) hk dX10_isSame_58 (by decide) ?_
            refine xzret hk he dX10_isSame_59 ⟨by decide, by decide⟩ (by first | with_reducible exact nar_b _ | rfl) ?_
            obtain rfl := Option.some.inj h
            exact ⟨rfl, rfl⟩
    refine xsub [(0, .ref (a 0)), (1, .int p), (2, .int q), (3, .int 0)] rfl ?_
    exact loop19 _ _ _ _ _ h
  · rw [if_neg h12] at h
    refine xiconst (v := 0) hk dX10_isSame_15 (by decide) ?_
    refine xzret hk he dX10_isSame_16 ⟨by decide, by decide⟩ (by first | with_reducible exact nar_b _ | rfl) ?_
    obtain rfl := Option.some.inj h
    exact ⟨rfl, rfl⟩

def f_X10_told_L5   : Nat → Int32 → Int32 → Int32 → Int32 → XS → Option (Int32 × XS)
  | 0, _, _, _, _, _ => none
  | n + 1, l1, l2, l3, l4, x => (if l1 ≤ l4 then some ((-1), x) else og (inB l4 401) ((if (x.1 5 (l4 : Int32).toNatClampNeg) = l2 then ob (f_X10_isSame l4 l1 x) (fun u29 => (if (b2i u29.1) = 0 then (f_X10_told_L5   n l1 l2 (l3 + 1) (l4 + 1) u29.2) else some (l3, u29.2))) else (f_X10_told_L5   n l1 l2 l3 (l4 + 1) x))))
def f_X10_told  (p : Int32) (q : Int32) (x : XS) : Option (Int32 × XS) := (f_X10_told_L5   402 p q 0 0 x)

set_option maxHeartbeats 4000000 in
set_option maxRecDepth 100000 in
theorem c_X10_told {g : Gx} {a : Nat → Nat} {x : XS}   {p : Int32} {q : Int32} {u : Int32 × XS}  (h : f_X10_told  p q x = some u) : Mx g yX10_told cX10_told 5 (some .int) 2 0 0 LM2 a x [.ref (a 0), .int p, .int q] (pr (some (.int u.1)) u.2) := by
  refine Mx_of (by decide +kernel) (Nat.le_of_ble_eq_true rfl) ?_
  intro k hk he hg
  subst hg
  rw [f_X10_told] at h
  refine xiconst (v := 0) hk dX10_told_0 (by decide) ?_
  refine xistore_n hk dX10_told_1 (by decide) ?_
  refine xiconst (v := 0) hk dX10_told_2 (by decide) ?_
  refine xistore hk dX10_told_3 (by decide) ?_
  have loop5 : ∀ (n5 : Nat) (l1 : Int32) (l2 : Int32) (l3 : Int32) (l4 : Int32) (x : XS), f_X10_told_L5   n5 l1 l2 l3 l4 x = some u → Wx k 0 0 LM2 a x 5 [(0, .ref (a 0)), (1, .int l1), (2, .int l2), (3, .int l3), (4, .int l4)] [] := by
    intro n5
    induction n5 with
    | zero => intro l1 l2 l3 l4 x h; rw [f_X10_told_L5] at h; cases h
    | succ n5 ih5 =>
      intro l1 l2 l3 l4 x h
      rw [f_X10_told_L5] at h
      refine xiload hk dX10_told_5 rfl ?_
      refine xiload_n hk dX10_told_7 rfl ?_
      refine xicmp_ge hk 46 dX10_told_8 (by decide) (fun h8 => ?_) (fun h8 => ?_)
      · rw [if_pos h8] at h
        refine xiconst (v := (-1)) hk dX10_told_46 (by decide) ?_
        refine xiret hk he dX10_told_47 ⟨by decide, by decide⟩ ?_
        obtain rfl := Option.some.inj h
        exact ⟨rfl, rfl⟩
      · rw [if_neg h8] at h
        refine xaload_n hk dX10_told_11 rfl ?_
        refine xgetR (ci := 10) (f := 7) hk dX10_told_12 ⟨rfl, by decide, _, rfl, rfl⟩ kX10_26 ?_
        refine xiload hk dX10_told_15 rfl ?_
        obtain ⟨hi17, h⟩ := og_some h
        refine xiald hk dX10_told_17 rfl (inB_v hi17) ?_
        refine xiload_n hk dX10_told_18 rfl ?_
        refine xicmp_eq hk 25 dX10_told_19 (by decide) (fun h19 => ?_) (fun h19 => ?_)
        · rw [if_pos h19] at h
          refine xaload_n hk dX10_told_25 rfl ?_
          refine xiload hk dX10_told_26 rfl ?_
          refine xiload_n hk dX10_told_28 rfl ?_
          obtain ⟨u29, e29, h⟩ := ob_some h
          refine xcallV hk (c_X10_isSame e29) bX10_isSame kX10_324 dX10_told_29 rfl ⟨_, _, _, _, rfl, rfl⟩ rfl (by first | decide | omega) ⟨by decide, by decide⟩ (Nat.le_of_ble_eq_true rfl) (det ?_)
          refine xif_eq hk 37 dX10_told_32 (by decide) (fun h32 => ?_) (fun h32 => ?_)
          · rw [if_pos h32] at h
            refine xiinc (v := (l3 + 1)) hk dX10_told_37 rfl (by decide) rfl ?_
            refine xiinc (v := (l4 + 1)) hk dX10_told_40 rfl (by decide) rfl ?_
            refine xgoto hk 5 dX10_told_43 (by decide) ?_
            refine xsub [(0, .ref (a 0)), (1, .int l1), (2, .int l2), (3, .int (l3 + 1)), (4, .int (l4 + 1))] rfl ?_
            exact ih5 _ _ _ _ _ h
          · rw [if_neg h32] at h
            refine xiload_n hk dX10_told_35 rfl ?_
            refine xiret hk he dX10_told_36 ⟨by decide, by decide⟩ ?_
            obtain rfl := Option.some.inj h
            exact ⟨rfl, rfl⟩
        · rw [if_neg h19] at h
          refine xgoto hk 40 dX10_told_22 (by decide) ?_
          refine xiinc (v := (l4 + 1)) hk dX10_told_40 rfl (by decide) rfl ?_
          refine xgoto hk 5 dX10_told_43 (by decide) ?_
          refine xsub [(0, .ref (a 0)), (1, .int l1), (2, .int l2), (3, .int l3), (4, .int (l4 + 1))] rfl ?_
          exact ih5 _ _ _ _ _ h
  refine xsub [(0, .ref (a 0)), (1, .int p), (2, .int q), (3, .int 0), (4, .int 0)] rfl ?_
  exact loop5 _ _ _ _ _ _ h

