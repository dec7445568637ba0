theorem kX4_18 : Cond.fieldLink RX4 18 "FeudBook$Reader" "tokens" "LFeudBook$Tokens;" ∈ GW := gw_mem 214 (by decide +kernel) (by decide +kernel)
theorem kX4_26 : Cond.fieldLink RX4 26 "FeudBook$Reader" "at" "I" ∈ GW := gw_mem 218 (by decide +kernel) (by decide +kernel)
theorem kX4_58 : Cond.methodLink RX4 58 yX6_kindAt ∈ GW := gw_mem 1009 (by decide +kernel) (by decide +kernel)
theorem bX6_kindAt : CBv yX6_kindAt cX6_kindAt 2 (some .int) 1 := ⟨⟨gw_mem 1012 (by decide +kernel) (by decide +kernel), gw_mem 15 (by decide +kernel) (by decide +kernel), by decide +kernel, by decide⟩, gw_mem 1010 (by decide +kernel) (by decide +kernel), gw_mem 1011 (by decide +kernel) (by decide +kernel)⟩
theorem kX4_30 : Cond.fieldLink RX4 30 "FeudBook$Reader" "error" "I" ∈ GW := gw_mem 219 (by decide +kernel) (by decide +kernel)
theorem kX4_49 : Cond.fieldLink RX4 49 "FeudBook$Reader" "errorToken" "I" ∈ GW := gw_mem 220 (by decide +kernel) (by decide +kernel)
theorem kX4_71 : Cond.methodLink RX4 71 yX6_valueAt ∈ GW := gw_mem 1021 (by decide +kernel) (by decide +kernel)
theorem bX6_valueAt : CBv yX6_valueAt cX6_valueAt 2 (some .long) 1 := ⟨⟨gw_mem 1024 (by decide +kernel) (by decide +kernel), gw_mem 15 (by decide +kernel) (by decide +kernel), by decide +kernel, by decide⟩, gw_mem 1022 (by decide +kernel) (by decide +kernel), gw_mem 1023 (by decide +kernel) (by decide +kernel)⟩
theorem kX4_78 : Cond.methodLink RX4 78 yX4_find ∈ GW := gw_mem 1025 (by decide +kernel) (by decide +kernel)
theorem bX4_find : CBs yX4_find cX4_find 5 (some .int) 3 := ⟨⟨gw_mem 1027 (by decide +kernel) (by decide +kernel), gw_mem 17 (by decide +kernel) (by decide +kernel), by decide +kernel, by decide⟩, gw_mem 1026 (by decide +kernel) (by decide +kernel)⟩
theorem kX4_100 : Cond.methodLink RX4 100 Lib.Math.max.name ∈ GW := gw_mem 1052 (by decide +kernel) (by decide +kernel)
theorem kX4_82 : Cond.methodLink RX4 82 yX4_note ∈ GW := gw_mem 1028 (by decide +kernel) (by decide +kernel)
theorem bX4_note : CBv yX4_note cX4_note 2 none 1 := ⟨⟨gw_mem 1031 (by decide +kernel) (by decide +kernel), gw_mem 17 (by decide +kernel) (by decide +kernel), by decide +kernel, by decide⟩, gw_mem 1030 (by decide +kernel) (by decide +kernel), gw_sel 34 (by decide +kernel) (by decide +kernel)⟩
theorem kX4_9 : Cond.fieldLink RX4 9 "FeudBook$Reader" "familyNames" "[J" ∈ GW := gw_mem 216 (by decide +kernel) (by decide +kernel)
theorem kX4_22 : Cond.fieldLink RX4 22 "FeudBook$Reader" "draft" "LFeudBook$Book;" ∈ GW := gw_mem 215 (by decide +kernel) (by decide +kernel)
theorem kX4_75 : Cond.fieldLinkNest RX4 75 "FeudBook$Book" "families" "I" "FeudBook" ∈ NW := nw_mem 151 (by decide +kernel) rfl
theorem kX4_106 : Cond.methodLink RX4 106 yX4_readKnownName ∈ GW := gw_mem 1048 (by decide +kernel) (by decide +kernel)
theorem bX4_readKnownName : CBv yX4_readKnownName cX4_readKnownName 4 (some .int) 2 := ⟨⟨gw_mem 1051 (by decide +kernel) (by decide +kernel), gw_mem 17 (by decide +kernel) (by decide +kernel), by decide +kernel, by decide⟩, gw_mem 1050 (by decide +kernel) (by decide +kernel), gw_sel 39 (by decide +kernel) (by decide +kernel)⟩
theorem kX4_46 : Cond.methodLink RX4 46 yX4_take ∈ GW := gw_mem 1040 (by decide +kernel) (by decide +kernel)
theorem bX4_take : CBv yX4_take cX4_take 2 (some .boolean) 1 := ⟨⟨gw_mem 1043 (by decide +kernel) (by decide +kernel), gw_mem 17 (by decide +kernel) (by decide +kernel), by decide +kernel, by decide⟩, gw_mem 1042 (by decide +kernel) (by decide +kernel), gw_sel 37 (by decide +kernel) (by decide +kernel)⟩
theorem kX4_38 : Cond.methodLink RX4 38 yX4_isNext ∈ GW := gw_mem 1005 (by decide +kernel) (by decide +kernel)
theorem bX4_isNext : CBv yX4_isNext cX4_isNext 2 (some .boolean) 1 := ⟨⟨gw_mem 1008 (by decide +kernel) (by decide +kernel), gw_mem 17 (by decide +kernel) (by decide +kernel), by decide +kernel, by decide⟩, gw_mem 1007 (by decide +kernel) (by decide +kernel), gw_sel 31 (by decide +kernel) (by decide +kernel)⟩
theorem kX4_97 : Cond.fieldLinkNest RX4 97 "FeudBook$Book" "statements" "I" "FeudBook" ∈ NW := nw_mem 156 (by decide +kernel) rfl
theorem kX4_15 : Cond.fieldLink RX4 15 "FeudBook$Reader" "statementNames" "[J" ∈ GW := gw_mem 217 (by decide +kernel) (by decide +kernel)
def adv (x : XS) : XS := setI x 34 4 (x.1 34 4 + 1)
theorem adv_def (x : XS) : setI x 34 4 (x.1 34 4 + 1) = adv x := rfl
def curK (x : XS) : Int32 := kindAtF x (x.1 34 4)
def nextB (x : XS) (kd : Int32) : Bool := decide (curK x = kd)
def takeU (x : XS) (kd : Int32) : Bool × XS := if nextB x kd then (true, adv x) else (false, x)
def deepU (x : XS) (kd d : Int32) : Bool × XS := if 8 ≤ d then (false, x) else if nextB x kd then (true, adv x) else (false, x)
def noteF (x : XS) (e : Int32) : XS := if x.1 34 5 = 0 then setI (setI x 34 5 e) 34 6 (x.1 34 4) else x
def findL (x : XS) (q : Nat) (nm : Int64) : Nat → Nat → Int32
  | 0, _ => -1
  | r + 1, j => if x.2 q j = nm then nI j else findL x q nm r (j + 1)
def findF (x : XS) (q n : Nat) (c : Int32) (nm : Int64) : Int32 := findL x q nm (min c.toNatClampNeg n) 0
def knownU (x : XS) (q n : Nat) (c : Int32) : Int32 × XS := if nextB x 258 then
  let m := findF x q n c (valueAtF x (x.1 34 4))
  (maxI m 0, adv (if m < 0 then noteF x 3 else x)) else (-1, x)
def claimU (x : XS) : Int32 × XS :=
  let u := knownU x 35 10 (x.1 8 0)
  if u.1 < 0 then (-1, u.2) else
  let t := takeU u.2 310
  if t.1 then (2 * u.1, t.2) else
  let t2 := takeU t.2 311
  if t2.1 then (2 * u.1 + 1, t2.2) else (-1, t2.2)
def famU (x0 : XS) : Bool × XS :=
  let x := adv x0
  if nextB x 258 then
    let nm := valueAtF x (x.1 34 4)
    let c := x.1 8 0
    if findF x 35 10 c nm < 0 then
      (if c < 0 then (true, adv (noteF x 4)) else if nI 10 ≤ c then (true, adv (noteF x 4)) else
        let y := setL x 35 c.toNatClampNeg nm
        (true, adv (setI y 8 0 (y.1 8 0 + 1))))
    else (true, adv (noteF x 2))
  else (false, x)
def stnU (x : XS) : Bool × XS := if nextB x 258 then
    let nm := valueAtF x (x.1 34 4)
    let c := x.1 8 1
    if findF x 36 20 c nm < 0 then
      (if c < 0 then (true, adv (noteF x 4)) else if nI 20 ≤ c then (true, adv (noteF x 4)) else (true, adv (setL x 36 c.toNatClampNeg nm)))
    else (true, adv (noteF x 2))
  else (false, x)
/-- the claims of a statement, behind its name -/
def stmB (kd bt : Int32) (x : XS) : Bool × XS :=
  let c1 := claimU x
  if c1.1 < 0 then (false, c1.2) else
  if bt = 263 then (true, addStF c1.2 kd c1.1 c1.1) else
  let t := takeU c1.2 bt
  if t.1 then (if (claimU t.2).1 < 0 then (false, (claimU t.2).2) else (true, addStF (claimU t.2).2 kd c1.1 (claimU t.2).1)) else (false, t.2)
def stmU (x : XS) (kd ah bt : Int32) : Bool × XS :=
  let n := stnU (adv x)
  if n.1 then
    (if ah = 263 then stmB kd bt n.2 else
     let t := takeU n.2 ah
     if t.1 then stmB kd bt t.2 else (false, t.2))
  else (false, n.2)
/-- operands with one operator between -/
def opsL (op : Int32) (R : XS → Bool × XS) : Nat → XS → Bool × XS
  | 0, x => (true, x)
  | n + 1, x =>
    let t := takeU x op
    if t.1 then
      let b := R t.2
      if b.1 then opsL op R n (addCoF b.2 op 0 0) else (false, b.2)
    else (true, t.2)
def opsU (op : Int32) (R : XS → Bool × XS) (x : XS) : Bool × XS :=
  let b := R x
  if b.1 then opsL op R 400 b.2 else (false, b.2)
/-- operands with one of two operators between -/
def op2L (o1 o2 : Int32) (R : XS → Bool × XS) : Nat → XS → Bool × XS
  | 0, x => (true, x)
  | n + 1, x => if nextB x o1 || nextB x o2 then
      let b := R (adv x)
      if b.1 then op2L o1 o2 R n (addCoF b.2 (curK x) 0 0) else (false, b.2)
    else (true, x)
def op2U (o1 o2 : Int32) (R : XS → Bool × XS) (x : XS) : Bool × XS :=
  let b := R x
  if b.1 then op2L o1 o2 R 400 b.2 else (false, b.2)
def sumU (R : XS → Bool × XS) : XS → Bool × XS := op2U 43 45 (op2U 42 47 R)
/-- a value at the depth d; deeper values are read by R -/
def valS (d : Int32) (R : XS → Bool × XS) (x : XS) : Bool × XS :=
  let kd := curK x
  if kd = 40 then
    let t := deepU x 40 d
    if t.1 then (let s := sumU R t.2; if s.1 then takeU s.2 41 else (false, s.2)) else (false, t.2)
  else if kd = 45 then
    let t := deepU x 45 d
    if t.1 then (let s := R t.2; if s.1 then (true, addCoF s.2 262 0 0) else (false, s.2)) else (false, t.2)
  else if kd = 259 then (true, adv (addCoF x kd (valueAtF x (x.1 34 4)).toInt32 0))
  else if kd = 315 then (true, adv (addCoF x kd (valueAtF x (x.1 34 4)).toInt32 0))
  else if kd = 316 then (true, adv (addCoF x kd (valueAtF x (x.1 34 4)).toInt32 0))
  else if kd = 317 then (true, adv (addCoF x kd (valueAtF x (x.1 34 4)).toInt32 0))
  else if kd = 318 then (true, adv (addCoF x kd (valueAtF x (x.1 34 4)).toInt32 0))
  else if kd = 325 ∨ kd = 326 then
    let t := deepU (adv x) 40 d
    if t.1 then
      let s1 := sumU R t.2
      if s1.1 then
        let c := takeU s1.2 44
        if c.1 then
          let s2 := sumU R c.2
          if s2.1 then
            let e := takeU s2.2 41
            if e.1 then (true, addCoF e.2 kd 0 0) else (false, e.2)
          else (false, s2.2)
        else (false, c.2)
      else (false, s1.2)
    else (false, t.2)
  else (false, x)
def valU : Nat → XS → Bool × XS
  | 0 => valS (nI 8) (fun x => (false, x))
  | f + 1 => valS (nI (7 - f)) (valU f)

theorem b2iT : b2i true = 1 := rfl
theorem b2iF : b2i false = 0 := rfl
set_option maxHeartbeats 4000000 in
set_option maxRecDepth 100000 in
theorem c_X4_isNext {g : Gx} {a : Nat → Nat} {x : XS} {kd : Int32} : Mx g yX4_isNext cX4_isNext 2 (some .boolean) 2 0 0 LF a x [.ref (a 34), .int kd] (pr (some (.int (b2i (nextB x kd)))) x) := by
  refine Mx_of (by decide +kernel) (Nat.le_of_ble_eq_true rfl) ?_
  intro k hk he hg
  subst hg

  refine xaload_n hk dX4_isNext_0 rfl ?_
  refine xgetR (ci := 4) (f := 0) hk dX4_isNext_1 ⟨rfl, by decide, _, rfl, rfl⟩ kX4_18 ?_
  refine xaload_n hk dX4_isNext_4 rfl ?_
  refine xgetI (ci := 4) (f := 4) hk dX4_isNext_5 ⟨rfl, by decide, _, rfl, rfl⟩ kX4_26 ?_
  refine xcallV hk c_X6_kindAt bX6_kindAt kX4_58 dX4_isNext_8 rfl ⟨_, _, _, _, rfl, rfl⟩ rfl (by decide) ⟨by decide, by decide⟩ (Nat.le_of_ble_eq_true rfl) (det ?_)
  refine xiload_n hk dX4_isNext_11 rfl ?_
  refine xicmp_ne hk 19 dX4_isNext_12 (by decide) (fun h12 => ?_) (fun h12 => ?_)
  · refine xiconst (v := 0) hk dX4_isNext_19 (by decide) ?_
    refine xzret hk he dX4_isNext_20 ⟨by decide, by decide⟩ (by first | with_reducible exact nar_b _ | rfl) ?_
    exact ⟨by simp [nextB, curK, h12, b2i], rfl⟩
  · refine xiconst (v := 1) hk dX4_isNext_15 (by decide) ?_
    refine xgoto hk 20 dX4_isNext_16 (by decide) ?_
    refine xzret hk he dX4_isNext_20 ⟨by decide, by decide⟩ (by first | with_reducible exact nar_b _ | rfl) ?_
    exact ⟨by simp [nextB, curK, h12, b2i], rfl⟩
set_option maxHeartbeats 4000000 in
set_option maxRecDepth 100000 in
theorem c_X4_take {g : Gx} {a : Nat → Nat} {x : XS} {kd : Int32} : Mx g yX4_take cX4_take 2 (some .boolean) 2 0 0 LF a x [.ref (a 34), .int kd] (pr (some (.int (b2i (takeU x kd).1))) (takeU x kd).2) := by
  refine Mx_of (by decide +kernel) (Nat.le_of_ble_eq_true rfl) ?_
  intro k hk he hg
  subst hg

  refine xaload_n hk dX4_take_0 rfl ?_
  refine xgetR (ci := 4) (f := 0) hk dX4_take_1 ⟨rfl, by decide, _, rfl, rfl⟩ kX4_18 ?_
  refine xaload_n hk dX4_take_4 rfl ?_
  refine xgetI (ci := 4) (f := 4) hk dX4_take_5 ⟨rfl, by decide, _, rfl, rfl⟩ kX4_26 ?_
  refine xcallV hk c_X6_kindAt bX6_kindAt kX4_58 dX4_take_8 rfl ⟨_, _, _, _, rfl, rfl⟩ rfl (by decide) ⟨by decide, by decide⟩ (Nat.le_of_ble_eq_true rfl) (det ?_)
  refine xiload_n hk dX4_take_11 rfl ?_
  refine xicmp_eq hk 17 dX4_take_12 (by decide) (fun h12 => ?_) (fun h12 => ?_)
  · refine xaload_n hk dX4_take_17 rfl ?_
    refine xdup hk dX4_take_18 rfl ?_
    refine xgetI (ci := 4) (f := 4) hk dX4_take_19 ⟨rfl, by decide, _, rfl, rfl⟩ kX4_26 ?_
    refine xiconst (v := 1) hk dX4_take_22 (by decide) ?_
    refine xiadd hk dX4_take_23 ?_
    refine xputI (ci := 4) (f := 4) hk dX4_take_24 ⟨rfl, by decide, _, rfl, rfl⟩ kX4_26 ⟨rfl, by decide +kernel⟩ ?_
    refine xiconst (v := 1) hk dX4_take_27 (by decide) ?_
    refine xzret hk he dX4_take_28 ⟨by decide, by decide⟩ (by first | with_reducible exact nar_b _ | rfl) ?_
    exact ⟨by simp [takeU, nextB, curK, h12, b2i], by simp [takeU, nextB, curK, h12, adv]⟩
  · refine xiconst (v := 0) hk dX4_take_15 (by decide) ?_
    refine xzret hk he dX4_take_16 ⟨by decide, by decide⟩ (by first | with_reducible exact nar_b _ | rfl) ?_
    exact ⟨by simp [takeU, nextB, curK, h12, b2i], by simp [takeU, nextB, curK, h12, adv]⟩
set_option maxHeartbeats 4000000 in
set_option maxRecDepth 100000 in
theorem c_X4_takeDeeper {g : Gx} {a : Nat → Nat} {x : XS} {kd d : Int32} : Mx g yX4_takeDeeper cX4_takeDeeper 3 (some .boolean) 2 0 0 LF a x [.ref (a 34), .int kd, .int d] (pr (some (.int (b2i (deepU x kd d).1))) (deepU x kd d).2) := by
  refine Mx_of (by decide +kernel) (Nat.le_of_ble_eq_true rfl) ?_
  intro k hk he hg
  subst hg

  refine xiload_n hk dX4_takeDeeper_0 rfl ?_
  refine xbipush (v := 8) hk dX4_takeDeeper_1 (by decide) ?_
  refine xicmp_ge hk 21 dX4_takeDeeper_3 (by decide) (fun h3 => ?_) (fun h3 => ?_)
  · refine xiconst (v := 0) hk dX4_takeDeeper_21 (by decide) ?_
    refine xzret hk he dX4_takeDeeper_22 ⟨by decide, by decide⟩ (by first | with_reducible exact nar_b _ | rfl) ?_
    exact ⟨by simp [deepU, nextB, curK, b2i, *], by simp [deepU, nextB, curK, adv, *]⟩
  · refine xaload_n hk dX4_takeDeeper_6 rfl ?_
    refine xgetR (ci := 4) (f := 0) hk dX4_takeDeeper_7 ⟨rfl, by decide, _, rfl, rfl⟩ kX4_18 ?_
    refine xaload_n hk dX4_takeDeeper_10 rfl ?_
    refine xgetI (ci := 4) (f := 4) hk dX4_takeDeeper_11 ⟨rfl, by decide, _, rfl, rfl⟩ kX4_26 ?_
    refine xcallV hk c_X6_kindAt bX6_kindAt kX4_58 dX4_takeDeeper_14 rfl ⟨_, _, _, _, rfl, rfl⟩ rfl (by decide) ⟨by decide, by decide⟩ (Nat.le_of_ble_eq_true rfl) (det ?_)
    refine xiload_n hk dX4_takeDeeper_17 rfl ?_
    refine xicmp_eq hk 23 dX4_takeDeeper_18 (by decide) (fun h18 => ?_) (fun h18 => ?_)
    · refine xaload_n hk dX4_takeDeeper_23 rfl ?_
      refine xdup hk dX4_takeDeeper_24 rfl ?_
      refine xgetI (ci := 4) (f := 4) hk dX4_takeDeeper_25 ⟨rfl, by decide, _, rfl, rfl⟩ kX4_26 ?_
      refine xiconst (v := 1) hk dX4_takeDeeper_28 (by decide) ?_
      refine xiadd hk dX4_takeDeeper_29 ?_
      refine xputI (ci := 4) (f := 4) hk dX4_takeDeeper_30 ⟨rfl, by decide, _, rfl, rfl⟩ kX4_26 ⟨rfl, by decide +kernel⟩ ?_
      refine xiconst (v := 1) hk dX4_takeDeeper_33 (by decide) ?_
      refine xzret hk he dX4_takeDeeper_34 ⟨by decide, by decide⟩ (by first | with_reducible exact nar_b _ | rfl) ?_
      exact ⟨by simp [deepU, nextB, curK, b2i, *], by simp [deepU, nextB, curK, adv, *]⟩
    · refine xiconst (v := 0) hk dX4_takeDeeper_21 (by decide) ?_
      refine xzret hk he dX4_takeDeeper_22 ⟨by decide, by decide⟩ (by first | with_reducible exact nar_b _ | rfl) ?_
      exact ⟨by simp [deepU, nextB, curK, b2i, *], by simp [deepU, nextB, curK, adv, *]⟩
set_option maxHeartbeats 4000000 in
set_option maxRecDepth 100000 in
theorem c_X4_note {g : Gx} {a : Nat → Nat} {x : XS} {e : Int32} : Mx g yX4_note cX4_note 2 none 1 0 0 LF a x [.ref (a 34), .int e] (pr none (noteF x e)) := by
  refine Mx_of (by decide +kernel) (Nat.le_of_ble_eq_true rfl) ?_
  intro k hk he hg
  subst hg

  refine xaload_n hk dX4_note_0 rfl ?_
  refine xgetI (ci := 4) (f := 5) hk dX4_note_1 ⟨rfl, by decide, _, rfl, rfl⟩ kX4_30 ?_
  refine xif_ne hk 20 dX4_note_4 (by decide) (fun h4 => ?_) (fun h4 => ?_)
  · refine xvret hk he dX4_note_20 ⟨by decide, by decide⟩ ?_
    exact ⟨rfl, by simp [noteF, h4, rdI]⟩
  · refine xaload_n hk dX4_note_7 rfl ?_
    refine xiload_n hk dX4_note_8 rfl ?_
    refine xputI (ci := 4) (f := 5) hk dX4_note_9 ⟨rfl, by decide, _, rfl, rfl⟩ kX4_30 ⟨rfl, by decide +kernel⟩ ?_
    refine xaload_n hk dX4_note_12 rfl ?_
    refine xaload_n hk dX4_note_13 rfl ?_
    refine xgetI (ci := 4) (f := 4) hk dX4_note_14 ⟨rfl, by decide, _, rfl, rfl⟩ kX4_26 ?_
    refine xputI (ci := 4) (f := 6) hk dX4_note_17 ⟨rfl, by decide, _, rfl, rfl⟩ kX4_49 ⟨rfl, by decide +kernel⟩ ?_
    refine xvret hk he dX4_note_20 ⟨by decide, by decide⟩ ?_
    exact ⟨rfl, by simp [noteF, h4, rdI]⟩
set_option maxHeartbeats 4000000 in
set_option maxRecDepth 100000 in
theorem c_X4_find {g : Gx} {a : Nat → Nat} {x : XS} {lay : List Kd} {q n : Nat} {c : Int32} {nm : Int64} (hq : lay[q]? = some (.inr (1, n))) (hn : n < 2 ^ 31) : Mx g yX4_find cX4_find 5 (some .int) 1 0 0 lay a x [.ref (a q), .int c, .long nm] (pr (some (.int (findF x q n c nm))) x) := by
  refine Mx_of (by decide +kernel) (Nat.le_of_ble_eq_true rfl) ?_
  intro k hk he hg
  subst hg

  have loop : ∀ (m r j : Nat) (v : Int32), r < m → v = nI j → r + j = min c.toNatClampNeg n → findL x q nm r j = findF x q n c nm → Wx k 0 0 lay a x 3 [(0, .ref (a q)), (1, .int c), (2, .long nm), (4, .int v)] [] := by
    intro m
    induction m with
    | zero => intros; omega
    | succ m ih =>
      intro r j v hm hv hj hI
      subst hv
      refine xiload hk dX4_find_3 rfl ?_
      refine xiload_n hk dX4_find_5 rfl ?_
      refine xicmp_ge hk 34 dX4_find_6 (by decide) (fun h6 => ?_) (fun h6 => ?_)
      · rw [le_nI (by omega)] at h6
        obtain rfl : r = 0 := by omega
        refine xiconst (v := (-1)) hk dX4_find_34 (by decide) ?_
        refine xiret hk he dX4_find_35 ⟨by decide, by decide⟩ ?_
        exact ⟨by rw [← hI]; try rfl, rfl⟩
      · rw [le_nI (by omega)] at h6
        refine xiload hk dX4_find_9 rfl ?_
        refine xaload_n hk dX4_find_11 rfl ?_
        refine xalen (v := nI _) hk dX4_find_12 hq (by decide) rfl ?_
        refine xicmp_ge hk 34 dX4_find_13 (by decide) (fun h13 => ?_) (fun h13 => ?_)
        · rw [nI_leI (by omega) (by omega)] at h13
          obtain rfl : r = 0 := by omega
          refine xiconst (v := (-1)) hk dX4_find_34 (by decide) ?_
          refine xiret hk he dX4_find_35 ⟨by decide, by decide⟩ ?_
          exact ⟨by rw [← hI]; try rfl, rfl⟩
        · rw [nI_leI (by omega) (by omega)] at h13
          obtain ⟨r, rfl⟩ : ∃ r2, r = r2 + 1 := ⟨r - 1, by omega⟩
          refine xaload_n hk dX4_find_16 rfl ?_
          refine xiload hk dX4_find_17 rfl ?_
          refine xlald hk dX4_find_19 hq (vp_in_nI (by omega) hn) ?_
          rw [nI_clamp (by omega)]
          refine xlload_n hk dX4_find_20 rfl ?_
          refine xlcmp hk dX4_find_21 ?_
          refine xif_ne hk 28 dX4_find_22 (by decide) (fun h22 => ?_) (fun h22 => ?_)
          · rw [lcmp_eq] at h22
            rw [findL, if_neg h22] at hI
            refine xiinc hk dX4_find_28 rfl (by decide) rfl ?_
            refine xgoto hk 3 dX4_find_31 (by decide) ?_
            exact ih r (j + 1) _ (by omega) (nI_inc j) (by omega) hI
          · rw [lcmp_eq] at h22
            rw [findL, if_pos h22] at hI
            refine xiload hk dX4_find_25 rfl ?_
            refine xiret hk he dX4_find_27 ⟨by decide, by decide⟩ ?_
            exact ⟨by rw [← hI]; try rfl, rfl⟩
  refine xiconst (v := 0) hk dX4_find_0 (by decide) ?_
  refine xistore hk dX4_find_1 (by decide) ?_
  exact loop _ _ 0 _ (Nat.lt_succ_self _) rfl (by omega) rfl
set_option maxHeartbeats 4000000 in
set_option maxRecDepth 100000 in
theorem c_X4_readKnownName35 {g : Gx} {a : Nat → Nat} {x : XS} {c : Int32} : Mx g yX4_readKnownName cX4_readKnownName 4 (some .int) 3 0 0 LF a x [.ref (a 34), .ref (a 35), .int c] (pr (some (.int (knownU x 35 10 c).1)) (knownU x 35 10 c).2) := by
  refine Mx_of (by decide +kernel) (Nat.le_of_ble_eq_true rfl) ?_
  intro k hk he hg
  subst hg

  refine xaload_n hk dX4_readKnownName_0 rfl ?_
  refine xgetR (ci := 4) (f := 0) hk dX4_readKnownName_1 ⟨rfl, by decide, _, rfl, rfl⟩ kX4_18 ?_
  refine xaload_n hk dX4_readKnownName_4 rfl ?_
  refine xgetI (ci := 4) (f := 4) hk dX4_readKnownName_5 ⟨rfl, by decide, _, rfl, rfl⟩ kX4_26 ?_
  refine xcallV hk c_X6_kindAt bX6_kindAt kX4_58 dX4_readKnownName_8 rfl ⟨_, _, _, _, rfl, rfl⟩ rfl (by decide) ⟨by decide, by decide⟩ (Nat.le_of_ble_eq_true rfl) (det ?_)
  refine xsipush (v := 258) hk dX4_readKnownName_11 (by decide) ?_
  refine xicmp_eq hk 19 dX4_readKnownName_14 (by decide) (fun h14 => ?_) (fun h14 => ?_)
  · have hb : nextB x 258 = true := decide_eq_true h14
    refine xaload_n hk dX4_readKnownName_19 rfl ?_
    refine xiload_n hk dX4_readKnownName_20 rfl ?_
    refine xaload_n hk dX4_readKnownName_21 rfl ?_
    refine xgetR (ci := 4) (f := 0) hk dX4_readKnownName_22 ⟨rfl, by decide, _, rfl, rfl⟩ kX4_18 ?_
    refine xaload_n hk dX4_readKnownName_25 rfl ?_
    refine xgetI (ci := 4) (f := 4) hk dX4_readKnownName_26 ⟨rfl, by decide, _, rfl, rfl⟩ kX4_26 ?_
    refine xcallV hk c_X6_valueAt bX6_valueAt kX4_71 dX4_readKnownName_29 rfl ⟨_, _, _, _, rfl, rfl⟩ rfl (by decide) ⟨by decide, by decide⟩ (Nat.le_of_ble_eq_true rfl) (det ?_)
    refine xcallS hk (c_X4_find (q := 35) (n := 10) rfl (by decide)) bX4_find kX4_78 dX4_readKnownName_32 rfl rfl (by decide) ⟨by decide, by decide⟩ (Nat.le_of_ble_eq_true rfl) (det ?_)
    refine xistore_n hk dX4_readKnownName_35 (by decide) ?_
    refine xiload_n hk dX4_readKnownName_36 rfl ?_
    refine xif_ge hk 45 dX4_readKnownName_37 (by decide) (fun h37 => ?_) (fun h37 => ?_)
    · have h37 := Int32.not_lt.mpr h37
      refine xaload_n hk dX4_readKnownName_45 rfl ?_
      refine xdup hk dX4_readKnownName_46 rfl ?_
      refine xgetI (ci := 4) (f := 4) hk dX4_readKnownName_47 ⟨rfl, by decide, _, rfl, rfl⟩ kX4_26 ?_
      refine xiconst (v := 1) hk dX4_readKnownName_50 (by decide) ?_
      refine xiadd hk dX4_readKnownName_51 ?_
      refine xputI (ci := 4) (f := 4) hk dX4_readKnownName_52 ⟨rfl, by decide, _, rfl, rfl⟩ kX4_26 ⟨rfl, by decide +kernel⟩ ?_
      refine xiload_n hk dX4_readKnownName_55 rfl ?_
      refine xiconst (v := 0) hk dX4_readKnownName_56 (by decide) ?_
      refine xmmax hk dX4_readKnownName_57 kX4_100 mw_max (by decide) ⟨by decide, by decide⟩ (Nat.le_of_ble_eq_true rfl) ?_
      refine xiret hk he dX4_readKnownName_60 ⟨by decide, by decide⟩ ?_
      exact ⟨by simp only [knownU, hb, if_true], by simp only [knownU, hb, h37, if_true, if_false, adv]⟩
    · have h37 := Int32.not_le.mp h37
      refine xaload_n hk dX4_readKnownName_40 rfl ?_
      refine xiconst (v := 3) hk dX4_readKnownName_41 (by decide) ?_
      refine xcallV hk c_X4_note bX4_note kX4_82 dX4_readKnownName_42 rfl ⟨_, _, _, _, rfl, rfl⟩ rfl (by decide) ⟨by decide, by decide⟩ (Nat.le_of_ble_eq_true rfl) (det ?_)
      refine xaload_n hk dX4_readKnownName_45 rfl ?_
      refine xdup hk dX4_readKnownName_46 rfl ?_
      refine xgetI (ci := 4) (f := 4) hk dX4_readKnownName_47 ⟨rfl, by decide, _, rfl, rfl⟩ kX4_26 ?_
      refine xiconst (v := 1) hk dX4_readKnownName_50 (by decide) ?_
      refine xiadd hk dX4_readKnownName_51 ?_
      refine xputI (ci := 4) (f := 4) hk dX4_readKnownName_52 ⟨rfl, by decide, _, rfl, rfl⟩ kX4_26 ⟨rfl, by decide +kernel⟩ ?_
      refine xiload_n hk dX4_readKnownName_55 rfl ?_
      refine xiconst (v := 0) hk dX4_readKnownName_56 (by decide) ?_
      refine xmmax hk dX4_readKnownName_57 kX4_100 mw_max (by decide) ⟨by decide, by decide⟩ (Nat.le_of_ble_eq_true rfl) ?_
      refine xiret hk he dX4_readKnownName_60 ⟨by decide, by decide⟩ ?_
      exact ⟨by simp only [knownU, hb, if_true], by simp only [knownU, hb, h37, if_true, if_false, adv]⟩
  · have hb : nextB x 258 = false := decide_eq_false h14
    refine xiconst (v := (-1)) hk dX4_readKnownName_17 (by decide) ?_
    refine xiret hk he dX4_readKnownName_18 ⟨by decide, by decide⟩ ?_
    exact ⟨by simp only [knownU, hb]; rfl, by simp only [knownU, hb]; rfl⟩
set_option maxHeartbeats 4000000 in
set_option maxRecDepth 100000 in
theorem c_X4_readKnownName36 {g : Gx} {a : Nat → Nat} {x : XS} {c : Int32} : Mx g yX4_readKnownName cX4_readKnownName 4 (some .int) 3 0 0 LF a x [.ref (a 34), .ref (a 36), .int c] (pr (some (.int (knownU x 36 20 c).1)) (knownU x 36 20 c).2) := by
  refine Mx_of (by decide +kernel) (Nat.le_of_ble_eq_true rfl) ?_
  intro k hk he hg
  subst hg

  refine xaload_n hk dX4_readKnownName_0 rfl ?_
  refine xgetR (ci := 4) (f := 0) hk dX4_readKnownName_1 ⟨rfl, by decide, _, rfl, rfl⟩ kX4_18 ?_
  refine xaload_n hk dX4_readKnownName_4 rfl ?_
  refine xgetI (ci := 4) (f := 4) hk dX4_readKnownName_5 ⟨rfl, by decide, _, rfl, rfl⟩ kX4_26 ?_
  refine xcallV hk c_X6_kindAt bX6_kindAt kX4_58 dX4_readKnownName_8 rfl ⟨_, _, _, _, rfl, rfl⟩ rfl (by decide) ⟨by decide, by decide⟩ (Nat.le_of_ble_eq_true rfl) (det ?_)
  refine xsipush (v := 258) hk dX4_readKnownName_11 (by decide) ?_
  refine xicmp_eq hk 19 dX4_readKnownName_14 (by decide) (fun h14 => ?_) (fun h14 => ?_)
  · have hb : nextB x 258 = true := decide_eq_true h14
    refine xaload_n hk dX4_readKnownName_19 rfl ?_
    refine xiload_n hk dX4_readKnownName_20 rfl ?_
    refine xaload_n hk dX4_readKnownName_21 rfl ?_
    refine xgetR (ci := 4) (f := 0) hk dX4_readKnownName_22 ⟨rfl, by decide, _, rfl, rfl⟩ kX4_18 ?_
    refine xaload_n hk dX4_readKnownName_25 rfl ?_
    refine xgetI (ci := 4) (f := 4) hk dX4_readKnownName_26 ⟨rfl, by decide, _, rfl, rfl⟩ kX4_26 ?_
    refine xcallV hk c_X6_valueAt bX6_valueAt kX4_71 dX4_readKnownName_29 rfl ⟨_, _, _, _, rfl, rfl⟩ rfl (by decide) ⟨by decide, by decide⟩ (Nat.le_of_ble_eq_true rfl) (det ?_)
    refine xcallS hk (c_X4_find (q := 36) (n := 20) rfl (by decide)) bX4_find kX4_78 dX4_readKnownName_32 rfl rfl (by decide) ⟨by decide, by decide⟩ (Nat.le_of_ble_eq_true rfl) (det ?_)
    refine xistore_n hk dX4_readKnownName_35 (by decide) ?_
    refine xiload_n hk dX4_readKnownName_36 rfl ?_
    refine xif_ge hk 45 dX4_readKnownName_37 (by decide) (fun h37 => ?_) (fun h37 => ?_)
    · have h37 := Int32.not_lt.mpr h37
      refine xaload_n hk dX4_readKnownName_45 rfl ?_
      refine xdup hk dX4_readKnownName_46 rfl ?_
      refine xgetI (ci := 4) (f := 4) hk dX4_readKnownName_47 ⟨rfl, by decide, _, rfl, rfl⟩ kX4_26 ?_
      refine xiconst (v := 1) hk dX4_readKnownName_50 (by decide) ?_
      refine xiadd hk dX4_readKnownName_51 ?_
      refine xputI (ci := 4) (f := 4) hk dX4_readKnownName_52 ⟨rfl, by decide, _, rfl, rfl⟩ kX4_26 ⟨rfl, by decide +kernel⟩ ?_
      refine xiload_n hk dX4_readKnownName_55 rfl ?_
      refine xiconst (v := 0) hk dX4_readKnownName_56 (by decide) ?_
      refine xmmax hk dX4_readKnownName_57 kX4_100 mw_max (by decide) ⟨by decide, by decide⟩ (Nat.le_of_ble_eq_true rfl) ?_
      refine xiret hk he dX4_readKnownName_60 ⟨by decide, by decide⟩ ?_
      exact ⟨by simp only [knownU, hb, if_true], by simp only [knownU, hb, h37, if_true, if_false, adv]⟩
    · have h37 := Int32.not_le.mp h37
      refine xaload_n hk dX4_readKnownName_40 rfl ?_
      refine xiconst (v := 3) hk dX4_readKnownName_41 (by decide) ?_
      refine xcallV hk c_X4_note bX4_note kX4_82 dX4_readKnownName_42 rfl ⟨_, _, _, _, rfl, rfl⟩ rfl (by decide) ⟨by decide, by decide⟩ (Nat.le_of_ble_eq_true rfl) (det ?_)
      refine xaload_n hk dX4_readKnownName_45 rfl ?_
      refine xdup hk dX4_readKnownName_46 rfl ?_
      refine xgetI (ci := 4) (f := 4) hk dX4_readKnownName_47 ⟨rfl, by decide, _, rfl, rfl⟩ kX4_26 ?_
      refine xiconst (v := 1) hk dX4_readKnownName_50 (by decide) ?_
      refine xiadd hk dX4_readKnownName_51 ?_
      refine xputI (ci := 4) (f := 4) hk dX4_readKnownName_52 ⟨rfl, by decide, _, rfl, rfl⟩ kX4_26 ⟨rfl, by decide +kernel⟩ ?_
      refine xiload_n hk dX4_readKnownName_55 rfl ?_
      refine xiconst (v := 0) hk dX4_readKnownName_56 (by decide) ?_
      refine xmmax hk dX4_readKnownName_57 kX4_100 mw_max (by decide) ⟨by decide, by decide⟩ (Nat.le_of_ble_eq_true rfl) ?_
      refine xiret hk he dX4_readKnownName_60 ⟨by decide, by decide⟩ ?_
      exact ⟨by simp only [knownU, hb, if_true], by simp only [knownU, hb, h37, if_true, if_false, adv]⟩
  · have hb : nextB x 258 = false := decide_eq_false h14
    refine xiconst (v := (-1)) hk dX4_readKnownName_17 (by decide) ?_
    refine xiret hk he dX4_readKnownName_18 ⟨by decide, by decide⟩ ?_
    exact ⟨by simp only [knownU, hb]; rfl, by simp only [knownU, hb]; rfl⟩
set_option maxHeartbeats 4000000 in
set_option maxRecDepth 100000 in
theorem c_X4_readClaim {g : Gx} {a : Nat → Nat} {x : XS}  : Mx g yX4_readClaim cX4_readClaim 2 (some .int) 4 0 0 LF a x [.ref (a 34)] (pr (some (.int (claimU x).1)) (claimU x).2) := by
  refine Mx_of (by decide +kernel) (Nat.le_of_ble_eq_true rfl) ?_
  intro k hk he hg
  subst hg

  refine xaload_n hk dX4_readClaim_0 rfl ?_
  refine xaload_n hk dX4_readClaim_1 rfl ?_
  refine xgetR (ci := 4) (f := 2) hk dX4_readClaim_2 ⟨rfl, by decide, _, rfl, rfl⟩ kX4_9 ?_
  refine xaload_n hk dX4_readClaim_5 rfl ?_
  refine xgetR (ci := 4) (f := 1) hk dX4_readClaim_6 ⟨rfl, by decide, _, rfl, rfl⟩ kX4_22 ?_
  refine xgetNI (ci := 0) (f := 0) hk dX4_readClaim_9 ⟨rfl, by decide, _, rfl, rfl⟩ kX4_75 ?_
  refine xcallV hk c_X4_readKnownName35 bX4_readKnownName kX4_106 dX4_readClaim_12 rfl ⟨_, _, _, _, rfl, rfl⟩ rfl (by decide) ⟨by decide, by decide⟩ (Nat.le_of_ble_eq_true rfl) (det ?_)
  refine xistore_n hk dX4_readClaim_15 (by decide) ?_
  refine xiload_n hk dX4_readClaim_16 rfl ?_
  refine xif_ge hk 22 dX4_readClaim_17 (by decide) (fun h17 => ?_) (fun h17 => ?_)
  · have h17 := Int32.not_lt.mpr h17
    refine xaload_n hk dX4_readClaim_22 rfl ?_
    refine xsipush (v := 310) hk dX4_readClaim_23 (by decide) ?_
    refine xcallV hk c_X4_take bX4_take kX4_46 dX4_readClaim_26 rfl ⟨_, _, _, _, rfl, rfl⟩ rfl (by decide) ⟨by decide, by decide⟩ (Nat.le_of_ble_eq_true rfl) (det ?_)
    refine xif_eq hk 36 dX4_readClaim_29 (by decide) (fun h29 => ?_) (fun h29 => ?_)
    · rw [b2i_0] at h29
      refine xaload_n hk dX4_readClaim_36 rfl ?_
      refine xsipush (v := 311) hk dX4_readClaim_37 (by decide) ?_
      refine xcallV hk c_X4_take bX4_take kX4_46 dX4_readClaim_40 rfl ⟨_, _, _, _, rfl, rfl⟩ rfl (by decide) ⟨by decide, by decide⟩ (Nat.le_of_ble_eq_true rfl) (det ?_)
      refine xif_eq hk 54 dX4_readClaim_43 (by decide) (fun h43 => ?_) (fun h43 => ?_)
      · rw [b2i_0] at h43
        refine xiconst (v := (-1)) hk dX4_readClaim_54 (by decide) ?_
        refine xiret hk he dX4_readClaim_55 ⟨by decide, by decide⟩ ?_
        exact ⟨by simp [claimU, *], by simp [claimU, *]⟩
      · rw [b2i_t] at h43
        refine xiconst (v := 2) hk dX4_readClaim_46 (by decide) ?_
        refine xiload_n hk dX4_readClaim_47 rfl ?_
        refine ximul hk dX4_readClaim_48 ?_
        refine xiconst (v := 1) hk dX4_readClaim_49 (by decide) ?_
        refine xiadd hk dX4_readClaim_50 ?_
        refine xgoto hk 55 dX4_readClaim_51 (by decide) ?_
        refine xiret hk he dX4_readClaim_55 ⟨by decide, by decide⟩ ?_
        exact ⟨by simp [claimU, *], by simp [claimU, *]⟩
    · rw [b2i_t] at h29
      refine xiconst (v := 2) hk dX4_readClaim_32 (by decide) ?_
      refine xiload_n hk dX4_readClaim_33 rfl ?_
      refine ximul hk dX4_readClaim_34 ?_
      refine xiret hk he dX4_readClaim_35 ⟨by decide, by decide⟩ ?_
      exact ⟨by simp [claimU, *], by simp [claimU, *]⟩
  · have h17 := Int32.not_le.mp h17
    refine xiconst (v := (-1)) hk dX4_readClaim_20 (by decide) ?_
    refine xiret hk he dX4_readClaim_21 ⟨by decide, by decide⟩ ?_
    exact ⟨by simp [claimU, *], by simp [claimU, *]⟩
set_option maxHeartbeats 4000000 in
set_option maxRecDepth 100000 in
theorem c_X4_readFamily {g : Gx} {a : Nat → Nat} {x : XS}  : Mx g yX4_readFamily cX4_readFamily 4 (some .boolean) 4 0 0 LF a x [.ref (a 34)] (pr (some (.int (b2i (famU x).1))) (famU x).2) := by
  refine Mx_of (by decide +kernel) (Nat.le_of_ble_eq_true rfl) ?_
  intro k hk he hg
  subst hg

  refine xaload_n hk dX4_readFamily_0 rfl ?_
  refine xdup hk dX4_readFamily_1 rfl ?_
  refine xgetI (ci := 4) (f := 4) hk dX4_readFamily_2 ⟨rfl, by decide, _, rfl, rfl⟩ kX4_26 ?_
  refine xiconst (v := 1) hk dX4_readFamily_5 (by decide) ?_
  refine xiadd hk dX4_readFamily_6 ?_
  refine xputI (ci := 4) (f := 4) hk dX4_readFamily_7 ⟨rfl, by decide, _, rfl, rfl⟩ kX4_26 ⟨rfl, by decide +kernel⟩ ?_
  refine xaload_n hk dX4_readFamily_10 rfl ?_
  refine xsipush (v := 258) hk dX4_readFamily_11 (by decide) ?_
  rw [show setI x 34 4 (x.1 34 4 + 1) = adv x from rfl]
  generalize hz : adv x = z
  refine xcallV hk c_X4_isNext bX4_isNext kX4_38 dX4_readFamily_14 rfl ⟨_, _, _, _, rfl, rfl⟩ rfl (by decide) ⟨by decide, by decide⟩ (Nat.le_of_ble_eq_true rfl) (det ?_)
  refine xif_ne hk 22 dX4_readFamily_17 (by decide) (fun h17 => ?_) (fun h17 => ?_)
  · rw [b2i_t] at h17
    refine xaload_n hk dX4_readFamily_22 rfl ?_
    refine xgetR (ci := 4) (f := 0) hk dX4_readFamily_23 ⟨rfl, by decide, _, rfl, rfl⟩ kX4_18 ?_
    refine xaload_n hk dX4_readFamily_26 rfl ?_
    refine xgetI (ci := 4) (f := 4) hk dX4_readFamily_27 ⟨rfl, by decide, _, rfl, rfl⟩ kX4_26 ?_
    refine xcallV hk c_X6_valueAt bX6_valueAt kX4_71 dX4_readFamily_30 rfl ⟨_, _, _, _, rfl, rfl⟩ rfl (by decide) ⟨by decide, by decide⟩ (Nat.le_of_ble_eq_true rfl) (det ?_)
    refine xlstore_n hk dX4_readFamily_33 (by decide) ?_
    refine xaload_n hk dX4_readFamily_34 rfl ?_
    refine xgetR (ci := 4) (f := 1) hk dX4_readFamily_35 ⟨rfl, by decide, _, rfl, rfl⟩ kX4_22 ?_
    refine xgetNI (ci := 0) (f := 0) hk dX4_readFamily_38 ⟨rfl, by decide, _, rfl, rfl⟩ kX4_75 ?_
    refine xistore_n hk dX4_readFamily_41 (by decide) ?_
    refine xaload_n hk dX4_readFamily_42 rfl ?_
    refine xgetR (ci := 4) (f := 2) hk dX4_readFamily_43 ⟨rfl, by decide, _, rfl, rfl⟩ kX4_9 ?_
    refine xiload_n hk dX4_readFamily_46 rfl ?_
    refine xlload_n hk dX4_readFamily_47 rfl ?_
    refine xcallS hk (c_X4_find (q := 35) (n := 10) rfl (by decide)) bX4_find kX4_78 dX4_readFamily_48 rfl rfl (by decide) ⟨by decide, by decide⟩ (Nat.le_of_ble_eq_true rfl) (det ?_)
    refine xif_lt hk 62 dX4_readFamily_51 (by decide) (fun h51 => ?_) (fun h51 => ?_)
    · refine xiload_n hk dX4_readFamily_62 rfl ?_
      refine xif_lt hk 98 dX4_readFamily_63 (by decide) (fun h63 => ?_) (fun h63 => ?_)
      · refine xaload_n hk dX4_readFamily_98 rfl ?_
        refine xiconst (v := 4) hk dX4_readFamily_99 (by decide) ?_
        refine xcallV hk c_X4_note bX4_note kX4_82 dX4_readFamily_100 rfl ⟨_, _, _, _, rfl, rfl⟩ rfl (by decide) ⟨by decide, by decide⟩ (Nat.le_of_ble_eq_true rfl) (det ?_)
        refine xaload_n hk dX4_readFamily_103 rfl ?_
        refine xdup hk dX4_readFamily_104 rfl ?_
        refine xgetI (ci := 4) (f := 4) hk dX4_readFamily_105 ⟨rfl, by decide, _, rfl, rfl⟩ kX4_26 ?_
        refine xiconst (v := 1) hk dX4_readFamily_108 (by decide) ?_
        refine xiadd hk dX4_readFamily_109 ?_
        refine xputI (ci := 4) (f := 4) hk dX4_readFamily_110 ⟨rfl, by decide, _, rfl, rfl⟩ kX4_26 ⟨rfl, by decide +kernel⟩ ?_
        refine xiconst (v := 1) hk dX4_readFamily_113 (by decide) ?_
        refine xzret hk he dX4_readFamily_114 ⟨by decide, by decide⟩ (by first | with_reducible exact nar_b _ | rfl) ?_
        exact ⟨by first | (simp only [famU, hz, adv_def, h17, h51, h63, h72, if_true, if_false, Bool.false_eq_true, b2iT, b2iF]; done) | (simp only [famU, hz, adv_def, h17, h51, h63, if_true, if_false, Bool.false_eq_true, b2iT, b2iF]; done) | (simp only [famU, hz, adv_def, h17, h51, if_true, if_false, Bool.false_eq_true, b2iT, b2iF]; done) | (simp only [famU, hz, adv_def, h17, if_true, if_false, Bool.false_eq_true, b2iT, b2iF]; done), by first | (simp only [famU, hz, adv_def, h17, h51, h63, h72, if_true, if_false, Bool.false_eq_true, b2iT, b2iF]; done) | (simp only [famU, hz, adv_def, h17, h51, h63, if_true, if_false, Bool.false_eq_true, b2iT, b2iF]; done) | (simp only [famU, hz, adv_def, h17, h51, if_true, if_false, Bool.false_eq_true, b2iT, b2iF]; done) | (simp only [famU, hz, adv_def, h17, if_true, if_false, Bool.false_eq_true, b2iT, b2iF]; done)⟩
      · refine xiload_n hk dX4_readFamily_66 rfl ?_
        refine xaload_n hk dX4_readFamily_67 rfl ?_
        refine xgetR (ci := 4) (f := 2) hk dX4_readFamily_68 ⟨rfl, by decide, _, rfl, rfl⟩ kX4_9 ?_
        refine xalen (v := nI _) hk dX4_readFamily_71 rfl (by decide) rfl ?_
        refine xicmp_ge hk 98 dX4_readFamily_72 (by decide) (fun h72 => ?_) (fun h72 => ?_)
        · refine xaload_n hk dX4_readFamily_98 rfl ?_
          refine xiconst (v := 4) hk dX4_readFamily_99 (by decide) ?_
          refine xcallV hk c_X4_note bX4_note kX4_82 dX4_readFamily_100 rfl ⟨_, _, _, _, rfl, rfl⟩ rfl (by decide) ⟨by decide, by decide⟩ (Nat.le_of_ble_eq_true rfl) (det ?_)
          refine xaload_n hk dX4_readFamily_103 rfl ?_
          refine xdup hk dX4_readFamily_104 rfl ?_
          refine xgetI (ci := 4) (f := 4) hk dX4_readFamily_105 ⟨rfl, by decide, _, rfl, rfl⟩ kX4_26 ?_
          refine xiconst (v := 1) hk dX4_readFamily_108 (by decide) ?_
          refine xiadd hk dX4_readFamily_109 ?_
          refine xputI (ci := 4) (f := 4) hk dX4_readFamily_110 ⟨rfl, by decide, _, rfl, rfl⟩ kX4_26 ⟨rfl, by decide +kernel⟩ ?_
          refine xiconst (v := 1) hk dX4_readFamily_113 (by decide) ?_
          refine xzret hk he dX4_readFamily_114 ⟨by decide, by decide⟩ (by first | with_reducible exact nar_b _ | rfl) ?_
          exact ⟨by first | (simp only [famU, hz, adv_def, h17, h51, h63, h72, if_true, if_false, Bool.false_eq_true, b2iT, b2iF]; done) | (simp only [famU, hz, adv_def, h17, h51, h63, if_true, if_false, Bool.false_eq_true, b2iT, b2iF]; done) | (simp only [famU, hz, adv_def, h17, h51, if_true, if_false, Bool.false_eq_true, b2iT, b2iF]; done) | (simp only [famU, hz, adv_def, h17, if_true, if_false, Bool.false_eq_true, b2iT, b2iF]; done), by first | (simp only [famU, hz, adv_def, h17, h51, h63, h72, if_true, if_false, Bool.false_eq_true, b2iT, b2iF]; done) | (simp only [famU, hz, adv_def, h17, h51, h63, if_true, if_false, Bool.false_eq_true, b2iT, b2iF]; done) | (simp only [famU, hz, adv_def, h17, h51, if_true, if_false, Bool.false_eq_true, b2iT, b2iF]; done) | (simp only [famU, hz, adv_def, h17, if_true, if_false, Bool.false_eq_true, b2iT, b2iF]; done)⟩
        · refine xaload_n hk dX4_readFamily_75 rfl ?_
          refine xgetR (ci := 4) (f := 2) hk dX4_readFamily_76 ⟨rfl, by decide, _, rfl, rfl⟩ kX4_9 ?_
          refine xiload_n hk dX4_readFamily_79 rfl ?_
          refine xlload_n hk dX4_readFamily_80 rfl ?_
          refine xlast hk dX4_readFamily_81 rfl (vin h63 h72 (by decide)) ?_
          refine xaload_n hk dX4_readFamily_82 rfl ?_
          refine xgetR (ci := 4) (f := 1) hk dX4_readFamily_83 ⟨rfl, by decide, _, rfl, rfl⟩ kX4_22 ?_
          refine xdup hk dX4_readFamily_86 rfl ?_
          refine xgetNI (ci := 0) (f := 0) hk dX4_readFamily_87 ⟨rfl, by decide, _, rfl, rfl⟩ kX4_75 ?_
          refine xiconst (v := 1) hk dX4_readFamily_90 (by decide) ?_
          refine xiadd hk dX4_readFamily_91 ?_
          refine xputIN (ci := 0) (f := 0) hk dX4_readFamily_92 ⟨rfl, by decide, _, rfl, rfl⟩ kX4_75 ⟨rfl, by decide +kernel⟩ ?_
          refine xgoto hk 103 dX4_readFamily_95 (by decide) ?_
          refine xaload_n hk dX4_readFamily_103 rfl ?_
          refine xdup hk dX4_readFamily_104 rfl ?_
          refine xgetI (ci := 4) (f := 4) hk dX4_readFamily_105 ⟨rfl, by decide, _, rfl, rfl⟩ kX4_26 ?_
          refine xiconst (v := 1) hk dX4_readFamily_108 (by decide) ?_
          refine xiadd hk dX4_readFamily_109 ?_
          refine xputI (ci := 4) (f := 4) hk dX4_readFamily_110 ⟨rfl, by decide, _, rfl, rfl⟩ kX4_26 ⟨rfl, by decide +kernel⟩ ?_
          refine xiconst (v := 1) hk dX4_readFamily_113 (by decide) ?_
          refine xzret hk he dX4_readFamily_114 ⟨by decide, by decide⟩ (by first | with_reducible exact nar_b _ | rfl) ?_
          exact ⟨by first | (simp only [famU, hz, adv_def, h17, h51, h63, h72, if_true, if_false, Bool.false_eq_true, b2iT, b2iF]; done) | (simp only [famU, hz, adv_def, h17, h51, h63, if_true, if_false, Bool.false_eq_true, b2iT, b2iF]; done) | (simp only [famU, hz, adv_def, h17, h51, if_true, if_false, Bool.false_eq_true, b2iT, b2iF]; done) | (simp only [famU, hz, adv_def, h17, if_true, if_false, Bool.false_eq_true, b2iT, b2iF]; done), by first | (simp only [famU, hz, adv_def, h17, h51, h63, h72, if_true, if_false, Bool.false_eq_true, b2iT, b2iF]; done) | (simp only [famU, hz, adv_def, h17, h51, h63, if_true, if_false, Bool.false_eq_true, b2iT, b2iF]; done) | (simp only [famU, hz, adv_def, h17, h51, if_true, if_false, Bool.false_eq_true, b2iT, b2iF]; done) | (simp only [famU, hz, adv_def, h17, if_true, if_false, Bool.false_eq_true, b2iT, b2iF]; done)⟩
    · refine xaload_n hk dX4_readFamily_54 rfl ?_
      refine xiconst (v := 2) hk dX4_readFamily_55 (by decide) ?_
      refine xcallV hk c_X4_note bX4_note kX4_82 dX4_readFamily_56 rfl ⟨_, _, _, _, rfl, rfl⟩ rfl (by decide) ⟨by decide, by decide⟩ (Nat.le_of_ble_eq_true rfl) (det ?_)
      refine xgoto hk 103 dX4_readFamily_59 (by decide) ?_
      refine xaload_n hk dX4_readFamily_103 rfl ?_
      refine xdup hk dX4_readFamily_104 rfl ?_
      refine xgetI (ci := 4) (f := 4) hk dX4_readFamily_105 ⟨rfl, by decide, _, rfl, rfl⟩ kX4_26 ?_
      refine xiconst (v := 1) hk dX4_readFamily_108 (by decide) ?_
      refine xiadd hk dX4_readFamily_109 ?_
      refine xputI (ci := 4) (f := 4) hk dX4_readFamily_110 ⟨rfl, by decide, _, rfl, rfl⟩ kX4_26 ⟨rfl, by decide +kernel⟩ ?_
      refine xiconst (v := 1) hk dX4_readFamily_113 (by decide) ?_
      refine xzret hk he dX4_readFamily_114 ⟨by decide, by decide⟩ (by first | with_reducible exact nar_b _ | rfl) ?_
      exact ⟨by first | (simp only [famU, hz, adv_def, h17, h51, h63, h72, if_true, if_false, Bool.false_eq_true, b2iT, b2iF]; done) | (simp only [famU, hz, adv_def, h17, h51, h63, if_true, if_false, Bool.false_eq_true, b2iT, b2iF]; done) | (simp only [famU, hz, adv_def, h17, h51, if_true, if_false, Bool.false_eq_true, b2iT, b2iF]; done) | (simp only [famU, hz, adv_def, h17, if_true, if_false, Bool.false_eq_true, b2iT, b2iF]; done), by first | (simp only [famU, hz, adv_def, h17, h51, h63, h72, if_true, if_false, Bool.false_eq_true, b2iT, b2iF]; done) | (simp only [famU, hz, adv_def, h17, h51, h63, if_true, if_false, Bool.false_eq_true, b2iT, b2iF]; done) | (simp only [famU, hz, adv_def, h17, h51, if_true, if_false, Bool.false_eq_true, b2iT, b2iF]; done) | (simp only [famU, hz, adv_def, h17, if_true, if_false, Bool.false_eq_true, b2iT, b2iF]; done)⟩
  · rw [b2i_0] at h17
    refine xiconst (v := 0) hk dX4_readFamily_20 (by decide) ?_
    refine xzret hk he dX4_readFamily_21 ⟨by decide, by decide⟩ (by first | with_reducible exact nar_b _ | rfl) ?_
    exact ⟨by first | (simp only [famU, hz, adv_def, h17, h51, h63, h72, if_true, if_false, Bool.false_eq_true, b2iT, b2iF]; done) | (simp only [famU, hz, adv_def, h17, h51, h63, if_true, if_false, Bool.false_eq_true, b2iT, b2iF]; done) | (simp only [famU, hz, adv_def, h17, h51, if_true, if_false, Bool.false_eq_true, b2iT, b2iF]; done) | (simp only [famU, hz, adv_def, h17, if_true, if_false, Bool.false_eq_true, b2iT, b2iF]; done), by first | (simp only [famU, hz, adv_def, h17, h51, h63, h72, if_true, if_false, Bool.false_eq_true, b2iT, b2iF]; done) | (simp only [famU, hz, adv_def, h17, h51, h63, if_true, if_false, Bool.false_eq_true, b2iT, b2iF]; done) | (simp only [famU, hz, adv_def, h17, h51, if_true, if_false, Bool.false_eq_true, b2iT, b2iF]; done) | (simp only [famU, hz, adv_def, h17, if_true, if_false, Bool.false_eq_true, b2iT, b2iF]; done)⟩
set_option maxHeartbeats 4000000 in
set_option maxRecDepth 100000 in
theorem c_X4_readStatementName {g : Gx} {a : Nat → Nat} {x : XS}  : Mx g yX4_readStatementName cX4_readStatementName 4 (some .boolean) 4 0 0 LF a x [.ref (a 34)] (pr (some (.int (b2i (stnU x).1))) (stnU x).2) := by
  refine Mx_of (by decide +kernel) (Nat.le_of_ble_eq_true rfl) ?_
  intro k hk he hg
  subst hg

  refine xaload_n hk dX4_readStatementName_0 rfl ?_
  refine xsipush (v := 258) hk dX4_readStatementName_1 (by decide) ?_
  refine xcallV hk c_X4_isNext bX4_isNext kX4_38 dX4_readStatementName_4 rfl ⟨_, _, _, _, rfl, rfl⟩ rfl (by decide) ⟨by decide, by decide⟩ (Nat.le_of_ble_eq_true rfl) (det ?_)
  refine xif_ne hk 12 dX4_readStatementName_7 (by decide) (fun h7 => ?_) (fun h7 => ?_)
  · rw [b2i_t] at h7
    refine xaload_n hk dX4_readStatementName_12 rfl ?_
    refine xgetR (ci := 4) (f := 0) hk dX4_readStatementName_13 ⟨rfl, by decide, _, rfl, rfl⟩ kX4_18 ?_
    refine xaload_n hk dX4_readStatementName_16 rfl ?_
    refine xgetI (ci := 4) (f := 4) hk dX4_readStatementName_17 ⟨rfl, by decide, _, rfl, rfl⟩ kX4_26 ?_
    refine xcallV hk c_X6_valueAt bX6_valueAt kX4_71 dX4_readStatementName_20 rfl ⟨_, _, _, _, rfl, rfl⟩ rfl (by decide) ⟨by decide, by decide⟩ (Nat.le_of_ble_eq_true rfl) (det ?_)
    refine xlstore_n hk dX4_readStatementName_23 (by decide) ?_
    refine xaload_n hk dX4_readStatementName_24 rfl ?_
    refine xgetR (ci := 4) (f := 1) hk dX4_readStatementName_25 ⟨rfl, by decide, _, rfl, rfl⟩ kX4_22 ?_
    refine xgetNI (ci := 0) (f := 1) hk dX4_readStatementName_28 ⟨rfl, by decide, _, rfl, rfl⟩ kX4_97 ?_
    refine xistore_n hk dX4_readStatementName_31 (by decide) ?_
    refine xaload_n hk dX4_readStatementName_32 rfl ?_
    refine xgetR (ci := 4) (f := 3) hk dX4_readStatementName_33 ⟨rfl, by decide, _, rfl, rfl⟩ kX4_15 ?_
    refine xiload_n hk dX4_readStatementName_36 rfl ?_
    refine xlload_n hk dX4_readStatementName_37 rfl ?_
    refine xcallS hk (c_X4_find (q := 36) (n := 20) rfl (by decide)) bX4_find kX4_78 dX4_readStatementName_38 rfl rfl (by decide) ⟨by decide, by decide⟩ (Nat.le_of_ble_eq_true rfl) (det ?_)
    refine xif_lt hk 52 dX4_readStatementName_41 (by decide) (fun h41 => ?_) (fun h41 => ?_)
    · refine xiload_n hk dX4_readStatementName_52 rfl ?_
      refine xif_lt hk 75 dX4_readStatementName_53 (by decide) (fun h53 => ?_) (fun h53 => ?_)
      · refine xaload_n hk dX4_readStatementName_75 rfl ?_
        refine xiconst (v := 4) hk dX4_readStatementName_76 (by decide) ?_
        refine xcallV hk c_X4_note bX4_note kX4_82 dX4_readStatementName_77 rfl ⟨_, _, _, _, rfl, rfl⟩ rfl (by decide) ⟨by decide, by decide⟩ (Nat.le_of_ble_eq_true rfl) (det ?_)
        refine xaload_n hk dX4_readStatementName_80 rfl ?_
        refine xdup hk dX4_readStatementName_81 rfl ?_
        refine xgetI (ci := 4) (f := 4) hk dX4_readStatementName_82 ⟨rfl, by decide, _, rfl, rfl⟩ kX4_26 ?_
        refine xiconst (v := 1) hk dX4_readStatementName_85 (by decide) ?_
        refine xiadd hk dX4_readStatementName_86 ?_
        refine xputI (ci := 4) (f := 4) hk dX4_readStatementName_87 ⟨rfl, by decide, _, rfl, rfl⟩ kX4_26 ⟨rfl, by decide +kernel⟩ ?_
        refine xiconst (v := 1) hk dX4_readStatementName_90 (by decide) ?_
        refine xzret hk he dX4_readStatementName_91 ⟨by decide, by decide⟩ (by first | with_reducible exact nar_b _ | rfl) ?_
        exact ⟨by first | (simp only [stnU, adv_def, h7, h41, h53, h62, if_true, if_false, Bool.false_eq_true, b2iT, b2iF]; done) | (simp only [stnU, adv_def, h7, h41, h53, if_true, if_false, Bool.false_eq_true, b2iT, b2iF]; done) | (simp only [stnU, adv_def, h7, h41, if_true, if_false, Bool.false_eq_true, b2iT, b2iF]; done) | (simp only [stnU, adv_def, h7, if_true, if_false, Bool.false_eq_true, b2iT, b2iF]; done), by first | (simp only [stnU, adv_def, h7, h41, h53, h62, if_true, if_false, Bool.false_eq_true, b2iT, b2iF]; done) | (simp only [stnU, adv_def, h7, h41, h53, if_true, if_false, Bool.false_eq_true, b2iT, b2iF]; done) | (simp only [stnU, adv_def, h7, h41, if_true, if_false, Bool.false_eq_true, b2iT, b2iF]; done) | (simp only [stnU, adv_def, h7, if_true, if_false, Bool.false_eq_true, b2iT, b2iF]; done)⟩
      · refine xiload_n hk dX4_readStatementName_56 rfl ?_
        refine xaload_n hk dX4_readStatementName_57 rfl ?_
        refine xgetR (ci := 4) (f := 3) hk dX4_readStatementName_58 ⟨rfl, by decide, _, rfl, rfl⟩ kX4_15 ?_
        refine xalen (v := nI _) hk dX4_readStatementName_61 rfl (by decide) rfl ?_
        refine xicmp_ge hk 75 dX4_readStatementName_62 (by decide) (fun h62 => ?_) (fun h62 => ?_)
        · refine xaload_n hk dX4_readStatementName_75 rfl ?_
          refine xiconst (v := 4) hk dX4_readStatementName_76 (by decide) ?_
          refine xcallV hk c_X4_note bX4_note kX4_82 dX4_readStatementName_77 rfl ⟨_, _, _, _, rfl, rfl⟩ rfl (by decide) ⟨by decide, by decide⟩ (Nat.le_of_ble_eq_true rfl) (det ?_)
          refine xaload_n hk dX4_readStatementName_80 rfl ?_
          refine xdup hk dX4_readStatementName_81 rfl ?_
          refine xgetI (ci := 4) (f := 4) hk dX4_readStatementName_82 ⟨rfl, by decide, _, rfl, rfl⟩ kX4_26 ?_
          refine xiconst (v := 1) hk dX4_readStatementName_85 (by decide) ?_
          refine xiadd hk dX4_readStatementName_86 ?_
          refine xputI (ci := 4) (f := 4) hk dX4_readStatementName_87 ⟨rfl, by decide, _, rfl, rfl⟩ kX4_26 ⟨rfl, by decide +kernel⟩ ?_
          refine xiconst (v := 1) hk dX4_readStatementName_90 (by decide) ?_
          refine xzret hk he dX4_readStatementName_91 ⟨by decide, by decide⟩ (by first | with_reducible exact nar_b _ | rfl) ?_
          exact ⟨by first | (simp only [stnU, adv_def, h7, h41, h53, h62, if_true, if_false, Bool.false_eq_true, b2iT, b2iF]; done) | (simp only [stnU, adv_def, h7, h41, h53, if_true, if_false, Bool.false_eq_true, b2iT, b2iF]; done) | (simp only [stnU, adv_def, h7, h41, if_true, if_false, Bool.false_eq_true, b2iT, b2iF]; done) | (simp only [stnU, adv_def, h7, if_true, if_false, Bool.false_eq_true, b2iT, b2iF]; done), by first | (simp only [stnU, adv_def, h7, h41, h53, h62, if_true, if_false, Bool.false_eq_true, b2iT, b2iF]; done) | (simp only [stnU, adv_def, h7, h41, h53, if_true, if_false, Bool.false_eq_true, b2iT, b2iF]; done) | (simp only [stnU, adv_def, h7, h41, if_true, if_false, Bool.false_eq_true, b2iT, b2iF]; done) | (simp only [stnU, adv_def, h7, if_true, if_false, Bool.false_eq_true, b2iT, b2iF]; done)⟩
        · refine xaload_n hk dX4_readStatementName_65 rfl ?_
          refine xgetR (ci := 4) (f := 3) hk dX4_readStatementName_66 ⟨rfl, by decide, _, rfl, rfl⟩ kX4_15 ?_
          refine xiload_n hk dX4_readStatementName_69 rfl ?_
          refine xlload_n hk dX4_readStatementName_70 rfl ?_
          refine xlast hk dX4_readStatementName_71 rfl (vin h53 h62 (by decide)) ?_
          refine xgoto hk 80 dX4_readStatementName_72 (by decide) ?_
          refine xaload_n hk dX4_readStatementName_80 rfl ?_
          refine xdup hk dX4_readStatementName_81 rfl ?_
          refine xgetI (ci := 4) (f := 4) hk dX4_readStatementName_82 ⟨rfl, by decide, _, rfl, rfl⟩ kX4_26 ?_
          refine xiconst (v := 1) hk dX4_readStatementName_85 (by decide) ?_
          refine xiadd hk dX4_readStatementName_86 ?_
          refine xputI (ci := 4) (f := 4) hk dX4_readStatementName_87 ⟨rfl, by decide, _, rfl, rfl⟩ kX4_26 ⟨rfl, by decide +kernel⟩ ?_
          refine xiconst (v := 1) hk dX4_readStatementName_90 (by decide) ?_
          refine xzret hk he dX4_readStatementName_91 ⟨by decide, by decide⟩ (by first | with_reducible exact nar_b _ | rfl) ?_
          exact ⟨by first | (simp only [stnU, adv_def, h7, h41, h53, h62, if_true, if_false, Bool.false_eq_true, b2iT, b2iF]; done) | (simp only [stnU, adv_def, h7, h41, h53, if_true, if_false, Bool.false_eq_true, b2iT, b2iF]; done) | (simp only [stnU, adv_def, h7, h41, if_true, if_false, Bool.false_eq_true, b2iT, b2iF]; done) | (simp only [stnU, adv_def, h7, if_true, if_false, Bool.false_eq_true, b2iT, b2iF]; done), by first | (simp only [stnU, adv_def, h7, h41, h53, h62, if_true, if_false, Bool.false_eq_true, b2iT, b2iF]; done) | (simp only [stnU, adv_def, h7, h41, h53, if_true, if_false, Bool.false_eq_true, b2iT, b2iF]; done) | (simp only [stnU, adv_def, h7, h41, if_true, if_false, Bool.false_eq_true, b2iT, b2iF]; done) | (simp only [stnU, adv_def, h7, if_true, if_false, Bool.false_eq_true, b2iT, b2iF]; done)⟩
    · refine xaload_n hk dX4_readStatementName_44 rfl ?_
      refine xiconst (v := 2) hk dX4_readStatementName_45 (by decide) ?_
      refine xcallV hk c_X4_note bX4_note kX4_82 dX4_readStatementName_46 rfl ⟨_, _, _, _, rfl, rfl⟩ rfl (by decide) ⟨by decide, by decide⟩ (Nat.le_of_ble_eq_true rfl) (det ?_)
      refine xgoto hk 80 dX4_readStatementName_49 (by decide) ?_
      refine xaload_n hk dX4_readStatementName_80 rfl ?_
      refine xdup hk dX4_readStatementName_81 rfl ?_
      refine xgetI (ci := 4) (f := 4) hk dX4_readStatementName_82 ⟨rfl, by decide, _, rfl, rfl⟩ kX4_26 ?_
      refine xiconst (v := 1) hk dX4_readStatementName_85 (by decide) ?_
      refine xiadd hk dX4_readStatementName_86 ?_
      refine xputI (ci := 4) (f := 4) hk dX4_readStatementName_87 ⟨rfl, by decide, _, rfl, rfl⟩ kX4_26 ⟨rfl, by decide +kernel⟩ ?_
      refine xiconst (v := 1) hk dX4_readStatementName_90 (by decide) ?_
      refine xzret hk he dX4_readStatementName_91 ⟨by decide, by decide⟩ (by first | with_reducible exact nar_b _ | rfl) ?_
      exact ⟨by first | (simp only [stnU, adv_def, h7, h41, h53, h62, if_true, if_false, Bool.false_eq_true, b2iT, b2iF]; done) | (simp only [stnU, adv_def, h7, h41, h53, if_true, if_false, Bool.false_eq_true, b2iT, b2iF]; done) | (simp only [stnU, adv_def, h7, h41, if_true, if_false, Bool.false_eq_true, b2iT, b2iF]; done) | (simp only [stnU, adv_def, h7, if_true, if_false, Bool.false_eq_true, b2iT, b2iF]; done), by first | (simp only [stnU, adv_def, h7, h41, h53, h62, if_true, if_false, Bool.false_eq_true, b2iT, b2iF]; done) | (simp only [stnU, adv_def, h7, h41, h53, if_true, if_false, Bool.false_eq_true, b2iT, b2iF]; done) | (simp only [stnU, adv_def, h7, h41, if_true, if_false, Bool.false_eq_true, b2iT, b2iF]; done) | (simp only [stnU, adv_def, h7, if_true, if_false, Bool.false_eq_true, b2iT, b2iF]; done)⟩
  · rw [b2i_0] at h7
    refine xiconst (v := 0) hk dX4_readStatementName_10 (by decide) ?_
    refine xzret hk he dX4_readStatementName_11 ⟨by decide, by decide⟩ (by first | with_reducible exact nar_b _ | rfl) ?_
    exact ⟨by first | (simp only [stnU, adv_def, h7, h41, h53, h62, if_true, if_false, Bool.false_eq_true, b2iT, b2iF]; done) | (simp only [stnU, adv_def, h7, h41, h53, if_true, if_false, Bool.false_eq_true, b2iT, b2iF]; done) | (simp only [stnU, adv_def, h7, h41, if_true, if_false, Bool.false_eq_true, b2iT, b2iF]; done) | (simp only [stnU, adv_def, h7, if_true, if_false, Bool.false_eq_true, b2iT, b2iF]; done), by first | (simp only [stnU, adv_def, h7, h41, h53, h62, if_true, if_false, Bool.false_eq_true, b2iT, b2iF]; done) | (simp only [stnU, adv_def, h7, h41, h53, if_true, if_false, Bool.false_eq_true, b2iT, b2iF]; done) | (simp only [stnU, adv_def, h7, h41, if_true, if_false, Bool.false_eq_true, b2iT, b2iF]; done) | (simp only [stnU, adv_def, h7, if_true, if_false, Bool.false_eq_true, b2iT, b2iF]; done)⟩
def cmpK (kd : Int32) : Bool := decide (kd = 60 ∨ kd = 62 ∨ kd = 61 ∨ kd = 256 ∨ kd = 257)
set_option maxHeartbeats 4000000 in
set_option maxRecDepth 100000 in
theorem c_X4_isComparison {g : Gx} {a : Nat → Nat} {x : XS} {lay : List Kd} {kd : Int32} : Mx g yX4_isComparison cX4_isComparison 1 (some .boolean) 1 0 0 lay a x [.int kd] (pr (some (.int (b2i (cmpK kd)))) x) := by
  refine Mx_of (by decide +kernel) (Nat.le_of_ble_eq_true rfl) ?_
  intro k hk he hg
  subst hg

  refine xiload_n hk dX4_isComparison_0 rfl ?_
  refine xbipush (v := 60) hk dX4_isComparison_1 (by decide) ?_
  refine xicmp_eq hk 32 dX4_isComparison_3 (by decide) (fun h3 => ?_) (fun h3 => ?_)
  · refine xiconst (v := 1) hk dX4_isComparison_32 (by decide) ?_
    refine xgoto hk 37 dX4_isComparison_33 (by decide) ?_
    refine xzret hk he dX4_isComparison_37 ⟨by decide, by decide⟩ (by first | with_reducible exact nar_b _ | rfl) ?_
    exact ⟨by simp [cmpK, b2i, *], rfl⟩
  · refine xiload_n hk dX4_isComparison_6 rfl ?_
    refine xbipush (v := 62) hk dX4_isComparison_7 (by decide) ?_
    refine xicmp_eq hk 32 dX4_isComparison_9 (by decide) (fun h9 => ?_) (fun h9 => ?_)
    · refine xiconst (v := 1) hk dX4_isComparison_32 (by decide) ?_
      refine xgoto hk 37 dX4_isComparison_33 (by decide) ?_
      refine xzret hk he dX4_isComparison_37 ⟨by decide, by decide⟩ (by first | with_reducible exact nar_b _ | rfl) ?_
      exact ⟨by simp [cmpK, b2i, *], rfl⟩
    · refine xiload_n hk dX4_isComparison_12 rfl ?_
      refine xbipush (v := 61) hk dX4_isComparison_13 (by decide) ?_
      refine xicmp_eq hk 32 dX4_isComparison_15 (by decide) (fun h15 => ?_) (fun h15 => ?_)
      · refine xiconst (v := 1) hk dX4_isComparison_32 (by decide) ?_
        refine xgoto hk 37 dX4_isComparison_33 (by decide) ?_
        refine xzret hk he dX4_isComparison_37 ⟨by decide, by decide⟩ (by first | with_reducible exact nar_b _ | rfl) ?_
        exact ⟨by simp [cmpK, b2i, *], rfl⟩
      · refine xiload_n hk dX4_isComparison_18 rfl ?_
        refine xsipush (v := 256) hk dX4_isComparison_19 (by decide) ?_
        refine xicmp_eq hk 32 dX4_isComparison_22 (by decide) (fun h22 => ?_) (fun h22 => ?_)
        · refine xiconst (v := 1) hk dX4_isComparison_32 (by decide) ?_
          refine xgoto hk 37 dX4_isComparison_33 (by decide) ?_
          refine xzret hk he dX4_isComparison_37 ⟨by decide, by decide⟩ (by first | with_reducible exact nar_b _ | rfl) ?_
          exact ⟨by simp [cmpK, b2i, *], rfl⟩
        · refine xiload_n hk dX4_isComparison_25 rfl ?_
          refine xsipush (v := 257) hk dX4_isComparison_26 (by decide) ?_
          refine xicmp_ne hk 36 dX4_isComparison_29 (by decide) (fun h29 => ?_) (fun h29 => ?_)
          · refine xiconst (v := 0) hk dX4_isComparison_36 (by decide) ?_
            refine xzret hk he dX4_isComparison_37 ⟨by decide, by decide⟩ (by first | with_reducible exact nar_b _ | rfl) ?_
            exact ⟨by simp [cmpK, b2i, *], rfl⟩
          · refine xiconst (v := 1) hk dX4_isComparison_32 (by decide) ?_
            refine xgoto hk 37 dX4_isComparison_33 (by decide) ?_
            refine xzret hk he dX4_isComparison_37 ⟨by decide, by decide⟩ (by first | with_reducible exact nar_b _ | rfl) ?_
            exact ⟨by simp [cmpK, b2i, *], rfl⟩
