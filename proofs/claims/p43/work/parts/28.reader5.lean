theorem kX4_110 : Cond.fieldLinkNest RX4 110 "FeudBook$Book" "orders" "I" "FeudBook" ∈ NW := nw_mem 165 (by decide +kernel) rfl
theorem kX4_113 : Cond.fieldLinkNest RX4 113 "FeudBook$Book" "codeLength" "I" "FeudBook" ∈ NW := nw_mem 171 (by decide +kernel) rfl
theorem kX4_119 : Cond.methodLink RX4 119 yX0_addOrder ∈ GW := gw_mem 1096 (by decide +kernel) (by decide +kernel)
theorem bX0_addOrder : CBv yX0_addOrder cX0_addOrder 4 none 3 := ⟨⟨gw_mem 1099 (by decide +kernel) (by decide +kernel), gw_mem 16 (by decide +kernel) (by decide +kernel), by decide +kernel, by decide⟩, gw_mem 1097 (by decide +kernel) (by decide +kernel), gw_mem 1098 (by decide +kernel) (by decide +kernel)⟩
theorem kX4_52 : Cond.methodLink RX4 52 yX6_startAt ∈ GW := gw_mem 1104 (by decide +kernel) (by decide +kernel)
theorem bX6_startAt : CBv yX6_startAt cX6_startAt 2 (some .int) 1 := ⟨⟨gw_mem 1107 (by decide +kernel) (by decide +kernel), gw_mem 15 (by decide +kernel) (by decide +kernel), by decide +kernel, by decide⟩, gw_mem 1105 (by decide +kernel) (by decide +kernel), gw_mem 1106 (by decide +kernel) (by decide +kernel)⟩
theorem tsw {v : Int32} {lo hi d : Int} {offs : Array Int} {n : Nat} (h1 : ¬ (v.toInt < lo ∨ hi < v.toInt)) (hn : hi = lo + n - 1) (keys : List Int) (hk : ∀ k ∈ keys, ¬ v.toInt = k) (hall : ∀ i, i < n → (lo + (i : Int)) ∉ keys → offs[i]? = some d) : offs[(v.toInt - lo).toNat]? = some d := by
  refine hall _ (by omega) (fun hm => hk _ hm ?_)
  omega
def ordrU (x : XS) : Bool × XS :=
  let x1 := adv (if x.1 8 7 < 16 then x else noteF x 4)
  let s := knownU x1 36 20 (x1.1 8 1)
  if s.1 < 0 then (false, s.2) else
  let t := takeU s.2 314
  if t.1 then (let r := testU (sinU 8) t.2; if r.1 then (true, addOrF r.2 (b2i (nextB x 313)) s.1 (s.2.1 8 12)) else (false, r.2))
  else (true, addOrF t.2 (b2i (nextB x 313)) s.1 (s.2.1 8 12))
def lineU (x : XS) : Bool × XS :=
  let kd := curK x
  if kd = 300 then famU x else if kd = 301 then stmU x 0 302 303 else if kd = 304 then stmU x 1 305 306 else if kd = 307 then stmU x 2 263 308 else if kd = 309 then stmU x 3 263 263 else if kd = 312 then ordrU x else if kd = 313 then ordrU x else (false, x)
def planL : Nat → XS → Bool × XS
  | 0, x => (true, x)
  | n + 1, x => if nextB x 260 then (true, x) else
    let l := lineU x
    if l.1 then (let t := takeU l.2 59; if t.1 then planL n t.2 else (false, t.2)) else (false, l.2)
def readF (x : XS) : XS :=
  let x0 := setI (setI x 34 4 0) 34 5 0
  let p := planL 400 (clearF x0)
  if p.1 && nextB p.2 260 then p.2 else let y := setI p.2 34 5 1; setI y 34 6 (y.1 34 4)
def errPosF (x : XS) : Int32 := if x.1 34 5 = 0 then -1 else startAtF x (x.1 34 6)

set_option maxHeartbeats 4000000 in
set_option maxRecDepth 100000 in
theorem c_X4_readOrder {g : Gx} {a : Nat → Nat} {x : XS}  : Mx g yX4_readOrder cX4_readOrder 4 (some .boolean) 80 0 0 LF a x [.ref (a 34)] (pr (some (.int (b2i (ordrU x).1))) (ordrU x).2) := by
  refine Mx_of (by decide +kernel) (Nat.le_of_ble_eq_true rfl) ?_
  intro k hk he hg
  subst hg

  refine xaload_n hk dX4_readOrder_0 rfl ?_
  refine xsipush (v := 313) hk dX4_readOrder_1 (by decide) ?_
  refine xcallV hk c_X4_isNext bX4_isNext kX4_38 dX4_readOrder_4 rfl ⟨_, _, _, _, rfl, rfl⟩ rfl (by decide) ⟨by decide, by decide⟩ (Nat.le_of_ble_eq_true rfl) (det ?_)
  refine xistore_n hk dX4_readOrder_7 (by decide) ?_
  refine xaload_n hk dX4_readOrder_8 rfl ?_
  refine xgetR (ci := 4) (f := 1) hk dX4_readOrder_9 ⟨rfl, by decide, _, rfl, rfl⟩ kX4_22 ?_
  refine xgetNI (ci := 0) (f := 7) hk dX4_readOrder_12 ⟨rfl, by decide, _, rfl, rfl⟩ kX4_110 ?_
  refine xbipush (v := 16) hk dX4_readOrder_15 (by decide) ?_
  refine xicmp_lt hk 25 dX4_readOrder_17 (by decide) (fun h17 => ?_) (fun h17 => ?_)
  · have e1 : (if x.1 8 7 < 16 then x else noteF x 4) = x := if_pos h17
    refine xaload_n hk dX4_readOrder_25 rfl ?_
    refine xdup hk dX4_readOrder_26 rfl ?_
    refine xgetI (ci := 4) (f := 4) hk dX4_readOrder_27 ⟨rfl, by decide, _, rfl, rfl⟩ kX4_26 ?_
    refine xiconst (v := 1) hk dX4_readOrder_30 (by decide) ?_
    refine xiadd hk dX4_readOrder_31 ?_
    refine xputI (ci := 4) (f := 4) hk dX4_readOrder_32 ⟨rfl, by decide, _, rfl, rfl⟩ kX4_26 ⟨rfl, by decide +kernel⟩ ?_
    refine xaload_n hk dX4_readOrder_35 rfl ?_
    refine xaload_n hk dX4_readOrder_36 rfl ?_
    refine xgetR (ci := 4) (f := 3) hk dX4_readOrder_37 ⟨rfl, by decide, _, rfl, rfl⟩ kX4_15 ?_
    refine xaload_n hk dX4_readOrder_40 rfl ?_
    refine xgetR (ci := 4) (f := 1) hk dX4_readOrder_41 ⟨rfl, by decide, _, rfl, rfl⟩ kX4_22 ?_
    refine xgetNI (ci := 0) (f := 1) hk dX4_readOrder_44 ⟨rfl, by decide, _, rfl, rfl⟩ kX4_97 ?_
    refine xcallV hk c_X4_readKnownName36 bX4_readKnownName kX4_106 dX4_readOrder_47 rfl ⟨_, _, _, _, rfl, rfl⟩ rfl (by decide) ⟨by decide, by decide⟩ (Nat.le_of_ble_eq_true rfl) (det ?_)
    refine xistore_n hk dX4_readOrder_50 (by decide) ?_
    refine xiload_n hk dX4_readOrder_51 rfl ?_
    refine xif_ge hk 57 dX4_readOrder_52 (by decide) (fun h52 => ?_) (fun h52 => ?_)
    · have h52 := Int32.not_lt.mpr h52
      refine xaload_n hk dX4_readOrder_57 rfl ?_
      refine xgetR (ci := 4) (f := 1) hk dX4_readOrder_58 ⟨rfl, by decide, _, rfl, rfl⟩ kX4_22 ?_
      refine xgetNI (ci := 0) (f := 12) hk dX4_readOrder_61 ⟨rfl, by decide, _, rfl, rfl⟩ kX4_113 ?_
      refine xistore_n hk dX4_readOrder_64 (by decide) ?_
      refine xaload_n hk dX4_readOrder_65 rfl ?_
      refine xsipush (v := 314) hk dX4_readOrder_66 (by decide) ?_
      refine xcallV hk c_X4_take bX4_take kX4_46 dX4_readOrder_69 rfl ⟨_, _, _, _, rfl, rfl⟩ rfl (by decide) ⟨by decide, by decide⟩ (Nat.le_of_ble_eq_true rfl) (det ?_)
      refine xif_eq hk 85 dX4_readOrder_72 (by decide) (fun h72 => ?_) (fun h72 => ?_)
      · rw [b2i_0] at h72
        refine xaload_n hk dX4_readOrder_85 rfl ?_
        refine xgetR (ci := 4) (f := 1) hk dX4_readOrder_86 ⟨rfl, by decide, _, rfl, rfl⟩ kX4_22 ?_
        refine xiload_n hk dX4_readOrder_89 rfl ?_
        refine xiload_n hk dX4_readOrder_90 rfl ?_
        refine xiload_n hk dX4_readOrder_91 rfl ?_
        refine xcallV hk c_X0_addOrder bX0_addOrder kX4_119 dX4_readOrder_92 rfl ⟨_, _, _, _, rfl, rfl⟩ rfl (by decide) ⟨by decide, by decide⟩ (Nat.le_of_ble_eq_true rfl) (det ?_)
        refine xiconst (v := 1) hk dX4_readOrder_95 (by decide) ?_
        refine xzret hk he dX4_readOrder_96 ⟨by decide, by decide⟩ (by first | with_reducible exact nar_b _ | rfl) ?_
        exact ⟨by first | (simp only [ordrU, e1, adv, h52, h72, h80, if_true, if_false, Bool.false_eq_true, b2iT, b2iF]; done) | (simp only [ordrU, e1, adv, h52, h72, if_true, if_false, Bool.false_eq_true, b2iT, b2iF]; done) | (simp only [ordrU, e1, adv, h52, if_true, if_false, Bool.false_eq_true, b2iT, b2iF]; done), by first | (simp only [ordrU, e1, adv, h52, h72, h80, if_true, if_false, Bool.false_eq_true, b2iT, b2iF]; done) | (simp only [ordrU, e1, adv, h52, h72, if_true, if_false, Bool.false_eq_true, b2iT, b2iF]; done) | (simp only [ordrU, e1, adv, h52, if_true, if_false, Bool.false_eq_true, b2iT, b2iF]; done)⟩
      · rw [b2i_t] at h72
        refine xaload_n hk dX4_readOrder_75 rfl ?_
        refine xiconst (v := 0) hk dX4_readOrder_76 (by decide) ?_
        refine xcallV hk (c_test _) bX4_readTest kX4_116 dX4_readOrder_77 rfl ⟨_, _, _, _, rfl, rfl⟩ rfl (by decide) ⟨by decide, by decide⟩ (Nat.le_of_ble_eq_true rfl) (det ?_)
        refine xif_ne hk 85 dX4_readOrder_80 (by decide) (fun h80 => ?_) (fun h80 => ?_)
        · rw [b2i_t] at h80
          refine xaload_n hk dX4_readOrder_85 rfl ?_
          refine xgetR (ci := 4) (f := 1) hk dX4_readOrder_86 ⟨rfl, by decide, _, rfl, rfl⟩ kX4_22 ?_
          refine xiload_n hk dX4_readOrder_89 rfl ?_
          refine xiload_n hk dX4_readOrder_90 rfl ?_
          refine xiload_n hk dX4_readOrder_91 rfl ?_
          refine xcallV hk c_X0_addOrder bX0_addOrder kX4_119 dX4_readOrder_92 rfl ⟨_, _, _, _, rfl, rfl⟩ rfl (by decide) ⟨by decide, by decide⟩ (Nat.le_of_ble_eq_true rfl) (det ?_)
          refine xiconst (v := 1) hk dX4_readOrder_95 (by decide) ?_
          refine xzret hk he dX4_readOrder_96 ⟨by decide, by decide⟩ (by first | with_reducible exact nar_b _ | rfl) ?_
          exact ⟨by first | (simp only [ordrU, e1, adv, h52, h72, h80, if_true, if_false, Bool.false_eq_true, b2iT, b2iF]; done) | (simp only [ordrU, e1, adv, h52, h72, if_true, if_false, Bool.false_eq_true, b2iT, b2iF]; done) | (simp only [ordrU, e1, adv, h52, if_true, if_false, Bool.false_eq_true, b2iT, b2iF]; done), by first | (simp only [ordrU, e1, adv, h52, h72, h80, if_true, if_false, Bool.false_eq_true, b2iT, b2iF]; done) | (simp only [ordrU, e1, adv, h52, h72, if_true, if_false, Bool.false_eq_true, b2iT, b2iF]; done) | (simp only [ordrU, e1, adv, h52, if_true, if_false, Bool.false_eq_true, b2iT, b2iF]; done)⟩
        · rw [b2i_0] at h80
          refine xiconst (v := 0) hk dX4_readOrder_83 (by decide) ?_
          refine xzret hk he dX4_readOrder_84 ⟨by decide, by decide⟩ (by first | with_reducible exact nar_b _ | rfl) ?_
          exact ⟨by first | (simp only [ordrU, e1, adv, h52, h72, h80, if_true, if_false, Bool.false_eq_true, b2iT, b2iF]; done) | (simp only [ordrU, e1, adv, h52, h72, if_true, if_false, Bool.false_eq_true, b2iT, b2iF]; done) | (simp only [ordrU, e1, adv, h52, if_true, if_false, Bool.false_eq_true, b2iT, b2iF]; done), by first | (simp only [ordrU, e1, adv, h52, h72, h80, if_true, if_false, Bool.false_eq_true, b2iT, b2iF]; done) | (simp only [ordrU, e1, adv, h52, h72, if_true, if_false, Bool.false_eq_true, b2iT, b2iF]; done) | (simp only [ordrU, e1, adv, h52, if_true, if_false, Bool.false_eq_true, b2iT, b2iF]; done)⟩
    · have h52 := Int32.not_le.mp h52
      refine xiconst (v := 0) hk dX4_readOrder_55 (by decide) ?_
      refine xzret hk he dX4_readOrder_56 ⟨by decide, by decide⟩ (by first | with_reducible exact nar_b _ | rfl) ?_
      exact ⟨by first | (simp only [ordrU, e1, adv, h52, h72, h80, if_true, if_false, Bool.false_eq_true, b2iT, b2iF]; done) | (simp only [ordrU, e1, adv, h52, h72, if_true, if_false, Bool.false_eq_true, b2iT, b2iF]; done) | (simp only [ordrU, e1, adv, h52, if_true, if_false, Bool.false_eq_true, b2iT, b2iF]; done), by first | (simp only [ordrU, e1, adv, h52, h72, h80, if_true, if_false, Bool.false_eq_true, b2iT, b2iF]; done) | (simp only [ordrU, e1, adv, h52, h72, if_true, if_false, Bool.false_eq_true, b2iT, b2iF]; done) | (simp only [ordrU, e1, adv, h52, if_true, if_false, Bool.false_eq_true, b2iT, b2iF]; done)⟩
  · have e1 : (if x.1 8 7 < 16 then x else noteF x 4) = noteF x 4 := if_neg h17
    refine xaload_n hk dX4_readOrder_20 rfl ?_
    refine xiconst (v := 4) hk dX4_readOrder_21 (by decide) ?_
    refine xcallV hk c_X4_note bX4_note kX4_82 dX4_readOrder_22 rfl ⟨_, _, _, _, rfl, rfl⟩ rfl (by decide) ⟨by decide, by decide⟩ (Nat.le_of_ble_eq_true rfl) (det ?_)
    refine xaload_n hk dX4_readOrder_25 rfl ?_
    refine xdup hk dX4_readOrder_26 rfl ?_
    refine xgetI (ci := 4) (f := 4) hk dX4_readOrder_27 ⟨rfl, by decide, _, rfl, rfl⟩ kX4_26 ?_
    refine xiconst (v := 1) hk dX4_readOrder_30 (by decide) ?_
    refine xiadd hk dX4_readOrder_31 ?_
    refine xputI (ci := 4) (f := 4) hk dX4_readOrder_32 ⟨rfl, by decide, _, rfl, rfl⟩ kX4_26 ⟨rfl, by decide +kernel⟩ ?_
    refine xaload_n hk dX4_readOrder_35 rfl ?_
    refine xaload_n hk dX4_readOrder_36 rfl ?_
    refine xgetR (ci := 4) (f := 3) hk dX4_readOrder_37 ⟨rfl, by decide, _, rfl, rfl⟩ kX4_15 ?_
    refine xaload_n hk dX4_readOrder_40 rfl ?_
    refine xgetR (ci := 4) (f := 1) hk dX4_readOrder_41 ⟨rfl, by decide, _, rfl, rfl⟩ kX4_22 ?_
    refine xgetNI (ci := 0) (f := 1) hk dX4_readOrder_44 ⟨rfl, by decide, _, rfl, rfl⟩ kX4_97 ?_
    refine xcallV hk c_X4_readKnownName36 bX4_readKnownName kX4_106 dX4_readOrder_47 rfl ⟨_, _, _, _, rfl, rfl⟩ rfl (by decide) ⟨by decide, by decide⟩ (Nat.le_of_ble_eq_true rfl) (det ?_)
    refine xistore_n hk dX4_readOrder_50 (by decide) ?_
    refine xiload_n hk dX4_readOrder_51 rfl ?_
    refine xif_ge hk 57 dX4_readOrder_52 (by decide) (fun h52 => ?_) (fun h52 => ?_)
    · have h52 := Int32.not_lt.mpr h52
      refine xaload_n hk dX4_readOrder_57 rfl ?_
      refine xgetR (ci := 4) (f := 1) hk dX4_readOrder_58 ⟨rfl, by decide, _, rfl, rfl⟩ kX4_22 ?_
      refine xgetNI (ci := 0) (f := 12) hk dX4_readOrder_61 ⟨rfl, by decide, _, rfl, rfl⟩ kX4_113 ?_
      refine xistore_n hk dX4_readOrder_64 (by decide) ?_
      refine xaload_n hk dX4_readOrder_65 rfl ?_
      refine xsipush (v := 314) hk dX4_readOrder_66 (by decide) ?_
      refine xcallV hk c_X4_take bX4_take kX4_46 dX4_readOrder_69 rfl ⟨_, _, _, _, rfl, rfl⟩ rfl (by decide) ⟨by decide, by decide⟩ (Nat.le_of_ble_eq_true rfl) (det ?_)
      refine xif_eq hk 85 dX4_readOrder_72 (by decide) (fun h72 => ?_) (fun h72 => ?_)
      · rw [b2i_0] at h72
        refine xaload_n hk dX4_readOrder_85 rfl ?_
        refine xgetR (ci := 4) (f := 1) hk dX4_readOrder_86 ⟨rfl, by decide, _, rfl, rfl⟩ kX4_22 ?_
        refine xiload_n hk dX4_readOrder_89 rfl ?_
        refine xiload_n hk dX4_readOrder_90 rfl ?_
        refine xiload_n hk dX4_readOrder_91 rfl ?_
        refine xcallV hk c_X0_addOrder bX0_addOrder kX4_119 dX4_readOrder_92 rfl ⟨_, _, _, _, rfl, rfl⟩ rfl (by decide) ⟨by decide, by decide⟩ (Nat.le_of_ble_eq_true rfl) (det ?_)
        refine xiconst (v := 1) hk dX4_readOrder_95 (by decide) ?_
        refine xzret hk he dX4_readOrder_96 ⟨by decide, by decide⟩ (by first | with_reducible exact nar_b _ | rfl) ?_
        exact ⟨by first | (simp only [ordrU, e1, adv, h52, h72, h80, if_true, if_false, Bool.false_eq_true, b2iT, b2iF]; done) | (simp only [ordrU, e1, adv, h52, h72, if_true, if_false, Bool.false_eq_true, b2iT, b2iF]; done) | (simp only [ordrU, e1, adv, h52, if_true, if_false, Bool.false_eq_true, b2iT, b2iF]; done), by first | (simp only [ordrU, e1, adv, h52, h72, h80, if_true, if_false, Bool.false_eq_true, b2iT, b2iF]; done) | (simp only [ordrU, e1, adv, h52, h72, if_true, if_false, Bool.false_eq_true, b2iT, b2iF]; done) | (simp only [ordrU, e1, adv, h52, if_true, if_false, Bool.false_eq_true, b2iT, b2iF]; done)⟩
      · rw [b2i_t] at h72
        refine xaload_n hk dX4_readOrder_75 rfl ?_
        refine xiconst (v := 0) hk dX4_readOrder_76 (by decide) ?_
        refine xcallV hk (c_test _) bX4_readTest kX4_116 dX4_readOrder_77 rfl ⟨_, _, _, _, rfl, rfl⟩ rfl (by decide) ⟨by decide, by decide⟩ (Nat.le_of_ble_eq_true rfl) (det ?_)
        refine xif_ne hk 85 dX4_readOrder_80 (by decide) (fun h80 => ?_) (fun h80 => ?_)
        · rw [b2i_t] at h80
          refine xaload_n hk dX4_readOrder_85 rfl ?_
          refine xgetR (ci := 4) (f := 1) hk dX4_readOrder_86 ⟨rfl, by decide, _, rfl, rfl⟩ kX4_22 ?_
          refine xiload_n hk dX4_readOrder_89 rfl ?_
          refine xiload_n hk dX4_readOrder_90 rfl ?_
          refine xiload_n hk dX4_readOrder_91 rfl ?_
          refine xcallV hk c_X0_addOrder bX0_addOrder kX4_119 dX4_readOrder_92 rfl ⟨_, _, _, _, rfl, rfl⟩ rfl (by decide) ⟨by decide, by decide⟩ (Nat.le_of_ble_eq_true rfl) (det ?_)
          refine xiconst (v := 1) hk dX4_readOrder_95 (by decide) ?_
          refine xzret hk he dX4_readOrder_96 ⟨by decide, by decide⟩ (by first | with_reducible exact nar_b _ | rfl) ?_
          exact ⟨by first | (simp only [ordrU, e1, adv, h52, h72, h80, if_true, if_false, Bool.false_eq_true, b2iT, b2iF]; done) | (simp only [ordrU, e1, adv, h52, h72, if_true, if_false, Bool.false_eq_true, b2iT, b2iF]; done) | (simp only [ordrU, e1, adv, h52, if_true, if_false, Bool.false_eq_true, b2iT, b2iF]; done), by first | (simp only [ordrU, e1, adv, h52, h72, h80, if_true, if_false, Bool.false_eq_true, b2iT, b2iF]; done) | (simp only [ordrU, e1, adv, h52, h72, if_true, if_false, Bool.false_eq_true, b2iT, b2iF]; done) | (simp only [ordrU, e1, adv, h52, if_true, if_false, Bool.false_eq_true, b2iT, b2iF]; done)⟩
        · rw [b2i_0] at h80
          refine xiconst (v := 0) hk dX4_readOrder_83 (by decide) ?_
          refine xzret hk he dX4_readOrder_84 ⟨by decide, by decide⟩ (by first | with_reducible exact nar_b _ | rfl) ?_
          exact ⟨by first | (simp only [ordrU, e1, adv, h52, h72, h80, if_true, if_false, Bool.false_eq_true, b2iT, b2iF]; done) | (simp only [ordrU, e1, adv, h52, h72, if_true, if_false, Bool.false_eq_true, b2iT, b2iF]; done) | (simp only [ordrU, e1, adv, h52, if_true, if_false, Bool.false_eq_true, b2iT, b2iF]; done), by first | (simp only [ordrU, e1, adv, h52, h72, h80, if_true, if_false, Bool.false_eq_true, b2iT, b2iF]; done) | (simp only [ordrU, e1, adv, h52, h72, if_true, if_false, Bool.false_eq_true, b2iT, b2iF]; done) | (simp only [ordrU, e1, adv, h52, if_true, if_false, Bool.false_eq_true, b2iT, b2iF]; done)⟩
    · have h52 := Int32.not_le.mp h52
      refine xiconst (v := 0) hk dX4_readOrder_55 (by decide) ?_
      refine xzret hk he dX4_readOrder_56 ⟨by decide, by decide⟩ (by first | with_reducible exact nar_b _ | rfl) ?_
      exact ⟨by first | (simp only [ordrU, e1, adv, h52, h72, h80, if_true, if_false, Bool.false_eq_true, b2iT, b2iF]; done) | (simp only [ordrU, e1, adv, h52, h72, if_true, if_false, Bool.false_eq_true, b2iT, b2iF]; done) | (simp only [ordrU, e1, adv, h52, if_true, if_false, Bool.false_eq_true, b2iT, b2iF]; done), by first | (simp only [ordrU, e1, adv, h52, h72, h80, if_true, if_false, Bool.false_eq_true, b2iT, b2iF]; done) | (simp only [ordrU, e1, adv, h52, h72, if_true, if_false, Bool.false_eq_true, b2iT, b2iF]; done) | (simp only [ordrU, e1, adv, h52, if_true, if_false, Bool.false_eq_true, b2iT, b2iF]; done)⟩
set_option maxHeartbeats 4000000 in
set_option maxRecDepth 100000 in
theorem c_X4_errorPosition {g : Gx} {a : Nat → Nat} {x : XS}  : Mx g yX4_errorPosition cX4_errorPosition 1 (some .int) 2 0 0 LF a x [.ref (a 34)] (pr (some (.int (errPosF x))) x) := by
  refine Mx_of (by decide +kernel) (Nat.le_of_ble_eq_true rfl) ?_
  intro k hk he hg
  subst hg

  refine xaload_n hk dX4_errorPosition_0 rfl ?_
  refine xgetI (ci := 4) (f := 5) hk dX4_errorPosition_1 ⟨rfl, by decide, _, rfl, rfl⟩ kX4_30 ?_
  refine xif_ne hk 11 dX4_errorPosition_4 (by decide) (fun h4 => ?_) (fun h4 => ?_)
  · refine xaload_n hk dX4_errorPosition_11 rfl ?_
    refine xgetR (ci := 4) (f := 0) hk dX4_errorPosition_12 ⟨rfl, by decide, _, rfl, rfl⟩ kX4_18 ?_
    refine xaload_n hk dX4_errorPosition_15 rfl ?_
    refine xgetI (ci := 4) (f := 6) hk dX4_errorPosition_16 ⟨rfl, by decide, _, rfl, rfl⟩ kX4_49 ?_
    refine xcallV hk c_X6_startAt bX6_startAt kX4_52 dX4_errorPosition_19 rfl ⟨_, _, _, _, rfl, rfl⟩ rfl (by decide) ⟨by decide, by decide⟩ (Nat.le_of_ble_eq_true rfl) (det ?_)
    refine xiret hk he dX4_errorPosition_22 ⟨by decide, by decide⟩ ?_
    exact ⟨by simp [errPosF, h4], rfl⟩
  · refine xiconst (v := (-1)) hk dX4_errorPosition_7 (by decide) ?_
    refine xgoto hk 22 dX4_errorPosition_8 (by decide) ?_
    refine xiret hk he dX4_errorPosition_22 ⟨by decide, by decide⟩ ?_
    exact ⟨by simp [errPosF, h4], rfl⟩
