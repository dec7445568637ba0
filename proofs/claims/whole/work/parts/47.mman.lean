theorem kX10_403 : Cond.methodLink RX10 403 yX10_blamed ∈ GW := gw_mem 1726 (by decide +kernel) (by decide +kernel)
theorem bX10_blamed : CBv yX10_blamed cX10_blamed 2 (some .int) 0 := ⟨⟨gw_mem 1729 (by decide +kernel) (by decide +kernel), gw_mem 14 (by decide +kernel) (by decide +kernel), by decide +kernel, by decide⟩, gw_mem 1728 (by decide +kernel) (by decide +kernel), gw_sel 105 (by decide +kernel) (by decide +kernel)⟩
theorem kX10_406 : Cond.methodLink RX10 406 yX10_turned ∈ GW := gw_mem 1734 (by decide +kernel) (by decide +kernel)
theorem bX10_turned : CBv yX10_turned cX10_turned 2 (some .int) 1 := ⟨⟨gw_mem 1737 (by decide +kernel) (by decide +kernel), gw_mem 14 (by decide +kernel) (by decide +kernel), by decide +kernel, by decide⟩, gw_mem 1736 (by decide +kernel) (by decide +kernel), gw_sel 106 (by decide +kernel) (by decide +kernel)⟩
theorem kX10_409 : Cond.methodLink RX10 409 yX10_pass ∈ GW := gw_mem 1746 (by decide +kernel) (by decide +kernel)
theorem bX10_pass : CBv yX10_pass cX10_pass 4 none 1 := ⟨⟨gw_mem 1749 (by decide +kernel) (by decide +kernel), gw_mem 14 (by decide +kernel) (by decide +kernel), by decide +kernel, by decide⟩, gw_mem 1748 (by decide +kernel) (by decide +kernel), gw_sel 107 (by decide +kernel) (by decide +kernel)⟩
theorem kX10_394 : Cond.methodLink RX10 394 yX10_between ∈ GW := gw_mem 1658 (by decide +kernel) (by decide +kernel)
theorem bX10_between : CBv yX10_between cX10_between 5 (some .int) 2 := ⟨⟨gw_mem 1661 (by decide +kernel) (by decide +kernel), gw_mem 14 (by decide +kernel) (by decide +kernel), by decide +kernel, by decide⟩, gw_mem 1660 (by decide +kernel) (by decide +kernel), gw_sel 99 (by decide +kernel) (by decide +kernel)⟩
theorem kX10_418 : Cond.methodLink RX10 418 yX10_mostTelling ∈ GW := gw_mem 1805 (by decide +kernel) (by decide +kernel)
theorem bX10_mostTelling : CBv yX10_mostTelling cX10_mostTelling 3 (some .int) 0 := ⟨⟨gw_mem 1808 (by decide +kernel) (by decide +kernel), gw_mem 14 (by decide +kernel) (by decide +kernel), by decide +kernel, by decide⟩, gw_mem 1807 (by decide +kernel) (by decide +kernel), gw_sel 115 (by decide +kernel) (by decide +kernel)⟩
noncomputable def cdec (p : Prop) : Bool := @decide p (Classical.propDecidable p)
theorem cdec_of {p : Prop} (h : cdec p = true) : p := @of_decide_eq_true p (Classical.propDecidable p) h
theorem cdec_t {p : Prop} (h : p) : cdec p = true := @decide_eq_true p (Classical.propDecidable p) h
section WDB
variable {k : Kx} {cc : ByteArray} {nL rk mc ms pc cells slots : Nat} {own nm : String} {ret : Option FieldType} {lay : List Kd} {a : Nat → Nat} {x : XS} {L : List (Nat × Value)} {stk : List Value} {post : Option Value → XS → Prop}
theorem xdconst0 (hk : Fok k cc nL own ret nm rk mc ms) (d : decode cc pc = .ok (.dconst 0, 1)) (kk : Wx k cells slots lay a x (pc + 1) L (.double 0 :: stk)) : Wx k cells slots lay a x pc L stk := by
  rcases k with ⟨p, e, s, m, args, below, meth, c, Q, A, R, g⟩
  obtain ⟨hx, hb, hml, hown, hts, hr, hlk, hK, hA, hA0, hR, hSg, hnm, hb0⟩ := hk
  intro H locs ls hP hD hS hl
  exact lv_dconst0 hx hb d (kk H locs ls hP hD hS hl)
theorem xi2d (hk : Fok k cc nL own ret nm rk mc ms) {v : Int32} (d : decode cc pc = .ok (.i2d, 1)) (kk : Wx k cells slots lay a x (pc + 1) L (.double (FP.i2d v) :: stk)) : Wx k cells slots lay a x pc L (.int v :: stk) := by
  rcases k with ⟨p, e, s, m, args, below, meth, c, Q, A, R, g⟩
  obtain ⟨hx, hb, hml, hown, hts, hr, hlk, hK, hA, hA0, hR, hSg, hnm, hb0⟩ := hk
  intro H locs ls hP hD hS hl
  exact lv_i2d hx hb d (kk H locs ls hP hD hS hl)
theorem xddiv (hk : Fok k cc nL own ret nm rk mc ms) {v w : UInt64} (d : decode cc pc = .ok (.ddiv, 1)) (hne : vf_n64 (FP.ddiv v w)) (kk : Wx k cells slots lay a x (pc + 1) L (.double (FP.ddiv v w) :: stk)) : Wx k cells slots lay a x pc L (.double w :: .double v :: stk) := by
  rcases k with ⟨p, e, s, m, args, below, meth, c, Q, A, R, g⟩
  obtain ⟨hx, hb, hml, hown, hts, hr, hlk, hK, hA, hA0, hR, hSg, hnm, hb0⟩ := hk
  intro H locs ls hP hD hS hl
  exact lv_ddiv hx hb d hne (kk H locs ls hP hD hS hl)
theorem xdret (hk : Fok k cc nL own (some .double) nm rk mc ms) (he : Ends k lay a post mc ms) {v : UInt64} (d : decode cc pc = .ok (.dreturn, 1)) (hc : cells ≤ mc ∧ slots ≤ ms) (hp : post (some (.double v)) x) : Wx k cells slots lay a x pc L [.double v] := by
  rcases k with ⟨p, e, s, m, args, below, meth, c, Q, A, R, g⟩
  obtain ⟨hx, hb, hml, hown, hts, hr, hlk, hK, hA, hA0, hR, hSg, hnm, hb0⟩ := hk
  obtain ⟨rfl, rfl⟩ := he
  intro H locs ls hP hD hS hl
  refine W.widen hc.1 hc.2 ?_
  exact W.dret hx hb hr (fun t ht hW => ⟨⟨_, x, rfl, hp, by rw [ht]; exact hP⟩, hS.F ht⟩) hS.2.2 d hlk
end WDB

theorem d_X10_with {g : Gx} {a : Nat → Nat} {x : XS} {v : Int32} (hM : MOK x) (hv : vp_in v 20) : Mx g yX10_with cX10_with 2 (some .int) 6 0 0 LM a x [.ref (a 0), .int v] (pr (some (.int ((mlook (x.1 0 15) x).1 8 v.toNatClampNeg))) (mlook (x.1 0 15) x)) := by
  obtain ⟨c, hc, rfl⟩ := vp_in_of hv (by decide)
  rw [nI_clamp (show c < 2 ^ 31 by omega)]
  exact c_X10_with hM hc
theorem d_X10_isFrom {g : Gx} {a : Nat → Nat} {x : XS} {v w : Int32} (hM : MOK x) (hw : vp_in w 20) (hv : vp_in v 20) : Mx g yX10_isFrom cX10_isFrom 3 (some .boolean) 5 0 0 LM a x [.ref (a 0), .int w, .int v] (pr (some (.int (b2i (mhasB ((mfol x).1 9 v.toNatClampNeg) w)))) (mfol x)) := by
  obtain ⟨d, hd, rfl⟩ := vp_in_of hw (by decide)
  obtain ⟨c, hc, rfl⟩ := vp_in_of hv (by decide)
  rw [nI_clamp (show c < 2 ^ 31 by omega)]
  exact c_X10_isFrom hM hd hc
theorem d_X10_following {g : Gx} {a : Nat → Nat} {x : XS} {v : Int32} (hM : MOK x) (hv : vp_in v 20) : Mx g yX10_following cX10_following 2 (some .int) 5 0 0 LM a x [.ref (a 0), .int v] (pr (some (.int (bcI ((mfol x).1 9 v.toNatClampNeg)))) (mfol x)) := by
  obtain ⟨c, hc, rfl⟩ := vp_in_of hv (by decide)
  rw [nI_clamp (show c < 2 ^ 31 by omega)]
  exact c_X10_following hM hc
theorem d_X10_ofPart {g : Gx} {a : Nat → Nat} {x : XS} {v : Int32} (hM : MOK x) (hv : vp_in v 20) (hD : x.1 0 22 = x.1 0 15 → DIA x) : Mx g yX10_ofPart cX10_ofPart 2 (some .int) 5 0 0 LM a x [.ref (a 0), .int v] (pr (some (.int (smF (mfol x) v))) (mfol x)) := by
  obtain ⟨c, hc, rfl⟩ := vp_in_of hv (by decide)
  exact c_X10_ofPart hM hc hD
theorem d_X10_between {g : Gx} {a : Nat → Nat} {x y : XS} {v w : Int32} (hM : MOK x) (hv : vp_in v 20) (hw : vp_in w 20) (hb : btL v.toNatClampNeg 21 0 (bt0 w.toNatClampNeg x) = some y) : Mx g yX10_between cX10_between 5 (some .int) 3 0 0 LM a x [.ref (a 0), .int v, .int w] (pr (some (.int (y.1 10 v.toNatClampNeg))) y) := by
  obtain ⟨c, hc, rfl⟩ := vp_in_of hv (by decide)
  obtain ⟨d, hd, rfl⟩ := vp_in_of hw (by decide)
  rw [nI_clamp (show c < 2 ^ 31 by omega), nI_clamp (show d < 2 ^ 31 by omega)] at *
  exact c_X10_between hM hc hd hb
def f_X10_trim  (p : Int32) (x : XS) : Option (Int32 × XS) := (if (b2i (isInB p 0 ((setI x 0 0 0).1 0 2))) = 0 then some (0, (setI (setI x 0 0 0) 0 0 1)) else some (p, (setI (setI x 0 0 0) 0 2 p)))

set_option maxHeartbeats 4000000 in
set_option maxRecDepth 100000 in
theorem c_X10_trim {g : Gx} {a : Nat → Nat} {x : XS}   {p : Int32} {u : Int32 × XS}  (h : f_X10_trim  p x = some u) : Mx g yX10_trim cX10_trim 2 (some .int) 3 0 0 LM a x [.ref (a 0), .int p] (pr (some (.int u.1)) u.2) := by
  refine Mx_of (by decide +kernel) (Nat.le_of_ble_eq_true rfl) ?_
  intro k hk he hg
  subst hg
  rw [f_X10_trim] at h
  refine xaload_n hk dX10_trim_0 rfl ?_
  refine xiconst (v := 0) hk dX10_trim_1 (by decide) ?_
  refine xputI (ci := 10) (f := 0) hk dX10_trim_2 ⟨rfl, by decide, _, rfl, rfl⟩ kX10_60 ⟨rfl, by decide +kernel⟩ ?_
  refine xiload_n hk dX10_trim_5 rfl ?_
  refine xiconst (v := 0) hk dX10_trim_6 (by decide) ?_
  refine xaload_n hk dX10_trim_7 rfl ?_
  refine xgetI (ci := 10) (f := 2) hk dX10_trim_8 ⟨rfl, by decide, _, rfl, rfl⟩ kX10_200 ?_
  refine xcallS hk c_X10_isIn bX10_isIn kX10_66 dX10_trim_11 rfl rfl (by first | decide | omega) ⟨by decide, by decide⟩ (Nat.le_of_ble_eq_true rfl) (det ?_)
  refine xif_ne hk 23 dX10_trim_14 (by decide) (fun h14 => ?_) (fun h14 => ?_)
  · rw [if_neg h14] at h
    refine xaload_n hk dX10_trim_23 rfl ?_
    refine xiload_n hk dX10_trim_24 rfl ?_
    refine xputI (ci := 10) (f := 2) hk dX10_trim_25 ⟨rfl, by decide, _, rfl, rfl⟩ kX10_200 ⟨rfl, by decide +kernel⟩ ?_
    refine xiload_n hk dX10_trim_28 rfl ?_
    refine xiret hk he dX10_trim_29 ⟨by decide, by decide⟩ ?_
    obtain rfl := Option.some.inj h
    exact ⟨rfl, rfl⟩
  · rw [if_pos h14] at h
    refine xaload_n hk dX10_trim_17 rfl ?_
    refine xiconst (v := 1) hk dX10_trim_18 (by decide) ?_
    refine xcallV hk c_X10_no bX10_no kX10_367 dX10_trim_19 rfl ⟨_, _, _, _, rfl, rfl⟩ rfl (by first | decide | omega) ⟨by decide, by decide⟩ (Nat.le_of_ble_eq_true rfl) (det ?_)
    refine xiret hk he dX10_trim_22 ⟨by decide, by decide⟩ ?_
    obtain rfl := Option.some.inj h
    exact ⟨rfl, rfl⟩

noncomputable def f_X10_isPeacePossible   (x : XS) : Option (Bool × XS) := og (cdec (MOK (setI x 0 0 0))) ((if ((mlook ((setI x 0 0 0).1 0 15) (setI x 0 0 0)).1 0 18) ≤ 0 then some (false, (mlook ((setI x 0 0 0).1 0 15) (setI x 0 0 0))) else some (true, (mlook ((setI x 0 0 0).1 0 15) (setI x 0 0 0)))))

set_option maxHeartbeats 4000000 in
set_option maxRecDepth 100000 in
theorem c_X10_isPeacePossible {g : Gx} {a : Nat → Nat} {x : XS}    {u : Bool × XS}  (h : f_X10_isPeacePossible   x = some u) : Mx g yX10_isPeacePossible cX10_isPeacePossible 1 (some .boolean) 8 0 0 LM a x [.ref (a 0)] (pr (some (.int (b2i u.1))) u.2) := by
  refine Mx_of (by decide +kernel) (Nat.le_of_ble_eq_true rfl) ?_
  intro k hk he hg
  subst hg
  rw [f_X10_isPeacePossible] at h
  refine xaload_n hk dX10_isPeacePossible_0 rfl ?_
  refine xiconst (v := 0) hk dX10_isPeacePossible_1 (by decide) ?_
  refine xputI (ci := 10) (f := 0) hk dX10_isPeacePossible_2 ⟨rfl, by decide, _, rfl, rfl⟩ kX10_60 ⟨rfl, by decide +kernel⟩ ?_
  refine xaload_n hk dX10_isPeacePossible_5 rfl ?_
  refine xaload_n hk dX10_isPeacePossible_6 rfl ?_
  refine xgetI (ci := 10) (f := 15) hk dX10_isPeacePossible_7 ⟨rfl, by decide, _, rfl, rfl⟩ kX10_115 ?_
  obtain ⟨g10_0, h⟩ := og_some h
  refine xcallV hk (c_X10_peaces (cdec_of g10_0)) bX10_peaces kX10_182 dX10_isPeacePossible_10 rfl ⟨_, _, _, _, rfl, rfl⟩ rfl (by first | decide | omega) ⟨by decide, by decide⟩ (Nat.le_of_ble_eq_true rfl) (det ?_)
  refine xif_le hk 20 dX10_isPeacePossible_13 (by decide) (fun h13 => ?_) (fun h13 => ?_)
  · rw [if_pos h13] at h
    refine xiconst (v := 0) hk dX10_isPeacePossible_20 (by decide) ?_
    refine xzret hk he dX10_isPeacePossible_21 ⟨by decide, by decide⟩ (by first | with_reducible exact nar_b _ | rfl) ?_
    obtain rfl := Option.some.inj h
    exact ⟨rfl, rfl⟩
  · rw [if_neg h13] at h
    refine xiconst (v := 1) hk dX10_isPeacePossible_16 (by decide) ?_
    refine xgoto hk 21 dX10_isPeacePossible_17 (by decide) ?_
    refine xzret hk he dX10_isPeacePossible_21 ⟨by decide, by decide⟩ (by first | with_reducible exact nar_b _ | rfl) ?_
    obtain rfl := Option.some.inj h
    exact ⟨rfl, rfl⟩

noncomputable def f_X10_isSettled  (p : Int32) (x : XS) : Option (Bool × XS) := (if (b2i (misCl (setI x 0 0 0) p)) = 0 then some (false, (setI (setI x 0 0 0) 0 0 1)) else og (cdec (MOK (setI x 0 0 0))) ((if ((mlook ((setI x 0 0 0).1 0 15) (setI x 0 0 0)).1 0 18) = 0 then some (false, (setI (mlook ((setI x 0 0 0).1 0 15) (setI x 0 0 0)) 0 0 2)) else og (cdec (MOK (mlook ((setI x 0 0 0).1 0 15) (setI x 0 0 0)))) (og (inB p 20) ((if ((mlook ((mlook ((setI x 0 0 0).1 0 15) (setI x 0 0 0)).1 0 15) (mlook ((setI x 0 0 0).1 0 15) (setI x 0 0 0))).1 8 (p : Int32).toNatClampNeg) = ((mlook ((mlook ((setI x 0 0 0).1 0 15) (setI x 0 0 0)).1 0 15) (mlook ((setI x 0 0 0).1 0 15) (setI x 0 0 0))).1 0 18) then some (true, (mlook ((mlook ((setI x 0 0 0).1 0 15) (setI x 0 0 0)).1 0 15) (mlook ((setI x 0 0 0).1 0 15) (setI x 0 0 0)))) else some (false, (mlook ((mlook ((setI x 0 0 0).1 0 15) (setI x 0 0 0)).1 0 15) (mlook ((setI x 0 0 0).1 0 15) (setI x 0 0 0))))))))))

set_option maxHeartbeats 4000000 in
set_option maxRecDepth 100000 in
theorem c_X10_isSettled {g : Gx} {a : Nat → Nat} {x : XS}   {p : Int32} {u : Bool × XS}  (h : f_X10_isSettled  p x = some u) : Mx g yX10_isSettled cX10_isSettled 2 (some .boolean) 8 0 0 LM a x [.ref (a 0), .int p] (pr (some (.int (b2i u.1))) u.2) := by
  refine Mx_of (by decide +kernel) (Nat.le_of_ble_eq_true rfl) ?_
  intro k hk he hg
  subst hg
  rw [f_X10_isSettled] at h
  refine xaload_n hk dX10_isSettled_0 rfl ?_
  refine xiconst (v := 0) hk dX10_isSettled_1 (by decide) ?_
  refine xputI (ci := 10) (f := 0) hk dX10_isSettled_2 ⟨rfl, by decide, _, rfl, rfl⟩ kX10_60 ⟨rfl, by decide +kernel⟩ ?_
  refine xaload_n hk dX10_isSettled_5 rfl ?_
  refine xiload_n hk dX10_isSettled_6 rfl ?_
  refine xcallV hk c_X10_isClaim bX10_isClaim kX10_388 dX10_isSettled_7 rfl ⟨_, _, _, _, rfl, rfl⟩ rfl (by first | decide | omega) ⟨by decide, by decide⟩ (Nat.le_of_ble_eq_true rfl) (det ?_)
  refine xif_ne hk 19 dX10_isSettled_10 (by decide) (fun h10 => ?_) (fun h10 => ?_)
  · rw [if_neg h10] at h
    refine xaload_n hk dX10_isSettled_19 rfl ?_
    refine xaload_n hk dX10_isSettled_20 rfl ?_
    refine xgetI (ci := 10) (f := 15) hk dX10_isSettled_21 ⟨rfl, by decide, _, rfl, rfl⟩ kX10_115 ?_
    obtain ⟨g24_0, h⟩ := og_some h
    refine xcallV hk (c_X10_peaces (cdec_of g24_0)) bX10_peaces kX10_182 dX10_isSettled_24 rfl ⟨_, _, _, _, rfl, rfl⟩ rfl (by first | decide | omega) ⟨by decide, by decide⟩ (Nat.le_of_ble_eq_true rfl) (det ?_)
    refine xif_ne hk 38 dX10_isSettled_27 (by decide) (fun h27 => ?_) (fun h27 => ?_)
    · rw [if_neg h27] at h
      refine xaload_n hk dX10_isSettled_38 rfl ?_
      refine xiload_n hk dX10_isSettled_39 rfl ?_
      obtain ⟨g40_0, h⟩ := og_some h
      obtain ⟨g40_1, h⟩ := og_some h
      refine xcallV hk (d_X10_with (cdec_of g40_0) (inB_v g40_1)) bX10_with kX10_187 dX10_isSettled_40 rfl ⟨_, _, _, _, rfl, rfl⟩ rfl (by first | decide | omega) ⟨by decide, by decide⟩ (Nat.le_of_ble_eq_true rfl) (det ?_)
      refine xaload_n hk dX10_isSettled_43 rfl ?_
      refine xgetI (ci := 10) (f := 18) hk dX10_isSettled_44 ⟨rfl, by decide, _, rfl, rfl⟩ kX10_94 ?_
      refine xicmp_ne hk 54 dX10_isSettled_47 (by decide) (fun h47 => ?_) (fun h47 => ?_)
      · rw [if_neg h47] at h
        refine xiconst (v := 0) hk dX10_isSettled_54 (by decide) ?_
        refine xzret hk he dX10_isSettled_55 ⟨by decide, by decide⟩ (by first | with_reducible exact nar_b _ | rfl) ?_
        obtain rfl := Option.some.inj h
        exact ⟨rfl, rfl⟩
      · rw [if_pos h47] at h
        refine xiconst (v := 1) hk dX10_isSettled_50 (by decide) ?_
        refine xgoto hk 55 dX10_isSettled_51 (by decide) ?_
        refine xzret hk he dX10_isSettled_55 ⟨by decide, by decide⟩ (by first | with_reducible exact nar_b _ | rfl) ?_
        obtain rfl := Option.some.inj h
        exact ⟨rfl, rfl⟩
    · rw [if_pos h27] at h
      refine xaload_n hk dX10_isSettled_30 rfl ?_
      refine xiconst (v := 2) hk dX10_isSettled_31 (by decide) ?_
      refine xcallV hk c_X10_isNot bX10_isNot kX10_385 dX10_isSettled_32 rfl ⟨_, _, _, _, rfl, rfl⟩ rfl (by first | decide | omega) ⟨by decide, by decide⟩ (Nat.le_of_ble_eq_true rfl) (det ?_)
      refine xgoto hk 55 dX10_isSettled_35 (by decide) ?_
      refine xzret hk he dX10_isSettled_55 ⟨by decide, by decide⟩ (by first | with_reducible exact nar_b _ | rfl) ?_
      obtain rfl := Option.some.inj h
      exact ⟨rfl, rfl⟩
  · rw [if_pos h10] at h
    refine xaload_n hk dX10_isSettled_13 rfl ?_
    refine xiconst (v := 1) hk dX10_isSettled_14 (by decide) ?_
    refine xcallV hk c_X10_isNot bX10_isNot kX10_385 dX10_isSettled_15 rfl ⟨_, _, _, _, rfl, rfl⟩ rfl (by first | decide | omega) ⟨by decide, by decide⟩ (Nat.le_of_ble_eq_true rfl) (det ?_)
    refine xzret hk he dX10_isSettled_18 ⟨by decide, by decide⟩ (by first | with_reducible exact nar_b _ | rfl) ?_
    obtain rfl := Option.some.inj h
    exact ⟨rfl, rfl⟩

noncomputable def f_X10_ridesInPeace  (p : Int32) (x : XS) : Option (Bool × XS) := (if (b2i (isInB p 0 (((setI x 0 0 0).1 11 0) - 1))) = 0 then some (false, (setI (setI x 0 0 0) 0 0 1)) else og (cdec (MOK (setI x 0 0 0))) ((if ((mlook ((setI x 0 0 0).1 0 15) (setI x 0 0 0)).1 0 18) = 0 then some (false, (setI (mlook ((setI x 0 0 0).1 0 15) (setI x 0 0 0)) 0 0 2)) else some ((mhasB ((mlook ((setI x 0 0 0).1 0 15) (setI x 0 0 0)).1 0 20) p), (mlook ((setI x 0 0 0).1 0 15) (setI x 0 0 0))))))

set_option maxHeartbeats 4000000 in
set_option maxRecDepth 100000 in
theorem c_X10_ridesInPeace {g : Gx} {a : Nat → Nat} {x : XS}   {p : Int32} {u : Bool × XS}  (h : f_X10_ridesInPeace  p x = some u) : Mx g yX10_ridesInPeace cX10_ridesInPeace 2 (some .boolean) 8 0 0 LM a x [.ref (a 0), .int p] (pr (some (.int (b2i u.1))) u.2) := by
  refine Mx_of (by decide +kernel) (Nat.le_of_ble_eq_true rfl) ?_
  intro k hk he hg
  subst hg
  rw [f_X10_ridesInPeace] at h
  refine xaload_n hk dX10_ridesInPeace_0 rfl ?_
  refine xiconst (v := 0) hk dX10_ridesInPeace_1 (by decide) ?_
  refine xputI (ci := 10) (f := 0) hk dX10_ridesInPeace_2 ⟨rfl, by decide, _, rfl, rfl⟩ kX10_60 ⟨rfl, by decide +kernel⟩ ?_
  refine xiload_n hk dX10_ridesInPeace_5 rfl ?_
  refine xiconst (v := 0) hk dX10_ridesInPeace_6 (by decide) ?_
  refine xaload_n hk dX10_ridesInPeace_7 rfl ?_
  refine xgetR (ci := 10) (f := 11) hk dX10_ridesInPeace_8 ⟨rfl, by decide, _, rfl, rfl⟩ kX10_35 ?_
  refine xgetNI (ci := 9) (f := 0) hk dX10_ridesInPeace_11 ⟨rfl, by decide, _, rfl, rfl⟩ kX10_88 ?_
  refine xiconst (v := 1) hk dX10_ridesInPeace_14 (by decide) ?_
  refine xisub hk dX10_ridesInPeace_15 ?_
  refine xcallS hk c_X10_isIn bX10_isIn kX10_66 dX10_ridesInPeace_16 rfl rfl (by first | decide | omega) ⟨by decide, by decide⟩ (Nat.le_of_ble_eq_true rfl) (det ?_)
  refine xif_ne hk 28 dX10_ridesInPeace_19 (by decide) (fun h19 => ?_) (fun h19 => ?_)
  · rw [if_neg h19] at h
    refine xaload_n hk dX10_ridesInPeace_28 rfl ?_
    refine xaload_n hk dX10_ridesInPeace_29 rfl ?_
    refine xgetI (ci := 10) (f := 15) hk dX10_ridesInPeace_30 ⟨rfl, by decide, _, rfl, rfl⟩ kX10_115 ?_
    obtain ⟨g33_0, h⟩ := og_some h
    refine xcallV hk (c_X10_peaces (cdec_of g33_0)) bX10_peaces kX10_182 dX10_ridesInPeace_33 rfl ⟨_, _, _, _, rfl, rfl⟩ rfl (by first | decide | omega) ⟨by decide, by decide⟩ (Nat.le_of_ble_eq_true rfl) (det ?_)
    refine xif_ne hk 47 dX10_ridesInPeace_36 (by decide) (fun h36 => ?_) (fun h36 => ?_)
    · rw [if_neg h36] at h
      refine xaload_n hk dX10_ridesInPeace_47 rfl ?_
      refine xgetI (ci := 10) (f := 20) hk dX10_ridesInPeace_48 ⟨rfl, by decide, _, rfl, rfl⟩ kX10_100 ?_
      refine xiload_n hk dX10_ridesInPeace_51 rfl ?_
      refine xcallS hk c_X10_has bX10_has kX10_74 dX10_ridesInPeace_52 rfl rfl (by first | decide | omega) ⟨by decide, by decide⟩ (Nat.le_of_ble_eq_true rfl) (det ?_)
      refine xzret hk he dX10_ridesInPeace_55 ⟨by decide, by decide⟩ (by first | with_reducible exact nar_b _ | rfl) ?_
      obtain rfl := Option.some.inj h
      exact ⟨rfl, rfl⟩
    · rw [if_pos h36] at h
      refine xaload_n hk dX10_ridesInPeace_39 rfl ?_
      refine xiconst (v := 2) hk dX10_ridesInPeace_40 (by decide) ?_
      refine xcallV hk c_X10_isNot bX10_isNot kX10_385 dX10_ridesInPeace_41 rfl ⟨_, _, _, _, rfl, rfl⟩ rfl (by first | decide | omega) ⟨by decide, by decide⟩ (Nat.le_of_ble_eq_true rfl) (det ?_)
      refine xgoto hk 55 dX10_ridesInPeace_44 (by decide) ?_
      refine xzret hk he dX10_ridesInPeace_55 ⟨by decide, by decide⟩ (by first | with_reducible exact nar_b _ | rfl) ?_
      obtain rfl := Option.some.inj h
      exact ⟨rfl, rfl⟩
  · rw [if_pos h19] at h
    refine xaload_n hk dX10_ridesInPeace_22 rfl ?_
    refine xiconst (v := 1) hk dX10_ridesInPeace_23 (by decide) ?_
    refine xcallV hk c_X10_isNot bX10_isNot kX10_385 dX10_ridesInPeace_24 rfl ⟨_, _, _, _, rfl, rfl⟩ rfl (by first | decide | omega) ⟨by decide, by decide⟩ (Nat.le_of_ble_eq_true rfl) (det ?_)
    refine xzret hk he dX10_ridesInPeace_27 ⟨by decide, by decide⟩ (by first | with_reducible exact nar_b _ | rfl) ?_
    obtain rfl := Option.some.inj h
    exact ⟨rfl, rfl⟩

noncomputable def f_X10_ridersInPeace   (x : XS) : Option (Int32 × XS) := og (cdec (MOK (setI x 0 0 0))) ((if ((mlook ((setI x 0 0 0).1 0 15) (setI x 0 0 0)).1 0 18) = 0 then some (0, (setI (mlook ((setI x 0 0 0).1 0 15) (setI x 0 0 0)) 0 0 1)) else some ((bcI ((mlook ((setI x 0 0 0).1 0 15) (setI x 0 0 0)).1 0 20)), (mlook ((setI x 0 0 0).1 0 15) (setI x 0 0 0)))))

set_option maxHeartbeats 4000000 in
set_option maxRecDepth 100000 in
theorem c_X10_ridersInPeace {g : Gx} {a : Nat → Nat} {x : XS}    {u : Int32 × XS}  (h : f_X10_ridersInPeace   x = some u) : Mx g yX10_ridersInPeace cX10_ridersInPeace 1 (some .int) 8 0 0 LM a x [.ref (a 0)] (pr (some (.int u.1)) u.2) := by
  refine Mx_of (by decide +kernel) (Nat.le_of_ble_eq_true rfl) ?_
  intro k hk he hg
  subst hg
  rw [f_X10_ridersInPeace] at h
  refine xaload_n hk dX10_ridersInPeace_0 rfl ?_
  refine xiconst (v := 0) hk dX10_ridersInPeace_1 (by decide) ?_
  refine xputI (ci := 10) (f := 0) hk dX10_ridersInPeace_2 ⟨rfl, by decide, _, rfl, rfl⟩ kX10_60 ⟨rfl, by decide +kernel⟩ ?_
  refine xaload_n hk dX10_ridersInPeace_5 rfl ?_
  refine xaload_n hk dX10_ridersInPeace_6 rfl ?_
  refine xgetI (ci := 10) (f := 15) hk dX10_ridersInPeace_7 ⟨rfl, by decide, _, rfl, rfl⟩ kX10_115 ?_
  obtain ⟨g10_0, h⟩ := og_some h
  refine xcallV hk (c_X10_peaces (cdec_of g10_0)) bX10_peaces kX10_182 dX10_ridersInPeace_10 rfl ⟨_, _, _, _, rfl, rfl⟩ rfl (by first | decide | omega) ⟨by decide, by decide⟩ (Nat.le_of_ble_eq_true rfl) (det ?_)
  refine xif_ne hk 24 dX10_ridersInPeace_13 (by decide) (fun h13 => ?_) (fun h13 => ?_)
  · rw [if_neg h13] at h
    refine xaload_n hk dX10_ridersInPeace_24 rfl ?_
    refine xgetI (ci := 10) (f := 20) hk dX10_ridersInPeace_25 ⟨rfl, by decide, _, rfl, rfl⟩ kX10_100 ?_
    refine xcallS hk c_J6_bitCount_0f7a4 bJ6_bitCount_0f7a4 kX10_106 dX10_ridersInPeace_28 rfl rfl (by first | decide | omega) ⟨by decide, by decide⟩ (Nat.le_of_ble_eq_true rfl) (det ?_)
    refine xiret hk he dX10_ridersInPeace_31 ⟨by decide, by decide⟩ ?_
    obtain rfl := Option.some.inj h
    exact ⟨rfl, rfl⟩
  · rw [if_pos h13] at h
    refine xaload_n hk dX10_ridersInPeace_16 rfl ?_
    refine xiconst (v := 1) hk dX10_ridersInPeace_17 (by decide) ?_
    refine xcallV hk c_X10_no bX10_no kX10_367 dX10_ridersInPeace_18 rfl ⟨_, _, _, _, rfl, rfl⟩ rfl (by first | decide | omega) ⟨by decide, by decide⟩ (Nat.le_of_ble_eq_true rfl) (det ?_)
    refine xgoto hk 31 dX10_ridersInPeace_21 (by decide) ?_
    refine xiret hk he dX10_ridersInPeace_31 ⟨by decide, by decide⟩ ?_
    obtain rfl := Option.some.inj h
    exact ⟨rfl, rfl⟩

noncomputable def f_X10_blamedFamily   (x : XS) : Option (Int32 × XS) := og (cdec (MOK (setI x 0 0 0))) ((if ((mlook ((setI x 0 0 0).1 0 15) (setI x 0 0 0)).1 0 18) ≤ 0 then og (cdec (MOK (mlook ((setI x 0 0 0).1 0 15) (setI x 0 0 0)))) (ob (blL (mfol (mlook ((setI x 0 0 0).1 0 15) (setI x 0 0 0))) 10 0) (fun u25 => some ((nI u25), (mfol (mlook ((setI x 0 0 0).1 0 15) (setI x 0 0 0)))))) else some (0, (setI (mlook ((setI x 0 0 0).1 0 15) (setI x 0 0 0)) 0 0 1))))

set_option maxHeartbeats 4000000 in
set_option maxRecDepth 100000 in
theorem c_X10_blamedFamily {g : Gx} {a : Nat → Nat} {x : XS}    {u : Int32 × XS}  (h : f_X10_blamedFamily   x = some u) : Mx g yX10_blamedFamily cX10_blamedFamily 1 (some .int) 8 0 0 LM a x [.ref (a 0)] (pr (some (.int u.1)) u.2) := by
  refine Mx_of (by decide +kernel) (Nat.le_of_ble_eq_true rfl) ?_
  intro k hk he hg
  subst hg
  rw [f_X10_blamedFamily] at h
  refine xaload_n hk dX10_blamedFamily_0 rfl ?_
  refine xiconst (v := 0) hk dX10_blamedFamily_1 (by decide) ?_
  refine xputI (ci := 10) (f := 0) hk dX10_blamedFamily_2 ⟨rfl, by decide, _, rfl, rfl⟩ kX10_60 ⟨rfl, by decide +kernel⟩ ?_
  refine xaload_n hk dX10_blamedFamily_5 rfl ?_
  refine xaload_n hk dX10_blamedFamily_6 rfl ?_
  refine xgetI (ci := 10) (f := 15) hk dX10_blamedFamily_7 ⟨rfl, by decide, _, rfl, rfl⟩ kX10_115 ?_
  obtain ⟨g10_0, h⟩ := og_some h
  refine xcallV hk (c_X10_peaces (cdec_of g10_0)) bX10_peaces kX10_182 dX10_blamedFamily_10 rfl ⟨_, _, _, _, rfl, rfl⟩ rfl (by first | decide | omega) ⟨by decide, by decide⟩ (Nat.le_of_ble_eq_true rfl) (det ?_)
  refine xif_le hk 24 dX10_blamedFamily_13 (by decide) (fun h13 => ?_) (fun h13 => ?_)
  · rw [if_pos h13] at h
    refine xaload_n hk dX10_blamedFamily_24 rfl ?_
    obtain ⟨g25_0, h⟩ := og_some h
    obtain ⟨u25, e25, h⟩ := ob_some h
    refine xcallV hk (c_X10_blamed (cdec_of g25_0) e25) bX10_blamed kX10_403 dX10_blamedFamily_25 rfl ⟨_, _, _, _, rfl, rfl⟩ rfl (by first | decide | omega) ⟨by decide, by decide⟩ (Nat.le_of_ble_eq_true rfl) (det ?_)
    refine xiret hk he dX10_blamedFamily_28 ⟨by decide, by decide⟩ ?_
    obtain rfl := Option.some.inj h
    exact ⟨rfl, rfl⟩
  · rw [if_neg h13] at h
    refine xaload_n hk dX10_blamedFamily_16 rfl ?_
    refine xiconst (v := 1) hk dX10_blamedFamily_17 (by decide) ?_
    refine xcallV hk c_X10_no bX10_no kX10_367 dX10_blamedFamily_18 rfl ⟨_, _, _, _, rfl, rfl⟩ rfl (by first | decide | omega) ⟨by decide, by decide⟩ (Nat.le_of_ble_eq_true rfl) (det ?_)
    refine xgoto hk 28 dX10_blamedFamily_21 (by decide) ?_
    refine xiret hk he dX10_blamedFamily_28 ⟨by decide, by decide⟩ ?_
    obtain rfl := Option.some.inj h
    exact ⟨rfl, rfl⟩

def f_X10_breakStatement  (p : Int32) (x : XS) : Option (Int32 × XS) := (if (b2i (misSt (setI x 0 0 0) p)) = 0 then some (0, (setI (setI x 0 0 0) 0 0 1)) else (if (b2i (mhasB ((setI x 0 0 0).1 0 15) p)) = 0 then some (0, (setI (setI x 0 0 0) 0 0 2)) else some ((bcI ((turnF (setI x 0 0 0) p).1 0 15)), (turnF (setI x 0 0 0) p))))

set_option maxHeartbeats 4000000 in
set_option maxRecDepth 100000 in
theorem c_X10_breakStatement {g : Gx} {a : Nat → Nat} {x : XS}   {p : Int32} {u : Int32 × XS}  (h : f_X10_breakStatement  p x = some u) : Mx g yX10_breakStatement cX10_breakStatement 2 (some .int) 8 0 0 LM a x [.ref (a 0), .int p] (pr (some (.int u.1)) u.2) := by
  refine Mx_of (by decide +kernel) (Nat.le_of_ble_eq_true rfl) ?_
  intro k hk he hg
  subst hg
  rw [f_X10_breakStatement] at h
  refine xaload_n hk dX10_breakStatement_0 rfl ?_
  refine xiconst (v := 0) hk dX10_breakStatement_1 (by decide) ?_
  refine xputI (ci := 10) (f := 0) hk dX10_breakStatement_2 ⟨rfl, by decide, _, rfl, rfl⟩ kX10_60 ⟨rfl, by decide +kernel⟩ ?_
  refine xaload_n hk dX10_breakStatement_5 rfl ?_
  refine xiload_n hk dX10_breakStatement_6 rfl ?_
  refine xcallV hk c_X10_isStatement bX10_isStatement kX10_379 dX10_breakStatement_7 rfl ⟨_, _, _, _, rfl, rfl⟩ rfl (by first | decide | omega) ⟨by decide, by decide⟩ (Nat.le_of_ble_eq_true rfl) (det ?_)
  refine xif_ne hk 19 dX10_breakStatement_10 (by decide) (fun h10 => ?_) (fun h10 => ?_)
  · rw [if_neg h10] at h
    refine xaload_n hk dX10_breakStatement_19 rfl ?_
    refine xgetI (ci := 10) (f := 15) hk dX10_breakStatement_20 ⟨rfl, by decide, _, rfl, rfl⟩ kX10_115 ?_
    refine xiload_n hk dX10_breakStatement_23 rfl ?_
    refine xcallS hk c_X10_has bX10_has kX10_74 dX10_breakStatement_24 rfl rfl (by first | decide | omega) ⟨by decide, by decide⟩ (Nat.le_of_ble_eq_true rfl) (det ?_)
    refine xif_eq hk 38 dX10_breakStatement_27 (by decide) (fun h27 => ?_) (fun h27 => ?_)
    · rw [if_pos h27] at h
      refine xaload_n hk dX10_breakStatement_38 rfl ?_
      refine xiconst (v := 2) hk dX10_breakStatement_39 (by decide) ?_
      refine xcallV hk c_X10_no bX10_no kX10_367 dX10_breakStatement_40 rfl ⟨_, _, _, _, rfl, rfl⟩ rfl (by first | decide | omega) ⟨by decide, by decide⟩ (Nat.le_of_ble_eq_true rfl) (det ?_)
      refine xiret hk he dX10_breakStatement_43 ⟨by decide, by decide⟩ ?_
      obtain rfl := Option.some.inj h
      exact ⟨rfl, rfl⟩
    · rw [if_neg h27] at h
      refine xaload_n hk dX10_breakStatement_30 rfl ?_
      refine xiload_n hk dX10_breakStatement_31 rfl ?_
      refine xcallV hk c_X10_turned bX10_turned kX10_406 dX10_breakStatement_32 rfl ⟨_, _, _, _, rfl, rfl⟩ rfl (by first | decide | omega) ⟨by decide, by decide⟩ (Nat.le_of_ble_eq_true rfl) (det ?_)
      refine xgoto hk 43 dX10_breakStatement_35 (by decide) ?_
      refine xiret hk he dX10_breakStatement_43 ⟨by decide, by decide⟩ ?_
      obtain rfl := Option.some.inj h
      exact ⟨rfl, rfl⟩
  · rw [if_pos h10] at h
    refine xaload_n hk dX10_breakStatement_13 rfl ?_
    refine xiconst (v := 1) hk dX10_breakStatement_14 (by decide) ?_
    refine xcallV hk c_X10_no bX10_no kX10_367 dX10_breakStatement_15 rfl ⟨_, _, _, _, rfl, rfl⟩ rfl (by first | decide | omega) ⟨by decide, by decide⟩ (Nat.le_of_ble_eq_true rfl) (det ?_)
    refine xiret hk he dX10_breakStatement_18 ⟨by decide, by decide⟩ ?_
    obtain rfl := Option.some.inj h
    exact ⟨rfl, rfl⟩

def f_X10_renewStatement  (p : Int32) (x : XS) : Option (Int32 × XS) := (if (b2i (misSt (setI x 0 0 0) p)) = 0 then some (0, (setI (setI x 0 0 0) 0 0 1)) else (if (b2i (mhasB ((setI x 0 0 0).1 0 15) p)) = 0 then some ((bcI ((turnF (setI x 0 0 0) p).1 0 15)), (turnF (setI x 0 0 0) p)) else some (0, (setI (setI x 0 0 0) 0 0 2))))

set_option maxHeartbeats 4000000 in
set_option maxRecDepth 100000 in
theorem c_X10_renewStatement {g : Gx} {a : Nat → Nat} {x : XS}   {p : Int32} {u : Int32 × XS}  (h : f_X10_renewStatement  p x = some u) : Mx g yX10_renewStatement cX10_renewStatement 2 (some .int) 8 0 0 LM a x [.ref (a 0), .int p] (pr (some (.int u.1)) u.2) := by
  refine Mx_of (by decide +kernel) (Nat.le_of_ble_eq_true rfl) ?_
  intro k hk he hg
  subst hg
  rw [f_X10_renewStatement] at h
  refine xaload_n hk dX10_renewStatement_0 rfl ?_
  refine xiconst (v := 0) hk dX10_renewStatement_1 (by decide) ?_
  refine xputI (ci := 10) (f := 0) hk dX10_renewStatement_2 ⟨rfl, by decide, _, rfl, rfl⟩ kX10_60 ⟨rfl, by decide +kernel⟩ ?_
  refine xaload_n hk dX10_renewStatement_5 rfl ?_
  refine xiload_n hk dX10_renewStatement_6 rfl ?_
  refine xcallV hk c_X10_isStatement bX10_isStatement kX10_379 dX10_renewStatement_7 rfl ⟨_, _, _, _, rfl, rfl⟩ rfl (by first | decide | omega) ⟨by decide, by decide⟩ (Nat.le_of_ble_eq_true rfl) (det ?_)
  refine xif_ne hk 19 dX10_renewStatement_10 (by decide) (fun h10 => ?_) (fun h10 => ?_)
  · rw [if_neg h10] at h
    refine xaload_n hk dX10_renewStatement_19 rfl ?_
    refine xgetI (ci := 10) (f := 15) hk dX10_renewStatement_20 ⟨rfl, by decide, _, rfl, rfl⟩ kX10_115 ?_
    refine xiload_n hk dX10_renewStatement_23 rfl ?_
    refine xcallS hk c_X10_has bX10_has kX10_74 dX10_renewStatement_24 rfl rfl (by first | decide | omega) ⟨by decide, by decide⟩ (Nat.le_of_ble_eq_true rfl) (det ?_)
    refine xif_eq hk 38 dX10_renewStatement_27 (by decide) (fun h27 => ?_) (fun h27 => ?_)
    · rw [if_pos h27] at h
      refine xaload_n hk dX10_renewStatement_38 rfl ?_
      refine xiload_n hk dX10_renewStatement_39 rfl ?_
      refine xcallV hk c_X10_turned bX10_turned kX10_406 dX10_renewStatement_40 rfl ⟨_, _, _, _, rfl, rfl⟩ rfl (by first | decide | omega) ⟨by decide, by decide⟩ (Nat.le_of_ble_eq_true rfl) (det ?_)
      refine xiret hk he dX10_renewStatement_43 ⟨by decide, by decide⟩ ?_
      obtain rfl := Option.some.inj h
      exact ⟨rfl, rfl⟩
    · rw [if_neg h27] at h
      refine xaload_n hk dX10_renewStatement_30 rfl ?_
      refine xiconst (v := 2) hk dX10_renewStatement_31 (by decide) ?_
      refine xcallV hk c_X10_no bX10_no kX10_367 dX10_renewStatement_32 rfl ⟨_, _, _, _, rfl, rfl⟩ rfl (by first | decide | omega) ⟨by decide, by decide⟩ (Nat.le_of_ble_eq_true rfl) (det ?_)
      refine xgoto hk 43 dX10_renewStatement_35 (by decide) ?_
      refine xiret hk he dX10_renewStatement_43 ⟨by decide, by decide⟩ ?_
      obtain rfl := Option.some.inj h
      exact ⟨rfl, rfl⟩
  · rw [if_pos h10] at h
    refine xaload_n hk dX10_renewStatement_13 rfl ?_
    refine xiconst (v := 1) hk dX10_renewStatement_14 (by decide) ?_
    refine xcallV hk c_X10_no bX10_no kX10_367 dX10_renewStatement_15 rfl ⟨_, _, _, _, rfl, rfl⟩ rfl (by first | decide | omega) ⟨by decide, by decide⟩ (Nat.le_of_ble_eq_true rfl) (det ?_)
    refine xiret hk he dX10_renewStatement_18 ⟨by decide, by decide⟩ ?_
    obtain rfl := Option.some.inj h
    exact ⟨rfl, rfl⟩

noncomputable def f_X10_passDays  (p : Int32) (x : XS) : Option (Int32 × XS) := (if (b2i (isInB p 1 30)) = 0 then some (0, (setI (setI x 0 0 0) 0 0 1)) else og (cdec (MOK (setI x 0 0 0))) (ob (mpassO p (setI x 0 0 0)) (fun u28 => some (((u28.1 0 14) - ((setI x 0 0 0).1 0 14)), u28))))

set_option maxHeartbeats 4000000 in
set_option maxRecDepth 100000 in
theorem c_X10_passDays {g : Gx} {a : Nat → Nat} {x : XS}   {p : Int32} {u : Int32 × XS}  (h : f_X10_passDays  p x = some u) : Mx g yX10_passDays cX10_passDays 3 (some .int) 11 0 0 LM a x [.ref (a 0), .int p] (pr (some (.int u.1)) u.2) := by
  refine Mx_of (by decide +kernel) (Nat.le_of_ble_eq_true rfl) ?_
  intro k hk he hg
  subst hg
  rw [f_X10_passDays] at h
  refine xaload_n hk dX10_passDays_0 rfl ?_
  refine xiconst (v := 0) hk dX10_passDays_1 (by decide) ?_
  refine xputI (ci := 10) (f := 0) hk dX10_passDays_2 ⟨rfl, by decide, _, rfl, rfl⟩ kX10_60 ⟨rfl, by decide +kernel⟩ ?_
  refine xiload_n hk dX10_passDays_5 rfl ?_
  refine xiconst (v := 1) hk dX10_passDays_6 (by decide) ?_
  refine xbipush (v := 30) hk dX10_passDays_7 (by decide) ?_
  refine xcallS hk c_X10_isIn bX10_isIn kX10_66 dX10_passDays_9 rfl rfl (by first | decide | omega) ⟨by decide, by decide⟩ (Nat.le_of_ble_eq_true rfl) (det ?_)
  refine xif_ne hk 21 dX10_passDays_12 (by decide) (fun h12 => ?_) (fun h12 => ?_)
  · rw [if_neg h12] at h
    refine xaload_n hk dX10_passDays_21 rfl ?_
    refine xgetI (ci := 10) (f := 14) hk dX10_passDays_22 ⟨rfl, by decide, _, rfl, rfl⟩ kX10_160 ?_
    refine xistore_n hk dX10_passDays_25 (by decide) ?_
    refine xaload_n hk dX10_passDays_26 rfl ?_
    refine xiload_n hk dX10_passDays_27 rfl ?_
    obtain ⟨g28_0, h⟩ := og_some h
    obtain ⟨u28, e28, h⟩ := ob_some h
    refine xcallV hk (c_X10_pass (cdec_of g28_0) e28) bX10_pass kX10_409 dX10_passDays_28 rfl ⟨_, _, _, _, rfl, rfl⟩ rfl (by first | decide | omega) ⟨by decide, by decide⟩ (Nat.le_of_ble_eq_true rfl) (det ?_)
    refine xaload_n hk dX10_passDays_31 rfl ?_
    refine xgetI (ci := 10) (f := 14) hk dX10_passDays_32 ⟨rfl, by decide, _, rfl, rfl⟩ kX10_160 ?_
    refine xiload_n hk dX10_passDays_35 rfl ?_
    refine xisub hk dX10_passDays_36 ?_
    refine xiret hk he dX10_passDays_37 ⟨by decide, by decide⟩ ?_
    obtain rfl := Option.some.inj h
    exact ⟨rfl, rfl⟩
  · rw [if_pos h12] at h
    refine xaload_n hk dX10_passDays_15 rfl ?_
    refine xiconst (v := 1) hk dX10_passDays_16 (by decide) ?_
    refine xcallV hk c_X10_no bX10_no kX10_367 dX10_passDays_17 rfl ⟨_, _, _, _, rfl, rfl⟩ rfl (by first | decide | omega) ⟨by decide, by decide⟩ (Nat.le_of_ble_eq_true rfl) (det ?_)
    refine xiret hk he dX10_passDays_20 ⟨by decide, by decide⟩ ?_
    obtain rfl := Option.some.inj h
    exact ⟨rfl, rfl⟩

noncomputable def f_X10_fewestStatementsBetween  (p : Int32) (q : Int32) (x : XS) : Option (Int32 × XS) := (if (b2i (misCl (setI x 0 0 0) p)) = 0 then some (0, (setI (setI x 0 0 0) 0 0 1)) else (if (b2i (misCl (setI x 0 0 0) q)) = 0 then some (0, (setI (setI x 0 0 0) 0 0 1)) else og (cdec (MOK (setI x 0 0 0))) (og (inB p 20) (og (inB q 20) ((if (b2i (mhasB ((mfol (setI x 0 0 0)).1 9 (q : Int32).toNatClampNeg) p)) = 0 then some (0, (setI (mfol (setI x 0 0 0)) 0 0 2)) else og (cdec (MOK (mfol (setI x 0 0 0)))) (og (inB p 20) (og (inB q 20) (ob (btL (p : Int32).toNatClampNeg 21 0 (bt0 (q : Int32).toNatClampNeg (mfol (setI x 0 0 0)))) (fun u39 => some ((u39.1 10 (p : Int32).toNatClampNeg), u39)))))))))))

set_option maxHeartbeats 4000000 in
set_option maxRecDepth 100000 in
theorem c_X10_fewestStatementsBetween {g : Gx} {a : Nat → Nat} {x : XS}   {p : Int32} {q : Int32} {u : Int32 × XS}  (h : f_X10_fewestStatementsBetween  p q x = some u) : Mx g yX10_fewestStatementsBetween cX10_fewestStatementsBetween 3 (some .int) 8 0 0 LM a x [.ref (a 0), .int p, .int q] (pr (some (.int u.1)) u.2) := by
  refine Mx_of (by decide +kernel) (Nat.le_of_ble_eq_true rfl) ?_
  intro k hk he hg
  subst hg
  rw [f_X10_fewestStatementsBetween] at h
  refine xaload_n hk dX10_fewestStatementsBetween_0 rfl ?_
  refine xiconst (v := 0) hk dX10_fewestStatementsBetween_1 (by decide) ?_
  refine xputI (ci := 10) (f := 0) hk dX10_fewestStatementsBetween_2 ⟨rfl, by decide, _, rfl, rfl⟩ kX10_60 ⟨rfl, by decide +kernel⟩ ?_
  refine xaload_n hk dX10_fewestStatementsBetween_5 rfl ?_
  refine xiload_n hk dX10_fewestStatementsBetween_6 rfl ?_
  refine xcallV hk c_X10_isClaim bX10_isClaim kX10_388 dX10_fewestStatementsBetween_7 rfl ⟨_, _, _, _, rfl, rfl⟩ rfl (by first | decide | omega) ⟨by decide, by decide⟩ (Nat.le_of_ble_eq_true rfl) (det ?_)
  refine xif_eq hk 21 dX10_fewestStatementsBetween_10 (by decide) (fun h10 => ?_) (fun h10 => ?_)
  · rw [if_pos h10] at h
    refine xaload_n hk dX10_fewestStatementsBetween_21 rfl ?_
    refine xiconst (v := 1) hk dX10_fewestStatementsBetween_22 (by decide) ?_
    refine xcallV hk c_X10_no bX10_no kX10_367 dX10_fewestStatementsBetween_23 rfl ⟨_, _, _, _, rfl, rfl⟩ rfl (by first | decide | omega) ⟨by decide, by decide⟩ (Nat.le_of_ble_eq_true rfl) (det ?_)
    refine xiret hk he dX10_fewestStatementsBetween_26 ⟨by decide, by decide⟩ ?_
    obtain rfl := Option.some.inj h
    exact ⟨rfl, rfl⟩
  · rw [if_neg h10] at h
    refine xaload_n hk dX10_fewestStatementsBetween_13 rfl ?_
    refine xiload_n hk dX10_fewestStatementsBetween_14 rfl ?_
    refine xcallV hk c_X10_isClaim bX10_isClaim kX10_388 dX10_fewestStatementsBetween_15 rfl ⟨_, _, _, _, rfl, rfl⟩ rfl (by first | decide | omega) ⟨by decide, by decide⟩ (Nat.le_of_ble_eq_true rfl) (det ?_)
    refine xif_ne hk 27 dX10_fewestStatementsBetween_18 (by decide) (fun h18 => ?_) (fun h18 => ?_)
    · rw [if_neg h18] at h
      refine xaload_n hk dX10_fewestStatementsBetween_27 rfl ?_
      refine xiload_n hk dX10_fewestStatementsBetween_28 rfl ?_
      refine xiload_n hk dX10_fewestStatementsBetween_29 rfl ?_
      obtain ⟨g30_0, h⟩ := og_some h
      obtain ⟨g30_1, h⟩ := og_some h
      obtain ⟨g30_2, h⟩ := og_some h
      refine xcallV hk (d_X10_isFrom (cdec_of g30_0) (inB_v g30_1) (inB_v g30_2)) bX10_isFrom kX10_189 dX10_fewestStatementsBetween_30 rfl ⟨_, _, _, _, rfl, rfl⟩ rfl (by first | decide | omega) ⟨by decide, by decide⟩ (Nat.le_of_ble_eq_true rfl) (det ?_)
      refine xif_eq hk 45 dX10_fewestStatementsBetween_33 (by decide) (fun h33 => ?_) (fun h33 => ?_)
      · rw [if_pos h33] at h
        refine xaload_n hk dX10_fewestStatementsBetween_45 rfl ?_
        refine xiconst (v := 2) hk dX10_fewestStatementsBetween_46 (by decide) ?_
        refine xcallV hk c_X10_no bX10_no kX10_367 dX10_fewestStatementsBetween_47 rfl ⟨_, _, _, _, rfl, rfl⟩ rfl (by first | decide | omega) ⟨by decide, by decide⟩ (Nat.le_of_ble_eq_true rfl) (det ?_)
        refine xiret hk he dX10_fewestStatementsBetween_50 ⟨by decide, by decide⟩ ?_
        obtain rfl := Option.some.inj h
        exact ⟨rfl, rfl⟩
      · rw [if_neg h33] at h
        refine xaload_n hk dX10_fewestStatementsBetween_36 rfl ?_
        refine xiload_n hk dX10_fewestStatementsBetween_37 rfl ?_
        refine xiload_n hk dX10_fewestStatementsBetween_38 rfl ?_
        obtain ⟨g39_0, h⟩ := og_some h
        obtain ⟨g39_1, h⟩ := og_some h
        obtain ⟨g39_2, h⟩ := og_some h
        obtain ⟨u39, e39, h⟩ := ob_some h
        refine xcallV hk (d_X10_between (cdec_of g39_0) (inB_v g39_1) (inB_v g39_2) e39) bX10_between kX10_394 dX10_fewestStatementsBetween_39 rfl ⟨_, _, _, _, rfl, rfl⟩ rfl (by first | decide | omega) ⟨by decide, by decide⟩ (Nat.le_of_ble_eq_true rfl) (det ?_)
        refine xgoto hk 50 dX10_fewestStatementsBetween_42 (by decide) ?_
        refine xiret hk he dX10_fewestStatementsBetween_50 ⟨by decide, by decide⟩ ?_
        obtain rfl := Option.some.inj h
        exact ⟨rfl, rfl⟩
    · rw [if_pos h18] at h
      refine xaload_n hk dX10_fewestStatementsBetween_21 rfl ?_
      refine xiconst (v := 1) hk dX10_fewestStatementsBetween_22 (by decide) ?_
      refine xcallV hk c_X10_no bX10_no kX10_367 dX10_fewestStatementsBetween_23 rfl ⟨_, _, _, _, rfl, rfl⟩ rfl (by first | decide | omega) ⟨by decide, by decide⟩ (Nat.le_of_ble_eq_true rfl) (det ?_)
      refine xiret hk he dX10_fewestStatementsBetween_26 ⟨by decide, by decide⟩ ?_
      obtain rfl := Option.some.inj h
      exact ⟨rfl, rfl⟩

noncomputable def f_X10_mostTellingOath   (x : XS) : Option (Int32 × XS) := og (cdec (MOK (setI x 0 0 0))) ((if ((mlook ((setI x 0 0 0).1 0 15) (setI x 0 0 0)).1 0 18) = 0 then some (0, (setI (mlook ((setI x 0 0 0).1 0 15) (setI x 0 0 0)) 0 0 1)) else (if ((mlook ((setI x 0 0 0).1 0 15) (setI x 0 0 0)).1 11 0) = 0 then some (0, (setI (mlook ((setI x 0 0 0).1 0 15) (setI x 0 0 0)) 0 0 1)) else og (cdec (MOK (mlook ((setI x 0 0 0).1 0 15) (setI x 0 0 0)))) (some ((itP (mtF (mlook ((setI x 0 0 0).1 0 15) (setI x 0 0 0))) (2 * (mlook ((setI x 0 0 0).1 0 15) (setI x 0 0 0)).1 11 0).toNatClampNeg (-1)), (mlook ((setI x 0 0 0).1 0 15) (setI x 0 0 0)))))))

set_option maxHeartbeats 4000000 in
set_option maxRecDepth 100000 in
theorem c_X10_mostTellingOath {g : Gx} {a : Nat → Nat} {x : XS}    {u : Int32 × XS}  (h : f_X10_mostTellingOath   x = some u) : Mx g yX10_mostTellingOath cX10_mostTellingOath 1 (some .int) 8 0 0 LM a x [.ref (a 0)] (pr (some (.int u.1)) u.2) := by
  refine Mx_of (by decide +kernel) (Nat.le_of_ble_eq_true rfl) ?_
  intro k hk he hg
  subst hg
  rw [f_X10_mostTellingOath] at h
  refine xaload_n hk dX10_mostTellingOath_0 rfl ?_
  refine xiconst (v := 0) hk dX10_mostTellingOath_1 (by decide) ?_
  refine xputI (ci := 10) (f := 0) hk dX10_mostTellingOath_2 ⟨rfl, by decide, _, rfl, rfl⟩ kX10_60 ⟨rfl, by decide +kernel⟩ ?_
  refine xaload_n hk dX10_mostTellingOath_5 rfl ?_
  refine xaload_n hk dX10_mostTellingOath_6 rfl ?_
  refine xgetI (ci := 10) (f := 15) hk dX10_mostTellingOath_7 ⟨rfl, by decide, _, rfl, rfl⟩ kX10_115 ?_
  obtain ⟨g10_0, h⟩ := og_some h
  refine xcallV hk (c_X10_peaces (cdec_of g10_0)) bX10_peaces kX10_182 dX10_mostTellingOath_10 rfl ⟨_, _, _, _, rfl, rfl⟩ rfl (by first | decide | omega) ⟨by decide, by decide⟩ (Nat.le_of_ble_eq_true rfl) (det ?_)
  refine xif_eq hk 26 dX10_mostTellingOath_13 (by decide) (fun h13 => ?_) (fun h13 => ?_)
  · rw [if_pos h13] at h
    refine xaload_n hk dX10_mostTellingOath_26 rfl ?_
    refine xiconst (v := 1) hk dX10_mostTellingOath_27 (by decide) ?_
    refine xcallV hk c_X10_no bX10_no kX10_367 dX10_mostTellingOath_28 rfl ⟨_, _, _, _, rfl, rfl⟩ rfl (by first | decide | omega) ⟨by decide, by decide⟩ (Nat.le_of_ble_eq_true rfl) (det ?_)
    refine xgoto hk 38 dX10_mostTellingOath_31 (by decide) ?_
    refine xiret hk he dX10_mostTellingOath_38 ⟨by decide, by decide⟩ ?_
    obtain rfl := Option.some.inj h
    exact ⟨rfl, rfl⟩
  · rw [if_neg h13] at h
    refine xaload_n hk dX10_mostTellingOath_16 rfl ?_
    refine xgetR (ci := 10) (f := 11) hk dX10_mostTellingOath_17 ⟨rfl, by decide, _, rfl, rfl⟩ kX10_35 ?_
    refine xgetNI (ci := 9) (f := 0) hk dX10_mostTellingOath_20 ⟨rfl, by decide, _, rfl, rfl⟩ kX10_88 ?_
    refine xif_ne hk 34 dX10_mostTellingOath_23 (by decide) (fun h23 => ?_) (fun h23 => ?_)
    · rw [if_neg h23] at h
      refine xaload_n hk dX10_mostTellingOath_34 rfl ?_
      obtain ⟨g35_0, h⟩ := og_some h
      refine xcallV hk (c_X10_mostTelling (cdec_of g35_0)) bX10_mostTelling kX10_418 dX10_mostTellingOath_35 rfl ⟨_, _, _, _, rfl, rfl⟩ rfl (by first | decide | omega) ⟨by decide, by decide⟩ (Nat.le_of_ble_eq_true rfl) (det ?_)
      refine xiret hk he dX10_mostTellingOath_38 ⟨by decide, by decide⟩ ?_
      obtain rfl := Option.some.inj h
      exact ⟨rfl, rfl⟩
    · rw [if_pos h23] at h
      refine xaload_n hk dX10_mostTellingOath_26 rfl ?_
      refine xiconst (v := 1) hk dX10_mostTellingOath_27 (by decide) ?_
      refine xcallV hk c_X10_no bX10_no kX10_367 dX10_mostTellingOath_28 rfl ⟨_, _, _, _, rfl, rfl⟩ rfl (by first | decide | omega) ⟨by decide, by decide⟩ (Nat.le_of_ble_eq_true rfl) (det ?_)
      refine xgoto hk 38 dX10_mostTellingOath_31 (by decide) ?_
      refine xiret hk he dX10_mostTellingOath_38 ⟨by decide, by decide⟩ ?_
      obtain rfl := Option.some.inj h
      exact ⟨rfl, rfl⟩

noncomputable def f_X10_meanRiders   (x : XS) : Option (UInt64 × XS) := og (cdec (MOK (setI x 0 0 0))) ((if ((mlook ((setI x 0 0 0).1 0 15) (setI x 0 0 0)).1 0 18) = 0 then some (0, (mlook ((setI x 0 0 0).1 0 15) (setI x 0 0 0))) else og (cdec (vf_n64 (FP.ddiv (FP.i2d ((mlook ((setI x 0 0 0).1 0 15) (setI x 0 0 0)).1 0 19)) (FP.i2d ((mlook ((setI x 0 0 0).1 0 15) (setI x 0 0 0)).1 0 18))))) (some ((FP.ddiv (FP.i2d ((mlook ((setI x 0 0 0).1 0 15) (setI x 0 0 0)).1 0 19)) (FP.i2d ((mlook ((setI x 0 0 0).1 0 15) (setI x 0 0 0)).1 0 18))), (mlook ((setI x 0 0 0).1 0 15) (setI x 0 0 0))))))

set_option maxHeartbeats 4000000 in
set_option maxRecDepth 100000 in
theorem c_X10_meanRiders {g : Gx} {a : Nat → Nat} {x : XS}    {u : UInt64 × XS}  (h : f_X10_meanRiders   x = some u) : Mx g yX10_meanRiders cX10_meanRiders 1 (some .double) 8 0 0 LM a x [.ref (a 0)] (pr (some (.double u.1)) u.2) := by
  refine Mx_of (by decide +kernel) (Nat.le_of_ble_eq_true rfl) ?_
  intro k hk he hg
  subst hg
  rw [f_X10_meanRiders] at h
  refine xaload_n hk dX10_meanRiders_0 rfl ?_
  refine xiconst (v := 0) hk dX10_meanRiders_1 (by decide) ?_
  refine xputI (ci := 10) (f := 0) hk dX10_meanRiders_2 ⟨rfl, by decide, _, rfl, rfl⟩ kX10_60 ⟨rfl, by decide +kernel⟩ ?_
  refine xaload_n hk dX10_meanRiders_5 rfl ?_
  refine xaload_n hk dX10_meanRiders_6 rfl ?_
  refine xgetI (ci := 10) (f := 15) hk dX10_meanRiders_7 ⟨rfl, by decide, _, rfl, rfl⟩ kX10_115 ?_
  obtain ⟨g10_0, h⟩ := og_some h
  refine xcallV hk (c_X10_peaces (cdec_of g10_0)) bX10_peaces kX10_182 dX10_meanRiders_10 rfl ⟨_, _, _, _, rfl, rfl⟩ rfl (by first | decide | omega) ⟨by decide, by decide⟩ (Nat.le_of_ble_eq_true rfl) (det ?_)
  refine xif_ne hk 20 dX10_meanRiders_13 (by decide) (fun h13 => ?_) (fun h13 => ?_)
  · rw [if_neg h13] at h
    refine xaload_n hk dX10_meanRiders_20 rfl ?_
    refine xgetI (ci := 10) (f := 19) hk dX10_meanRiders_21 ⟨rfl, by decide, _, rfl, rfl⟩ kX10_97 ?_
    refine xi2d hk dX10_meanRiders_24 ?_
    refine xaload_n hk dX10_meanRiders_25 rfl ?_
    refine xgetI (ci := 10) (f := 18) hk dX10_meanRiders_26 ⟨rfl, by decide, _, rfl, rfl⟩ kX10_94 ?_
    refine xi2d hk dX10_meanRiders_29 ?_
    obtain ⟨hi30, h⟩ := og_some h
    refine xddiv hk dX10_meanRiders_30 (cdec_of hi30) ?_
    refine xdret hk he dX10_meanRiders_31 ⟨by decide, by decide⟩ ?_
    obtain rfl := Option.some.inj h
    exact ⟨rfl, rfl⟩
  · rw [if_pos h13] at h
    refine xdconst0 hk dX10_meanRiders_16 ?_
    refine xgoto hk 31 dX10_meanRiders_17 (by decide) ?_
    refine xdret hk he dX10_meanRiders_31 ⟨by decide, by decide⟩ ?_
    obtain rfl := Option.some.inj h
    exact ⟨rfl, rfl⟩

def f_X10_feed_L51   : Nat → Int32 → XS → Option (Int32 × XS)
  | 0, _, _ => none
  | n + 1, l7, x => (if 20 ≤ l7 then some (((setI x 0 2 ((x.1 0 2) + 20)).1 0 2), (setI x 0 2 ((x.1 0 2) + 20))) else og (inB (l7 / 4) 5) (og (inB ((x.1 0 2) + l7) 2000) ((f_X10_feed_L51   n (l7 + 1) (setI x 1 (((x.1 0 2) + l7) : Int32).toNatClampNeg (((x.1 21 ((l7 / 4) : Int32).toNatClampNeg) >>> ((24 - (8 * (l7 - l7 / 4 * 4))) &&& 31)) &&& 255))))))
def f_X10_feed  (p : Int32) (q : Int32) (r : Int32) (s : Int32) (t : Int32) (x : XS) : Option (Int32 × XS) := (if ((setI x 0 0 0).1 0 2) ≤ 1980 then og (inB 0 5) (og (inB 1 5) (og (inB 2 5) (og (inB 3 5) (og (inB 4 5) ((f_X10_feed_L51   30 0 (setI (setI (setI (setI (setI (clr (setI x 0 0 0) 21) 21 (0 : Int32).toNatClampNeg p) 21 (1 : Int32).toNatClampNeg q) 21 (2 : Int32).toNatClampNeg r) 21 (3 : Int32).toNatClampNeg s) 21 (4 : Int32).toNatClampNeg t))))))) else some (0, (setI (setI x 0 0 0) 0 0 1)))
def X10_feed_y1 : List Kd := [.inl (10, [0, 4, 0, 0, 5, 6, 7, 8, 9, 0, 0, 14, 43, 0, 0, 0, 10, 0, 0, 0, 0, 11, 0, 0, 12, 13]), .inr (0, 2000), .inr (0, 401), .inr (0, 401), .inr (0, 401), .inr (0, 401), .inr (0, 401), .inr (0, 400), .inr (0, 20), .inr (0, 20), .inr (0, 20), .inl (9, [0, 0, 15, 16, 17, 0, 0, 18, 19, 20, 21, 22, 0, 23, 0]), .inr (0, 20), .inr (0, 20), .inr (0, 20), .inr (0, 16), .inr (0, 16), .inr (0, 17), .inr (0, 17), .inr (0, 800), .inr (0, 400), .inr (0, 5)]
set_option maxHeartbeats 4000000 in
set_option maxRecDepth 100000 in
theorem c_X10_feed {g : Gx} {a : Nat → Nat} {x : XS}   {p : Int32} {q : Int32} {r : Int32} {s : Int32} {t : Int32} {u : Int32 × XS}  (h : f_X10_feed  p q r s t x = some u) : Mx g yX10_feed cX10_feed 8 (some .int) 3 1 5 LM a x [.ref (a 0), .int p, .int q, .int r, .int s, .int t] (pr (some (.int u.1)) u.2) := by
  refine Mx_of (by decide +kernel) (Nat.le_of_ble_eq_true rfl) ?_
  intro k hk he hg
  subst hg
  rw [f_X10_feed] at h
  refine xaload_n hk dX10_feed_0 rfl ?_
  refine xiconst (v := 0) hk dX10_feed_1 (by decide) ?_
  refine xputI (ci := 10) (f := 0) hk dX10_feed_2 ⟨rfl, by decide, _, rfl, rfl⟩ kX10_60 ⟨rfl, by decide +kernel⟩ ?_
  refine xaload_n hk dX10_feed_5 rfl ?_
  refine xgetI (ci := 10) (f := 2) hk dX10_feed_6 ⟨rfl, by decide, _, rfl, rfl⟩ kX10_200 ?_
  refine xsipush (v := 1980) hk dX10_feed_9 (by decide) ?_
  refine xicmp_le hk 21 dX10_feed_12 (by decide) (fun h12 => ?_) (fun h12 => ?_)
  · rw [if_pos h12] at h
    refine xiconst (v := 5) hk dX10_feed_21 (by decide) ?_
    refine xnewI (N := 5) hk dX10_feed_22 (by decide) (by decide) (Nat.le_of_ble_eq_true rfl) (Nat.le_of_ble_eq_true rfl) (Nat.le_of_ble_eq_true rfl) (by decide +kernel) ?_
    intro a1 ha1
    rw [show LM.length = 21 from rfl] at ha1 ⊢
    refine xlay (lay' := X10_feed_y1) rfl ?_
    rw [← ha1 0 (by decide)]
    refine xdup hk dX10_feed_24 rfl ?_
    refine xiconst (v := 0) hk dX10_feed_25 (by decide) ?_
    refine xiload_n hk dX10_feed_26 rfl ?_
    obtain ⟨hi27, h⟩ := og_some h
    refine xiast hk dX10_feed_27 rfl (inB_v hi27) ?_
    refine xdup hk dX10_feed_28 rfl ?_
    refine xiconst (v := 1) hk dX10_feed_29 (by decide) ?_
    refine xiload_n hk dX10_feed_30 rfl ?_
    obtain ⟨hi31, h⟩ := og_some h
    refine xiast hk dX10_feed_31 rfl (inB_v hi31) ?_
    refine xdup hk dX10_feed_32 rfl ?_
    refine xiconst (v := 2) hk dX10_feed_33 (by decide) ?_
    refine xiload_n hk dX10_feed_34 rfl ?_
    obtain ⟨hi35, h⟩ := og_some h
    refine xiast hk dX10_feed_35 rfl (inB_v hi35) ?_
    refine xdup hk dX10_feed_36 rfl ?_
    refine xiconst (v := 3) hk dX10_feed_37 (by decide) ?_
    refine xiload hk dX10_feed_38 rfl ?_
    obtain ⟨hi40, h⟩ := og_some h
    refine xiast hk dX10_feed_40 rfl (inB_v hi40) ?_
    refine xdup hk dX10_feed_41 rfl ?_
    refine xiconst (v := 4) hk dX10_feed_42 (by decide) ?_
    refine xiload hk dX10_feed_43 rfl ?_
    obtain ⟨hi45, h⟩ := og_some h
    refine xiast hk dX10_feed_45 rfl (inB_v hi45) ?_
    refine xastore hk dX10_feed_46 (by decide) ?_
    refine xiconst (v := 0) hk dX10_feed_48 (by decide) ?_
    refine xistore hk dX10_feed_49 (by decide) ?_
    have loop51 : ∀ (n51 : Nat) (l7 : Int32) (x : XS), f_X10_feed_L51   n51 l7 x = some u → Wx k 1 5 X10_feed_y1 a1 x 51 [(0, .ref (a1 0)), (6, .ref (a1 21)), (7, .int l7)] [] := by
      intro n51
      induction n51 with
      | zero => intro l7 x h; rw [f_X10_feed_L51] at h; cases h
      | succ n51 ih51 =>
        intro l7 x h
        rw [f_X10_feed_L51] at h
        refine xiload hk dX10_feed_51 rfl ?_
        refine xbipush (v := 20) hk dX10_feed_53 (by decide) ?_
        refine xicmp_ge hk 98 dX10_feed_55 (by decide) (fun h55 => ?_) (fun h55 => ?_)
        · rw [if_pos h55] at h
          refine xaload_n hk dX10_feed_98 rfl ?_
          refine xdup hk dX10_feed_99 rfl ?_
          refine xgetI (ci := 10) (f := 2) hk dX10_feed_100 ⟨rfl, by decide, _, rfl, rfl⟩ kX10_200 ?_
          refine xbipush (v := 20) hk dX10_feed_103 (by decide) ?_
          refine xiadd hk dX10_feed_105 ?_
          refine xputI (ci := 10) (f := 2) hk dX10_feed_106 ⟨rfl, by decide, _, rfl, rfl⟩ kX10_200 ⟨rfl, by decide +kernel⟩ ?_
          refine xaload_n hk dX10_feed_109 rfl ?_
          refine xgetI (ci := 10) (f := 2) hk dX10_feed_110 ⟨rfl, by decide, _, rfl, rfl⟩ kX10_200 ?_
          refine xlay (lay' := LM ++ [.inr (0, 5)]) rfl ?_
          refine xdrop (a := a) (fun j => decide (j ≠ 21)) (by decide +kernel) (fun j hj => (ha1 j (of_decide_eq_true hj))) ?_
          refine xiret hk he dX10_feed_113 ⟨by decide, by decide⟩ ?_
          obtain rfl := Option.some.inj h
          exact ⟨rfl, rfl⟩
        · rw [if_neg h55] at h
          refine xaload_n hk dX10_feed_58 rfl ?_
          refine xgetR (ci := 10) (f := 1) hk dX10_feed_59 ⟨rfl, by decide, _, rfl, rfl⟩ kX10_9 ?_
          refine xaload_n hk dX10_feed_62 rfl ?_
          refine xgetI (ci := 10) (f := 2) hk dX10_feed_63 ⟨rfl, by decide, _, rfl, rfl⟩ kX10_200 ?_
          refine xiload hk dX10_feed_66 rfl ?_
          refine xiadd hk dX10_feed_68 ?_
          refine xaload hk dX10_feed_69 rfl ?_
          refine xiload hk dX10_feed_71 rfl ?_
          refine xiconst (v := 4) hk dX10_feed_73 (by decide) ?_
          refine xidiv hk dX10_feed_74 (by decide) ?_
          obtain ⟨hi75, h⟩ := og_some h
          refine xiald hk dX10_feed_75 rfl (inB_v hi75) ?_
          refine xbipush (v := 24) hk dX10_feed_76 (by decide) ?_
          refine xbipush (v := 8) hk dX10_feed_78 (by decide) ?_
          refine xiload hk dX10_feed_80 rfl ?_
          refine xiconst (v := 4) hk dX10_feed_82 (by decide) ?_
          refine xirem hk dX10_feed_83 (by decide) ?_
          refine ximul hk dX10_feed_84 ?_
          refine xisub hk dX10_feed_85 ?_
          refine xishr hk dX10_feed_86 ?_
          refine xsipush (v := 255) hk dX10_feed_87 (by decide) ?_
          refine xiand hk dX10_feed_90 ?_
          obtain ⟨hi91, h⟩ := og_some h
          refine xiast hk dX10_feed_91 rfl (inB_v hi91) ?_
          refine xiinc (v := (l7 + 1)) hk dX10_feed_92 rfl (by decide) rfl ?_
          refine xgoto hk 51 dX10_feed_95 (by decide) ?_
          refine xsub [(0, .ref (a1 0)), (6, .ref (a1 21)), (7, .int (l7 + 1))] rfl ?_
          exact ih51 _ _ h
    refine xsub [(0, .ref (a1 0)), (6, .ref (a1 21)), (7, .int 0)] rfl ?_
    exact loop51 _ _ _ h
  · rw [if_neg h12] at h
    refine xaload_n hk dX10_feed_15 rfl ?_
    refine xiconst (v := 1) hk dX10_feed_16 (by decide) ?_
    refine xcallV hk c_X10_no bX10_no kX10_367 dX10_feed_17 rfl ⟨_, _, _, _, rfl, rfl⟩ rfl (by first | decide | omega) ⟨by decide, by decide⟩ (Nat.le_of_ble_eq_true rfl) (det ?_)
    refine xiret hk he dX10_feed_20 ⟨by decide, by decide⟩ ?_
    obtain rfl := Option.some.inj h
    exact ⟨rfl, rfl⟩

