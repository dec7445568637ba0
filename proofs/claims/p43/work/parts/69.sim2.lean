theorem kX9_37 : Cond.methodLink RX9 37 yX9_holds ∈ GW := gw_mem 872 (by decide +kernel) (by decide +kernel)
theorem bX9_holds : CBs yX9_holds cX9_holds 2 (some .boolean) 2 := ⟨⟨gw_mem 874 (by decide +kernel) (by decide +kernel), gw_mem 5 (by decide +kernel) (by decide +kernel), by decide +kernel, by decide⟩, gw_mem 873 (by decide +kernel) (by decide +kernel)⟩
/-! Whether a statement is kept; how many are parts' smallest -/
def keptB (kd c1 c2 : Nat) (on : Bool) (p : Nat) : Bool := !on || (if kd = 0 then !holdsP p c1 || holdsP p c2 else if kd = 1 then holdsP p c1 || holdsP p c2 else if kd = 2 then !(holdsP p c1 && holdsP p c2) else holdsP p c1)
theorem kept_lr {b : Bok} (hW : BW b) {s : Nat} (hs : s < bS b) (on : Bool) (p : Nat) : keptB (bk b s) (b1 b s) (b2 b s) on p = (!on || (holdsP p (bl b s) || holdsP p (br b s))) := by
  obtain ⟨h4, h1, h2, h3⟩ := hW.2.2.1 s hs
  have hF := hW.1.2
  have e1 := holds_not (b1 b s) (by omega) p
  have e2 := holds_not (b2 b s) (by omega) p
  unfold keptB bl br
  have hk : bk b s = 0 ∨ bk b s = 1 ∨ bk b s = 2 ∨ bk b s = 3 := by omega
  rcases hk with hk | hk | hk | hk
  · simp [hk, e1]
  · simp [hk]
  · simp [hk, e1, e2]
  · simp [hk, h3 hk]
set_option maxHeartbeats 4000000 in
set_option maxRecDepth 100000 in
theorem c_X9_isKept {g : Gx} {a : Nat → Nat} {x : XS} {lay : List Kd} {q r qd n kd c1 c2 p : Nat} {on : Bool} (hr : lay[r]? = some (.inr (0, 4))) (hd : lay[qd]? = some (.inr (0, n))) (h4 : kd < 4) (hc1 : c1 < 20) (hc2 : c2 < 20) (hn1 : c1 / 2 < n) (hn2 : c2 / 2 < n) (hx : x.1 r 0 = nI kd ∧ x.1 r 1 = nI c1 ∧ x.1 r 2 = nI c2 ∧ x.1 r 3 = b2i on) (hd1 : x.1 qd (c1 / 2) = b2i (!p.testBit (c1 / 2))) (hd2 : x.1 qd (c2 / 2) = b2i (!p.testBit (c2 / 2))) : Mx g yX9_isKept cX9_isKept 5 (some .boolean) 2 0 0 lay a x [.ref (a q), .ref (a r), .ref (a qd)] (pr (some (.int (b2i (keptB kd c1 c2 on p)))) x) := by
  refine Mx_of (by decide +kernel) (Nat.le_of_ble_eq_true rfl) ?_
  intro k hk he hg
  subst hg

  have C1 := c_X9_holds (g := kg k) (a := a) (x := x) (lay := lay) (p := p) hd hc1 hn1 hd1
  have C2 := c_X9_holds (g := kg k) (a := a) (x := x) (lay := lay) (p := p) hd hc2 hn2 hd2
  unfold keptB at he
  generalize holdsP p c1 = u1 at C1 he
  generalize holdsP p c2 = u2 at C2 he
  refine xaload_n hk dX9_isKept_0 rfl ?_
  refine xiconst (v := 3) hk dX9_isKept_1 (by decide) ?_
  refine xiald hk dX9_isKept_2 hr (show vp_in (nI 3) 4 from vp_in_nI (by decide) (by decide)) ?_
  rw [show (3 : Int32).toNatClampNeg = 3 from rfl, hx.2.2.2]
  refine xif_ne hk 8 dX9_isKept_3 (by decide) (fun h3 => ?_) (fun h3 => ?_)
  · refine xaload_n hk dX9_isKept_8 rfl ?_
    refine xaload_n hk dX9_isKept_9 rfl ?_
    refine xiconst (v := 1) hk dX9_isKept_10 (by decide) ?_
    refine xiald hk dX9_isKept_11 hr (show vp_in (nI 1) 4 from vp_in_nI (by decide) (by decide)) ?_
    rw [show (1 : Int32).toNatClampNeg = 1 from rfl, hx.2.1]
    refine xcallS hk C1 bX9_holds kX9_37 dX9_isKept_12 rfl rfl (by decide) ⟨by decide, by decide⟩ (Nat.le_of_ble_eq_true rfl) (det ?_)
    refine xistore_n hk dX9_isKept_15 (by decide) ?_
    refine xaload_n hk dX9_isKept_16 rfl ?_
    refine xaload_n hk dX9_isKept_17 rfl ?_
    refine xiconst (v := 2) hk dX9_isKept_18 (by decide) ?_
    refine xiald hk dX9_isKept_19 hr (show vp_in (nI 2) 4 from vp_in_nI (by decide) (by decide)) ?_
    rw [show (2 : Int32).toNatClampNeg = 2 from rfl, hx.2.2.1]
    refine xcallS hk C2 bX9_holds kX9_37 dX9_isKept_20 rfl rfl (by decide) ⟨by decide, by decide⟩ (Nat.le_of_ble_eq_true rfl) (det ?_)
    refine xistore hk dX9_isKept_23 (by decide) ?_
    refine xaload_n hk dX9_isKept_25 rfl ?_
    refine xiconst (v := 0) hk dX9_isKept_26 (by decide) ?_
    refine xiald hk dX9_isKept_27 hr (show vp_in (nI 0) 4 from vp_in_nI (by decide) (by decide)) ?_
    rw [show (0 : Int32).toNatClampNeg = 0 from rfl, hx.1]
    refine xif_ne hk 48 dX9_isKept_28 (by decide) (fun h28 => ?_) (fun h28 => ?_)
    · rw [show (0 : Int32) = nI 0 from rfl, nI_eq (by omega) (by decide)] at h28
      refine xaload_n hk dX9_isKept_48 rfl ?_
      refine xiconst (v := 0) hk dX9_isKept_49 (by decide) ?_
      refine xiald hk dX9_isKept_50 hr (show vp_in (nI 0) 4 from vp_in_nI (by decide) (by decide)) ?_
      rw [show (0 : Int32).toNatClampNeg = 0 from rfl, hx.1]
      refine xiconst (v := 1) hk dX9_isKept_51 (by decide) ?_
      refine xicmp_ne hk 72 dX9_isKept_52 (by decide) (fun h52 => ?_) (fun h52 => ?_)
      · rw [show (1 : Int32) = nI 1 from rfl, nI_eq (by omega) (by decide)] at h52
        refine xaload_n hk dX9_isKept_72 rfl ?_
        refine xiconst (v := 0) hk dX9_isKept_73 (by decide) ?_
        refine xiald hk dX9_isKept_74 hr (show vp_in (nI 0) 4 from vp_in_nI (by decide) (by decide)) ?_
        rw [show (0 : Int32).toNatClampNeg = 0 from rfl, hx.1]
        refine xiconst (v := 2) hk dX9_isKept_75 (by decide) ?_
        refine xicmp_ne hk 96 dX9_isKept_76 (by decide) (fun h76 => ?_) (fun h76 => ?_)
        · rw [show (2 : Int32) = nI 2 from rfl, nI_eq (by omega) (by decide)] at h76
          refine xiload_n hk dX9_isKept_96 rfl ?_
          refine xzret hk he dX9_isKept_97 ⟨by decide, by decide⟩ (by first | with_reducible exact nar_b _ | rfl) ?_
          exact ⟨by clear C1 C2 he; cases on <;> cases u1 <;> cases u2 <;> simp_all [b2i], rfl⟩
        · rw [show (2 : Int32) = nI 2 from rfl, nI_eq (by omega) (by decide)] at h76
          refine xiload_n hk dX9_isKept_79 rfl ?_
          refine xif_eq hk 88 dX9_isKept_80 (by decide) (fun h80 => ?_) (fun h80 => ?_)
          · refine xiconst (v := 1) hk dX9_isKept_88 (by decide) ?_
            refine xgoto hk 97 dX9_isKept_89 (by decide) ?_
            refine xzret hk he dX9_isKept_97 ⟨by decide, by decide⟩ (by first | with_reducible exact nar_b _ | rfl) ?_
            exact ⟨by clear C1 C2 he; cases on <;> cases u1 <;> cases u2 <;> simp_all [b2i], rfl⟩
          · refine xiload hk dX9_isKept_83 rfl ?_
            refine xif_ne hk 92 dX9_isKept_85 (by decide) (fun h85 => ?_) (fun h85 => ?_)
            · refine xiconst (v := 0) hk dX9_isKept_92 (by decide) ?_
              refine xgoto hk 97 dX9_isKept_93 (by decide) ?_
              refine xzret hk he dX9_isKept_97 ⟨by decide, by decide⟩ (by first | with_reducible exact nar_b _ | rfl) ?_
              exact ⟨by clear C1 C2 he; cases on <;> cases u1 <;> cases u2 <;> simp_all [b2i], rfl⟩
            · refine xiconst (v := 1) hk dX9_isKept_88 (by decide) ?_
              refine xgoto hk 97 dX9_isKept_89 (by decide) ?_
              refine xzret hk he dX9_isKept_97 ⟨by decide, by decide⟩ (by first | with_reducible exact nar_b _ | rfl) ?_
              exact ⟨by clear C1 C2 he; cases on <;> cases u1 <;> cases u2 <;> simp_all [b2i], rfl⟩
      · rw [show (1 : Int32) = nI 1 from rfl, nI_eq (by omega) (by decide)] at h52
        refine xiload_n hk dX9_isKept_55 rfl ?_
        refine xif_ne hk 64 dX9_isKept_56 (by decide) (fun h56 => ?_) (fun h56 => ?_)
        · refine xiconst (v := 1) hk dX9_isKept_64 (by decide) ?_
          refine xgoto hk 97 dX9_isKept_65 (by decide) ?_
          refine xzret hk he dX9_isKept_97 ⟨by decide, by decide⟩ (by first | with_reducible exact nar_b _ | rfl) ?_
          exact ⟨by clear C1 C2 he; cases on <;> cases u1 <;> cases u2 <;> simp_all [b2i], rfl⟩
        · refine xiload hk dX9_isKept_59 rfl ?_
          refine xif_eq hk 68 dX9_isKept_61 (by decide) (fun h61 => ?_) (fun h61 => ?_)
          · refine xiconst (v := 0) hk dX9_isKept_68 (by decide) ?_
            refine xgoto hk 97 dX9_isKept_69 (by decide) ?_
            refine xzret hk he dX9_isKept_97 ⟨by decide, by decide⟩ (by first | with_reducible exact nar_b _ | rfl) ?_
            exact ⟨by clear C1 C2 he; cases on <;> cases u1 <;> cases u2 <;> simp_all [b2i], rfl⟩
          · refine xiconst (v := 1) hk dX9_isKept_64 (by decide) ?_
            refine xgoto hk 97 dX9_isKept_65 (by decide) ?_
            refine xzret hk he dX9_isKept_97 ⟨by decide, by decide⟩ (by first | with_reducible exact nar_b _ | rfl) ?_
            exact ⟨by clear C1 C2 he; cases on <;> cases u1 <;> cases u2 <;> simp_all [b2i], rfl⟩
    · rw [show (0 : Int32) = nI 0 from rfl, nI_eq (by omega) (by decide)] at h28
      refine xiload_n hk dX9_isKept_31 rfl ?_
      refine xif_eq hk 40 dX9_isKept_32 (by decide) (fun h32 => ?_) (fun h32 => ?_)
      · refine xiconst (v := 1) hk dX9_isKept_40 (by decide) ?_
        refine xgoto hk 97 dX9_isKept_41 (by decide) ?_
        refine xzret hk he dX9_isKept_97 ⟨by decide, by decide⟩ (by first | with_reducible exact nar_b _ | rfl) ?_
        exact ⟨by clear C1 C2 he; cases on <;> cases u1 <;> cases u2 <;> simp_all [b2i], rfl⟩
      · refine xiload hk dX9_isKept_35 rfl ?_
        refine xif_eq hk 44 dX9_isKept_37 (by decide) (fun h37 => ?_) (fun h37 => ?_)
        · refine xiconst (v := 0) hk dX9_isKept_44 (by decide) ?_
          refine xgoto hk 97 dX9_isKept_45 (by decide) ?_
          refine xzret hk he dX9_isKept_97 ⟨by decide, by decide⟩ (by first | with_reducible exact nar_b _ | rfl) ?_
          exact ⟨by clear C1 C2 he; cases on <;> cases u1 <;> cases u2 <;> simp_all [b2i], rfl⟩
        · refine xiconst (v := 1) hk dX9_isKept_40 (by decide) ?_
          refine xgoto hk 97 dX9_isKept_41 (by decide) ?_
          refine xzret hk he dX9_isKept_97 ⟨by decide, by decide⟩ (by first | with_reducible exact nar_b _ | rfl) ?_
          exact ⟨by clear C1 C2 he; cases on <;> cases u1 <;> cases u2 <;> simp_all [b2i], rfl⟩
  · refine xiconst (v := 1) hk dX9_isKept_6 (by decide) ?_
    refine xzret hk he dX9_isKept_7 ⟨by decide, by decide⟩ rfl ?_
    exact ⟨by clear C1 C2 he; cases on <;> cases u1 <;> cases u2 <;> simp_all [b2i], rfl⟩
theorem many_up0 {pt : Nat → Nat} {j : Nat} (h : ¬ pt j = j) : nI (fb_ct (fun c => decide (pt c = c)) j) + 0 = nI (fb_ct (fun c => decide (pt c = c)) (j + 1)) := by
  rw [fb_ct_succ, if_neg (by simp [h])]
  exact nI_add _ 0
theorem many_up1 {pt : Nat → Nat} {j : Nat} (h : pt j = j) : nI (fb_ct (fun c => decide (pt c = c)) j) + 1 = nI (fb_ct (fun c => decide (pt c = c)) (j + 1)) := by
  rw [fb_ct_succ, if_pos (by simp [h])]
  exact nI_add _ 1
set_option maxHeartbeats 4000000 in
set_option maxRecDepth 100000 in
theorem c_X9_many {g : Gx} {a : Nat → Nat} {x : XS} {lay : List Kd} {qp n : Nat} {pt : Nat → Nat} (hp : lay[qp]? = some (.inr (0, n))) (hn : n ≤ 20) (hx : ∀ c, c < n → x.1 qp c = nI (pt c) ∧ pt c < 100) : Mx g yX9_many cX9_many 3 (some .int) 1 0 0 lay a x [.ref (a qp)] (pr (some (.int (nI (fb_ct (fun c => decide (pt c = c)) n)))) x) := by
  refine Mx_of (by decide +kernel) (Nat.le_of_ble_eq_true rfl) ?_
  intro k hk he hg
  subst hg

  have loop : ∀ (m j : Nat) (v : Int32), n - j < m → v = nI j → j ≤ n → Wx k 0 0 lay a x 4 [(0, .ref (a qp)), (1, .int (nI (fb_ct (fun c => decide (pt c = c)) j))), (2, .int v)] [] := by
    intro m
    induction m with
    | zero => intro j v h; omega
    | succ m ih =>
      intro j v hm hv hj
      subst hv
      refine xiload_n hk dX9_many_4 rfl ?_
      refine xaload_n hk dX9_many_5 rfl ?_
      refine xalen (v := nI n) hk dX9_many_6 hp (by decide) rfl ?_
      refine xicmp_ge hk 31 dX9_many_7 (by decide) (fun h7 => ?_) (fun h7 => ?_)
      · rw [nI_leI (by omega) (by omega)] at h7
        obtain rfl : j = n := by omega
        refine xiload_n hk dX9_many_31 rfl ?_
        refine xiret hk he dX9_many_32 ⟨by decide, by decide⟩ ?_
        exact ⟨rfl, rfl⟩
      · rw [nI_leI (by omega) (by omega)] at h7
        have hj2 : j < n := by omega
        refine xiload_n hk dX9_many_10 rfl ?_
        refine xaload_n hk dX9_many_11 rfl ?_
        refine xiload_n hk dX9_many_12 rfl ?_
        refine xiald hk dX9_many_13 hp (vp_in_nI hj2 (by omega)) ?_
        rw [nI_clamp (by omega), (hx j hj2).1]
        refine xiload_n hk dX9_many_14 rfl ?_
        refine xicmp_ne hk 22 dX9_many_15 (by decide) (fun h15 => ?_) (fun h15 => ?_)
        · rw [nI_eq (by have := (hx j hj2).2; omega) (by omega)] at h15
          refine xiconst (v := 0) hk dX9_many_22 (by decide) ?_
          refine xiadd hk dX9_many_23 ?_
          refine xistore_n hk dX9_many_24 (by decide) ?_
          refine xiinc hk dX9_many_25 rfl (by decide) rfl ?_
          refine xgoto hk 4 dX9_many_28 (by decide) ?_
          refine xsub [(0, _), (1, _), (2, _)] rfl ?_
          first | rw [many_up0 h15] | rw [many_up1 h15]
          exact ih (j + 1) _ (by omega) (nI_inc j) (by omega)
        · rw [nI_eq (by have := (hx j hj2).2; omega) (by omega)] at h15
          refine xiconst (v := 1) hk dX9_many_18 (by decide) ?_
          refine xgoto hk 23 dX9_many_19 (by decide) ?_
          refine xiadd hk dX9_many_23 ?_
          refine xistore_n hk dX9_many_24 (by decide) ?_
          refine xiinc hk dX9_many_25 rfl (by decide) rfl ?_
          refine xgoto hk 4 dX9_many_28 (by decide) ?_
          refine xsub [(0, _), (1, _), (2, _)] rfl ?_
          first | rw [many_up0 h15] | rw [many_up1 h15]
          exact ih (j + 1) _ (by omega) (nI_inc j) (by omega)
  refine xiconst (v := 0) hk dX9_many_0 (by decide) ?_
  refine xistore_n hk dX9_many_1 (by decide) ?_
  refine xiconst (v := 0) hk dX9_many_2 (by decide) ?_
  refine xistore_n hk dX9_many_3 (by decide) ?_
  refine xsub [(0, _), (1, _), (2, _)] rfl ?_
  exact loop _ 0 _ (Nat.lt_succ_self _) rfl (by omega)
