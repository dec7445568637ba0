theorem kX9_85 : Cond.methodLink RX9 85 yX9_isDue ∈ GW := gw_mem 855 (by decide +kernel) (by decide +kernel)
theorem bX9_isDue : CBv yX9_isDue cX9_isDue 3 (some .boolean) 1 := ⟨⟨gw_mem 859 (by decide +kernel) (by decide +kernel), gw_mem 5 (by decide +kernel) (by decide +kernel), by decide +kernel, by decide⟩, gw_mem 857 (by decide +kernel) (by decide +kernel), gw_sel 23 (by decide +kernel) (by decide +kernel)⟩
theorem kX9_26 : Cond.fieldLink RX9 26 "FeudBookLaw$Sim" "carried" "I" ∈ GW := gw_mem 1150 (by decide +kernel) (by decide +kernel)
theorem kX9_15 : Cond.fieldLink RX9 15 "FeudBookLaw$Sim" "orders" "[[I" ∈ GW := gw_mem 1146 (by decide +kernel) (by decide +kernel)
/-! A day passes, by hand -/
theorem SimX.setOn {x : XS} {q : Nat} {b : Bok} {m dy ca t : Nat} {u : Bool} (h : SimX x q b m dy ca) (ht : t < bS b) : SimX (setI x (q + 3 + t) 3 (b2i u)) q b (setM m t u) dy ca := by
  obtain ⟨⟨h0, h3, h4⟩, hs, ho⟩ := h
  refine ⟨⟨by rw [rdI_ne (by omega)]; exact h0, by rw [rdI_ne (by omega)]; exact h3, by rw [rdI_ne (by omega)]; exact h4⟩, fun k hk => ?_, fun k hk j hj => by rw [rdI_ne (by omega)]; exact ho k hk j hj⟩
  obtain ⟨g0, g1, g2, g3⟩ := hs k hk
  refine ⟨by rw [rdI_nk (by decide)]; exact g0, by rw [rdI_nk (by decide)]; exact g1, by rw [rdI_nk (by decide)]; exact g2, ?_⟩
  rw [setM_bit, rdI]
  by_cases e : k = t
  · rw [if_pos ⟨by rw [e], rfl⟩, if_pos e]
  · rw [if_neg (fun z => e (by omega)), if_neg e]; exact g3
theorem SimX.setCa {x : XS} {q : Nat} {b : Bok} {m dy ca c2 : Nat} (h : SimX x q b m dy ca) : SimX (setI x q 4 (nI c2)) q b m dy c2 := by
  obtain ⟨⟨h0, h3, h4⟩, hs, ho⟩ := h
  exact ⟨⟨by rw [rdI_nk (by decide)]; exact h0, by rw [rdI_nk (by decide)]; exact h3, rdI_eq⟩, fun k hk => by rw [rdI_ne (by omega), rdI_ne (by omega), rdI_ne (by omega), rdI_ne (by omega)]; exact hs k hk, fun k hk j hj => by rw [rdI_ne (by omega)]; exact ho k hk j hj⟩
theorem SimX.setDy {x : XS} {q : Nat} {b : Bok} {m dy ca d2 : Nat} (h : SimX x q b m dy ca) : SimX (setI x q 3 (nI d2)) q b m d2 ca := by
  obtain ⟨⟨h0, h3, h4⟩, hs, ho⟩ := h
  exact ⟨⟨by rw [rdI_nk (by decide)]; exact h0, rdI_eq, by rw [rdI_nk (by decide)]; exact h4⟩, fun k hk => by rw [rdI_ne (by omega), rdI_ne (by omega), rdI_ne (by omega), rdI_ne (by omega)]; exact hs k hk, fun k hk j hj => by rw [rdI_ne (by omega)]; exact ho k hk j hj⟩
theorem verb_b {v : Nat} (h : v = 1 ∨ v = 2) : nI v - 1 = b2i (decide (v = 2)) := by rcases h with rfl | rfl <;> rfl
theorem b2i_inj {u v : Bool} : b2i u = b2i v ↔ u = v := by cases u <;> cases v <;> decide
theorem dayS_lt {b : Bok} (hW : BW b) {dy : Nat} {s : Nat × Nat} (hs : s.1 < 2 ^ bS b) : ∀ j, j ≤ bM b → (dayS b dy j s).1 < 2 ^ bS b
  | 0, _ => hs
  | j + 1, hj => by
    rw [dayS, ordS]
    split
    · exact setM_lt (dayS_lt hW hs j (by omega)) (hW.2.2.2.2 j (by omega)).2.1 _
    · exact dayS_lt hW hs j (by omega)
theorem m32 {b : Bok} (hW : BW b) {m : Nat} (hm : m < 2 ^ bS b) : m < 2 ^ 32 := Nat.lt_of_lt_of_le hm (Nat.pow_le_pow_right (by decide) (by have := hW.2.1; omega))
def OutS (q : Nat) (b : Bok) (x x' : XS) : Prop := (∀ i j, (i < q ∨ q + 3 + bS b + bM b ≤ i) → x'.1 i j = x.1 i j) ∧ x'.2 = x.2
def PsE (x : XS) (q : Nat) (b : Bok) (m dy ca : Nat) : Option Value → XS → Prop := fun v x' => v = none ∧ SimX x' q b (dayS b dy (bM b) (m, ca)).1 (dy + 1) (dayS b dy (bM b) (m, ca)).2 ∧ OutS q b x x'
set_option maxHeartbeats 4000000 in
set_option maxRecDepth 100000 in
theorem c_X9_pass {g : Gx} {a : Nat → Nat} {x : XS} {lay : List Kd} {q : Nat} {b : Bok} {m dy ca : Nat} (hL : SimL lay q b) (hW : BW b) (hX : SimX x q b m dy ca) (hm : m < 2 ^ bS b) (hC : Cl lay) (hdy : dy < 1000) : Mx g yX9_pass cX9_pass 6 none 13 65 650 lay a x [.ref (a q)] (PsE x q b m dy ca) := by
  refine Mx_of (by decide +kernel) (Nat.le_of_ble_eq_true rfl) ?_
  intro k hk he hg
  subst hg

  have hF := hW.1
  have hS := hW.2.1
  have hM5 := hW.2.2.2.1
  have hlt := hL.lt
  refine xaload_n hk dX9_pass_0 rfl ?_
  refine xgetR (ci := 9) (f := 2) (j := q + 2) hk dX9_pass_1 ⟨rfl, by decide, _, hL.1, rfl⟩ kX9_15 ?_
  refine xastore_n hk dX9_pass_4 (by decide) ?_
  refine xaload_n hk dX9_pass_5 rfl ?_
  refine xalenR (v := nI (bM b)) hk dX9_pass_6 hL.2.2.1 (by rw [rows_len]; rfl) ?_
  refine xistore_n hk dX9_pass_7 (by decide) ?_
  refine xiconst (v := 0) hk dX9_pass_8 (by decide) ?_
  refine xistore_n hk dX9_pass_9 (by decide) ?_
  have loop : ∀ (n j : Nat) (v : Int32) (y : XS), bM b - j < n → v = nI j → j ≤ bM b → SimX y q b (dayS b dy j (m, ca)).1 dy (dayS b dy j (m, ca)).2 → OutS q b x y → Wx k (13 * j) (130 * j) lay a y 10 [(0, .ref (a q)), (1, .ref (a (q + 2))), (2, .int (nI (bM b))), (3, .int v)] [] := by
    intro n
    induction n with
    | zero => intro j v y h; omega
    | succ n ih =>
      intro j v y hn hv hj hY hO
      subst hv
      have hmj := dayS_lt hW (dy := dy) (s := (m, ca)) hm j hj
      generalize hs : dayS b dy j (m, ca) = s at hY hmj
      refine xiload_n hk dX9_pass_10 rfl ?_
      refine xiload_n hk dX9_pass_11 rfl ?_
      refine xicmp_ge hk 93 dX9_pass_12 (by decide) (fun h12 => ?_) (fun h12 => ?_)
      · rw [nI_leI (by omega) (by omega)] at h12
        obtain rfl : j = bM b := by omega
        refine xaload_n hk dX9_pass_93 rfl ?_
        refine xdup hk dX9_pass_94 rfl ?_
        refine xgetI (ci := 9) (f := 3) hk dX9_pass_95 ⟨rfl, by decide, _, hL.1, rfl⟩ kX9_23 ?_
        rw [hY.1.2.1]
        refine xiconst (v := 1) hk dX9_pass_98 (by decide) ?_
        refine xiadd hk dX9_pass_99 ?_
        rw [nI_1]
        refine xputI (ci := 9) (f := 3) hk dX9_pass_100 ⟨rfl, by decide, _, hL.1, rfl⟩ kX9_23 ⟨rfl, by decide +kernel⟩ ?_
        refine xvret hk he dX9_pass_103 ⟨by omega, by omega⟩ ?_
        refine ⟨rfl, ?_, fun i j2 h => by rw [rdI_ne (by omega)]; exact hO.1 i j2 h, hO.2⟩
        rw [hs]
        exact hY.setDy
      · rw [nI_leI (by omega) (by omega)] at h12
        have hj2 : j < bM b := by omega
        refine xaload_n hk dX9_pass_15 rfl ?_
        refine xiload_n hk dX9_pass_16 rfl ?_
        refine xaald hk dX9_pass_17 hL.2.2.1 (rows_in hj2 (by omega)) (rows_at hj2 (by omega)) ?_
        have B := hW.2.2.2.2 j hj2
        refine xastore hk dX9_pass_18 (by decide) ?_
        refine xaload_n hk dX9_pass_20 rfl ?_
        refine xaload hk dX9_pass_21 rfl ?_
        refine xcallV hk (q := q) (c_X9_isDue (j := j) hL hW hY (m32 hW hmj) hC hj2 hdy) bX9_isDue kX9_85 dX9_pass_23 rfl ⟨_, _, _, _, hL.1, rfl⟩ rfl (by omega) ⟨by omega, by omega⟩ (Nat.le_of_ble_eq_true rfl) (det ?_)
        refine xif_ne hk 32 dX9_pass_26 (by decide) (fun h26 => ?_) (fun h26 => ?_)
        · rw [b2i_t] at h26
          refine xaload_n hk dX9_pass_32 rfl ?_
          refine xgetR (ci := 9) (f := 1) (j := q + 1) hk dX9_pass_33 ⟨rfl, by decide, _, hL.1, rfl⟩ kX9_9 ?_
          refine xaload hk dX9_pass_36 rfl ?_
          refine xiconst (v := 1) hk dX9_pass_38 (by decide) ?_
          refine xiald hk dX9_pass_39 (hL.2.2.2.2 j hj2) (show vp_in (nI 1) 6 from vp_in_nI (by decide) (by decide)) ?_
          rw [show (1 : Int32).toNatClampNeg = 1 from rfl, hY.2.2 j hj2 1 (by decide)]
          refine xaald hk dX9_pass_40 hL.2.1 (rows_in B.2.1 (by omega)) (rows_at B.2.1 (by omega)) ?_
          refine xiconst (v := 3) hk dX9_pass_41 (by decide) ?_
          refine xiald hk dX9_pass_42 (hL.2.2.2.1 _ B.2.1) (show vp_in (nI 3) 4 from vp_in_nI (by decide) (by decide)) ?_
          rw [show (3 : Int32).toNatClampNeg = 3 from rfl, (hY.2.1 _ B.2.1).2.2.2]
          refine xistore hk dX9_pass_43 (by decide) ?_
          refine xaload_n hk dX9_pass_45 rfl ?_
          refine xgetR (ci := 9) (f := 1) (j := q + 1) hk dX9_pass_46 ⟨rfl, by decide, _, hL.1, rfl⟩ kX9_9 ?_
          refine xaload hk dX9_pass_49 rfl ?_
          refine xiconst (v := 1) hk dX9_pass_51 (by decide) ?_
          refine xiald hk dX9_pass_52 (hL.2.2.2.2 j hj2) (show vp_in (nI 1) 6 from vp_in_nI (by decide) (by decide)) ?_
          rw [show (1 : Int32).toNatClampNeg = 1 from rfl, hY.2.2 j hj2 1 (by decide)]
          refine xaald hk dX9_pass_53 hL.2.1 (rows_in B.2.1 (by omega)) (rows_at B.2.1 (by omega)) ?_
          refine xiconst (v := 3) hk dX9_pass_54 (by decide) ?_
          refine xaload hk dX9_pass_55 rfl ?_
          refine xiconst (v := 0) hk dX9_pass_57 (by decide) ?_
          refine xiald hk dX9_pass_58 (hL.2.2.2.2 j hj2) (show vp_in (nI 0) 6 from vp_in_nI (by decide) (by decide)) ?_
          rw [show (0 : Int32).toNatClampNeg = 0 from rfl, hY.2.2 j hj2 0 (by decide)]
          refine xiconst (v := 1) hk dX9_pass_59 (by decide) ?_
          refine xisub hk dX9_pass_60 ?_
          rw [verb_b B.1]
          refine xiast hk dX9_pass_61 (hL.2.2.2.1 _ B.2.1) (show vp_in (nI 3) 4 from vp_in_nI (by decide) (by decide)) ?_
          rw [show (3 : Int32).toNatClampNeg = 3 from rfl]
          have hY2 := hY.setOn (u := decide (bo b j 0 = 2)) B.2.1
          have hO2 : OutS q b x (setI y (q + 3 + bo b j 1) 3 (b2i (decide (bo b j 0 = 2)))) := ⟨fun i j2 h => by rw [rdI_ne (by omega)]; exact hO.1 i j2 h, hO.2⟩
          refine xaload_n hk dX9_pass_62 rfl ?_
          refine xdup hk dX9_pass_63 rfl ?_
          refine xgetI (ci := 9) (f := 4) hk dX9_pass_64 ⟨rfl, by decide, _, hL.1, rfl⟩ kX9_26 ?_
          rw [hY2.1.2.2]
          refine xiload hk dX9_pass_67 rfl ?_
          refine xaload hk dX9_pass_69 rfl ?_
          refine xiconst (v := 0) hk dX9_pass_71 (by decide) ?_
          refine xiald hk dX9_pass_72 (hL.2.2.2.2 j hj2) (show vp_in (nI 0) 6 from vp_in_nI (by decide) (by decide)) ?_
          rw [show (0 : Int32).toNatClampNeg = 0 from rfl, hY2.2.2 j hj2 0 (by decide)]
          refine xiconst (v := 1) hk dX9_pass_73 (by decide) ?_
          refine xisub hk dX9_pass_74 ?_
          rw [verb_b B.1]
          refine xicmp_ne hk 82 dX9_pass_75 (by decide) (fun h75 => ?_) (fun h75 => ?_)
          · rw [b2i_inj] at h75
            refine xiconst (v := 1) hk dX9_pass_82 (by decide) ?_
            refine xiadd hk dX9_pass_83 ?_
            rw [show nI s.2 + (1 : Int32) = nI (s.2 + 1) from nI_1 _]
            refine xputI (ci := 9) (f := 4) hk dX9_pass_84 ⟨rfl, by decide, _, hL.1, rfl⟩ kX9_26 ⟨rfl, by decide +kernel⟩ ?_
            refine xiinc hk dX9_pass_87 rfl (by decide) rfl ?_
            refine xgoto hk 10 dX9_pass_90 (by decide) ?_
            refine xsub [(0, _), (1, _), (2, _), (3, _)] rfl ?_
            refine xwiden (show 13 * j + 13 ≤ 13 * (j + 1) by omega) (show 130 * j + 130 ≤ 130 * (j + 1) by omega) ?_
            refine ih (j + 1) _ _ (by omega) (nI_inc j) (by omega) ?_ ?_
            · first | (rw [dayS, hs, ordS, h26, if_neg (by decide)]; exact hY; done) | (rw [dayS, hs, ordS, h26, if_pos rfl, if_neg h75]; exact hY2.setCa; done) | (rw [dayS, hs, ordS, h26, if_pos rfl, if_pos h75]; exact hY2.setCa; done)
            · first | exact hO | exact ⟨fun i j2 h => by rw [rdI_ne (by omega)]; exact hO2.1 i j2 h, hO2.2⟩
          · rw [b2i_inj] at h75
            refine xiconst (v := 0) hk dX9_pass_78 (by decide) ?_
            refine xgoto hk 83 dX9_pass_79 (by decide) ?_
            refine xiadd hk dX9_pass_83 ?_
            rw [show nI s.2 + (0 : Int32) = nI (s.2 + 0) from nI_add _ 0]
            refine xputI (ci := 9) (f := 4) hk dX9_pass_84 ⟨rfl, by decide, _, hL.1, rfl⟩ kX9_26 ⟨rfl, by decide +kernel⟩ ?_
            refine xiinc hk dX9_pass_87 rfl (by decide) rfl ?_
            refine xgoto hk 10 dX9_pass_90 (by decide) ?_
            refine xsub [(0, _), (1, _), (2, _), (3, _)] rfl ?_
            refine xwiden (show 13 * j + 13 ≤ 13 * (j + 1) by omega) (show 130 * j + 130 ≤ 130 * (j + 1) by omega) ?_
            refine ih (j + 1) _ _ (by omega) (nI_inc j) (by omega) ?_ ?_
            · first | (rw [dayS, hs, ordS, h26, if_neg (by decide)]; exact hY; done) | (rw [dayS, hs, ordS, h26, if_pos rfl, if_neg h75]; exact hY2.setCa; done) | (rw [dayS, hs, ordS, h26, if_pos rfl, if_pos h75]; exact hY2.setCa; done)
            · first | exact hO | exact ⟨fun i j2 h => by rw [rdI_ne (by omega)]; exact hO2.1 i j2 h, hO2.2⟩
        · rw [b2i_0] at h26
          refine xgoto hk 87 dX9_pass_29 (by decide) ?_
          refine xiinc hk dX9_pass_87 rfl (by decide) rfl ?_
          refine xgoto hk 10 dX9_pass_90 (by decide) ?_
          refine xsub [(0, _), (1, _), (2, _), (3, _)] rfl ?_
          refine xwiden (show 13 * j + 13 ≤ 13 * (j + 1) by omega) (show 130 * j + 130 ≤ 130 * (j + 1) by omega) ?_
          refine ih (j + 1) _ _ (by omega) (nI_inc j) (by omega) ?_ ?_
          · first | (rw [dayS, hs, ordS, h26, if_neg (by decide)]; exact hY; done) | (rw [dayS, hs, ordS, h26, if_pos rfl, if_neg h75]; exact hY2.setCa; done) | (rw [dayS, hs, ordS, h26, if_pos rfl, if_pos h75]; exact hY2.setCa; done)
          · first | exact hO | exact ⟨fun i j2 h => by rw [rdI_ne (by omega)]; exact hO2.1 i j2 h, hO2.2⟩
  refine xsub [(0, _), (1, _), (2, _), (3, _)] rfl ?_
  exact loop _ 0 _ x (Nat.lt_succ_self _) rfl (by omega) hX ⟨fun _ _ _ => rfl, rfl⟩
