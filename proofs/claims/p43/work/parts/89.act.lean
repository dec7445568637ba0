theorem bX9_pass : CBv yX9_pass cX9_pass 6 none 0 := ⟨⟨gw_mem 854 (by decide +kernel) (by decide +kernel), gw_mem 5 (by decide +kernel) (by decide +kernel), by decide +kernel, by decide⟩, gw_mem 852 (by decide +kernel) (by decide +kernel), gw_mem 853 (by decide +kernel) (by decide +kernel)⟩
theorem kL_143 : Cond.fieldLink RL 143 "FeudBookLaw$Sim" "carried" "I" ∈ GW := gw_mem 1149 (by decide +kernel) (by decide +kernel)
theorem kL_146 : Cond.methodLink RL 146 yX9_pass ∈ GW := gw_mem 851 (by decide +kernel) (by decide +kernel)
theorem bX8_passDays : CBv yX8_passDays cX8_passDays 3 (some .int) 1 := ⟨⟨gw_mem 703 (by decide +kernel) (by decide +kernel), gw_mem 13 (by decide +kernel) (by decide +kernel), by decide +kernel, by decide⟩, gw_mem 701 (by decide +kernel) (by decide +kernel), gw_mem 702 (by decide +kernel) (by decide +kernel)⟩
theorem kL_149 : Cond.methodLink RL 149 yX8_passDays ∈ GW := gw_mem 700 (by decide +kernel) (by decide +kernel)
theorem bX8_breakStatement : CBv yX8_breakStatement cX8_breakStatement 2 (some .int) 1 := ⟨⟨gw_mem 693 (by decide +kernel) (by decide +kernel), gw_mem 13 (by decide +kernel) (by decide +kernel), by decide +kernel, by decide⟩, gw_mem 691 (by decide +kernel) (by decide +kernel), gw_mem 692 (by decide +kernel) (by decide +kernel)⟩
theorem kL_152 : Cond.methodLink RL 152 yX8_breakStatement ∈ GW := gw_mem 690 (by decide +kernel) (by decide +kernel)
theorem bX8_renewStatement : CBv yX8_renewStatement cX8_renewStatement 2 (some .int) 1 := ⟨⟨gw_mem 697 (by decide +kernel) (by decide +kernel), gw_mem 13 (by decide +kernel) (by decide +kernel), by decide +kernel, by decide⟩, gw_mem 695 (by decide +kernel) (by decide +kernel), gw_mem 696 (by decide +kernel) (by decide +kernel)⟩
theorem kL_155 : Cond.methodLink RL 155 yX8_renewStatement ∈ GW := gw_mem 694 (by decide +kernel) (by decide +kernel)
theorem kL_158 : Cond.methodLink RL 158 yX9_standing ∈ GW := gw_mem 1416 (by decide +kernel) (by decide +kernel)
/-! act: days pass, or a statement is broken or renewed, on both sides -/
def hhA : List (Nat × Nat × Nat × Nat) := [(153, 188, 189, 161)]
theorem bL_act : CBw yL_act cL_act 7 (some .boolean) hhA 3 := ⟨gw_mem 1414 (by decide +kernel) (by decide +kernel), gw_mem 0 (by decide +kernel) (by decide +kernel), gw_mem 1413 (by decide +kernel) (by decide +kernel), by decide +kernel, by decide⟩
theorem linkA : Cond.classLink RL 161 "java/lang/IllegalStateException" ∈ GW := gw_mem 1415 (by decide +kernel) (by decide +kernel)
theorem castA : Cond.castable "java/lang/IllegalStateException" "java/lang/IllegalStateException" ∈ NW := nw_mem 507 (by decide +kernel) rfl
def ActE (x : XS) (q : Nat) (b : Bok) (dy : Nat) : Option Value → XS → Prop := fun r x' => r = some (.int 1) ∧ ∃ m' dy' ca', dy' ≤ dy + 3 ∧ SimX x' q b m' dy' ca' ∧ Cls b m' dy' ca' x' ∧ ∀ i, 48 ≤ i → (i < q ∨ q + 3 + bS b + bM b ≤ i) → ∀ j, x'.1 i j = x.1 i j
theorem daysN_lt {b : Bok} (hW : BW b) {dy : Nat} {s : Nat × Nat} (hs : s.1 < 2 ^ bS b) : ∀ n, (daysN b dy n s).1 < 2 ^ bS b
  | 0 => hs
  | n + 1 => dayS_lt hW (s := daysN b dy n s) (daysN_lt hW hs n) (bM b) (Nat.le_refl _)
set_option maxHeartbeats 4000000 in
set_option maxRecDepth 100000 in
theorem c_L_act {g : Gx} {a : Nat → Nat} {x : XS} {lay : List Kd} {q m dy ca : Nat} {b : Bok} {v : Int32} (hI : IsL lay) (hL : SimL lay q b) (hW : BW b) (hq48 : 48 ≤ q) (hX : SimX x q b m dy ca) (hCx : Cls b m dy ca x) (hC : Cl lay) (hdy : dy + 3 ≤ 900) (hfl : g.1.stackTraces = false) : Mw g yL_act cL_act 7 (some .boolean) hhA 14 200 2000 lay a x [.ref (a 0), .ref (a q), .int v] (ActE x q b dy) := by
  refine Mw_of (by decide +kernel) (Nat.le_of_ble_eq_true rfl) ?_
  intro k hk he hg ht
  subst hg
  have hF := hW.1
  have hS1 := hW.2.1
  have hM1 := hW.2.2.2.1
  have hm := hCx.2.1
  have hlt := hL.lt
  have partDays : Wx k 0 0 lay a x 16 [(0, .ref (a 0)), (1, .ref (a q)), (2, .int v)] [] := by
    have hbl := belowN_lt (v := v >>> ((4 : Int32) &&& 31)) (n := 3) (by decide)
    refine xiconst (v := 1) hk dL_act_16 (by decide) ?_
    refine xiload_n hk dL_act_17 rfl ?_
    refine xiconst (v := 4) hk dL_act_18 (by decide) ?_
    refine xishr hk dL_act_19 ?_
    refine xiconst (v := 3) hk dL_act_20 (by decide) ?_
    refine xcallS hk (c_L_below (n := 3) (by decide) (by omega)) bL_below kL_107 dL_act_21 rfl rfl (by decide) ⟨by omega, by omega⟩ (Nat.le_of_ble_eq_true rfl) (det ?_)
    refine xiadd hk dL_act_24 ?_
    obtain ⟨dd, hdd⟩ : ∃ dd, dd = 1 + belowN (v >>> ((4 : Int32) &&& 31)) 3 := ⟨_, rfl⟩
    rw [show (1 : Int32) + nI (belowN (v >>> ((4 : Int32) &&& 31)) 3) = nI dd by rw [hdd, ← nI_addN]; rfl]
    refine xistore_n hk dL_act_25 (by decide) ?_
    refine xaload_n hk dL_act_26 rfl ?_
    refine xgetI (ci := 9) (f := 4) hk dL_act_27 ⟨rfl, by decide, _, hL.1, rfl⟩ kL_143 ?_
    rw [hX.1.2.2]
    refine xistore hk dL_act_30 (by decide) ?_
    refine xiconst (v := 0) hk dL_act_32 (by decide) ?_
    refine xistore hk dL_act_33 (by decide) ?_
    have loop : ∀ (z j : Nat) (x2 : XS), dd - j < z → j ≤ dd → SimX x2 q b (daysN b dy j (m, ca)).1 (dy + j) (daysN b dy j (m, ca)).2 → OutS q b x x2 → Wx k (65 * j) (650 * j) lay a x2 35 [(0, .ref (a 0)), (1, .ref (a q)), (2, .int v), (3, .int (nI dd)), (4, .int (nI ca)), (5, .int (nI j))] [] := by
      intro z
      induction z with
      | zero => intro j x2 h; omega
      | succ z ih =>
        intro j x2 hz hj hX2 hO
        have hm2 := daysN_lt hW (dy := dy) (s := (m, ca)) hm j
        refine xiload hk dL_act_35 rfl ?_
        refine xiload_n hk dL_act_37 rfl ?_
        refine xicmp_ge hk 51 dL_act_38 (by decide) (fun h38 => ?_) (fun h38 => ?_)
        · have hje : dd = j := Nat.le_antisymm ((nI_leq (by omega) (by omega)).mp h38) hj
          subst hje
          refine xaload_n hk dL_act_51 rfl ?_
          refine xiload_n hk dL_act_52 rfl ?_
          have hCx2 : Cls b m dy ca x2 := hCx.of (fun i hi jj => ⟨hO.1 i jj (Or.inl (by omega)), by rw [hO.2]⟩)
          refine xaskL hI hk (q_pass hCx2 (n := dd) (by omega) (by omega) (by omega)) (fun u e => c_X8_passDays hfl e) bX8_passDays rfl kL_149 dL_act_53 rfl rfl (by decide) ⟨by omega, by omega⟩ (Nat.le_of_ble_eq_true rfl) (fun x2 hCx hS => ?_)
          have hX4 := hX2.s48 hq48 hS
          refine xaload_n hk dL_act_56 rfl ?_
          refine xgetI (ci := 9) (f := 4) hk dL_act_57 ⟨rfl, by decide, _, hL.1, rfl⟩ kL_143 ?_
          rw [hX4.1.2.2]
          refine xiload hk dL_act_60 rfl ?_
          refine xisub hk dL_act_62 ?_
          refine xicmp_ne hk 70 dL_act_63 (by decide) (fun h63 => ?_) (fun h63 => ?_)
          · exact absurd rfl h63
          · refine xiconst (v := 1) hk dL_act_66 (by decide) ?_
            refine xgoto hk 71 dL_act_67 (by decide) ?_
            refine xzret hk he dL_act_71 ⟨by omega, by omega⟩ rfl ?_
            exact ⟨rfl, _, _, _, by omega, hX4, hCx, fun i h1 h2 jj => ((hS i h1 jj).1).trans (hO.1 i jj h2)⟩
        · have hjl : j < dd := Nat.not_le.mp (fun u => h38 ((nI_leq (by omega) (by omega)).mpr u))
          refine xaload_n hk dL_act_41 rfl ?_
          refine xcallV hk (c_X9_pass hL hW hX2 hm2 hC (by omega)) bX9_pass kL_146 dL_act_42 rfl ⟨_, _, _, _, hL.1, rfl⟩ rfl (by decide) ⟨by omega, by omega⟩ (Nat.le_of_ble_eq_true rfl) (fun r x3 h3 => ?_)
          obtain ⟨rfl, hX3, hO3⟩ := h3
          refine xiinc (v := nI (j + 1)) hk dL_act_45 rfl (by decide) (nI_inc j) ?_
          refine xgoto hk 35 dL_act_48 (by decide) ?_
          exact xwiden (by omega) (by omega) (ih (j + 1) x3 (by omega) (by omega) hX3 ⟨fun i jj h => (hO3.1 i jj h).trans (hO.1 i jj h), hO3.2.trans hO.2⟩)
    exact xsub [(0, _), (1, _), (2, _), (3, _), (4, _), (5, _)] rfl (loop (dd + 1) 0 x (by omega) (Nat.zero_le _) hX ⟨fun _ _ _ => rfl, rfl⟩)
  have partCan : 0 < bS b → Wx k 0 0 lay a x 72 [(0, .ref (a 0)), (1, .ref (a q)), (2, .int v)] [] := by
    intro hS0
    obtain ⟨kk, hkkE⟩ : ∃ kk, kk = belowN (v >>> ((3 : Int32) &&& 31)) (bS b) := ⟨_, rfl⟩
    have hkk : kk < bS b := by rw [hkkE]; exact belowN_lt hS0
    refine xiload_n hk dL_act_72 rfl ?_
    refine xiconst (v := 3) hk dL_act_73 (by decide) ?_
    refine xishr hk dL_act_74 ?_
    refine xaload_n hk dL_act_75 rfl ?_
    refine xgetR (ci := 9) (f := 1) hk dL_act_76 ⟨rfl, by decide, _, hL.1, rfl⟩ kL_125 ?_
    refine xalenR (v := nI (bS b)) hk dL_act_79 hL.2.1 (by rw [rows_len]; rfl) ?_
    refine xcallS hk (c_L_below (n := (bS b)) (by omega) (by omega)) bL_below kL_107 dL_act_80 rfl rfl (by decide) ⟨by omega, by omega⟩ (Nat.le_of_ble_eq_true rfl) (det ?_)
    rw [← hkkE]
    refine xistore_n hk dL_act_83 (by decide) ?_
    refine xiload_n hk dL_act_84 rfl ?_
    refine xbipush (v := 6) hk dL_act_85 (by decide) ?_
    refine xishr hk dL_act_87 ?_
    refine xiconst (v := 2) hk dL_act_88 (by decide) ?_
    refine xcallS hk (c_L_below (n := 2) (by decide) (by omega)) bL_below kL_107 dL_act_89 rfl rfl (by decide) ⟨by omega, by omega⟩ (Nat.le_of_ble_eq_true rfl) (det ?_)
    refine xif_ne hk 99 dL_act_92 (by decide) (fun h92 => ?_) (fun h92 => ?_)
    · refine xiconst (v := 0) hk dL_act_99 (by decide) ?_
      refine xistore hk dL_act_100 (by decide) ?_
      refine xaload_n hk dL_act_102 rfl ?_
      refine xgetR (ci := 9) (f := 1) hk dL_act_103 ⟨rfl, by decide, _, hL.1, rfl⟩ kL_125 ?_
      refine xiload_n hk dL_act_106 rfl ?_
      refine xaald (j := q + 3 + kk) hk dL_act_107 hL.2.1 (rows_in hkk (by omega)) (rows_at hkk (by omega)) ?_
      refine xiconst (v := 3) hk dL_act_108 (by decide) ?_
      refine xiald hk dL_act_109 (hL.2.2.2.1 kk hkk) (show vp_in (nI 3) 4 from vp_in_nI (by decide) (by decide)) ?_
      rw [show x.1 (q + 3 + kk) (Int32.toNatClampNeg 3) = b2i (m.testBit kk) from (hX.2.1 kk hkk).2.2.2]
      refine xiload hk dL_act_110 rfl ?_
      refine xif_eq hk 119 dL_act_112 (by decide) (fun h112 => ?_) (fun h112 => ?_)
      · refine xiconst (v := 0) hk dL_act_119 (by decide) ?_
        refine xicmp_ne hk 127 dL_act_120 (by decide) (fun h120 => ?_) (fun h120 => ?_)
        · cases hbit : m.testBit kk with
          | false => rw [hbit] at h120; exact absurd rfl h120
          | true =>
            refine xiconst (v := 0) hk dL_act_127 (by decide) ?_
            refine xistore hk dL_act_128 (by decide) ?_
            refine xiload hk dL_act_130 rfl ?_
            refine xif_eq hk 153 dL_act_132 (by decide) (fun h132 => ?_) (fun h132 => ?_)
            · refine xiload hk dL_act_153 rfl ?_
              refine xif_eq hk 166 dL_act_155 (by decide) (fun h155 => ?_) (fun h155 => ?_)
              · refine xaload_n hk dL_act_166 rfl ?_
                refine xiload_n hk dL_act_167 rfl ?_
                obtain ⟨R, rfl⟩ := hI
                refine xcallVTC (q := 0) 0 (sub_LF R) (a1 := a) (by funext j; rw [Nat.zero_add]) (pul0 x) hk ht (c_X8_renewStatement hfl (q_renewX hCx hkk hbit)) bX8_renewStatement kL_155 dL_act_168 rfl ⟨_, _, _, _, rfl, rfl⟩ rfl (by decide) ⟨by omega, by omega⟩ (Nat.le_of_ble_eq_true rfl) (fun E x1 hr => ?_) (fun v x1 hr => by cases hr)
                cases hr
                refine ⟨[], ⟨153, 188, 189, 161⟩, [], "java/lang/IllegalStateException", rfl, fun _ h => absurd h List.not_mem_nil, by decide, by decide, linkA, castA, fun q9 => ?_⟩
                refine xastore hk dL_act_189 (by decide) ?_
                refine xiload hk dL_act_191 rfl ?_
                refine xif_ne hk 200 dL_act_193 (by decide) (fun h193 => ?_) (fun h193 => ?_)
                · exact absurd rfl h193
                · refine xiconst (v := 1) hk dL_act_196 (by decide) ?_
                  refine xgoto hk 201 dL_act_197 (by decide) ?_
                  refine xzret hk he dL_act_201 ⟨by omega, by omega⟩ rfl ?_
                  exact ⟨rfl, m, dy, ca, by omega, hX.s48 hq48 (fun i hi j => mix_out hi j), hCx.mix, fun i h1 h2 jj => (mix_out h1 jj).1⟩
              · exact absurd rfl h155
            · exact absurd rfl h132
        · cases hbit : m.testBit kk with
          | true => rw [hbit] at h120; exact absurd h120 (by decide)
          | false =>
            refine xiconst (v := 1) hk dL_act_123 (by decide) ?_
            refine xgoto hk 128 dL_act_124 (by decide) ?_
            refine xistore hk dL_act_128 (by decide) ?_
            refine xiload hk dL_act_130 rfl ?_
            refine xif_eq hk 153 dL_act_132 (by decide) (fun h132 => ?_) (fun h132 => ?_)
            · exact absurd h132 (by decide)
            · refine xaload_n hk dL_act_135 rfl ?_
              refine xgetR (ci := 9) (f := 1) hk dL_act_136 ⟨rfl, by decide, _, hL.1, rfl⟩ kL_125 ?_
              refine xiload_n hk dL_act_139 rfl ?_
              refine xaald (j := q + 3 + kk) hk dL_act_140 hL.2.1 (rows_in hkk (by omega)) (rows_at hkk (by omega)) ?_
              refine xiconst (v := 3) hk dL_act_141 (by decide) ?_
              refine xiload hk dL_act_142 rfl ?_
              refine xif_eq hk 151 dL_act_144 (by decide) (fun h144 => ?_) (fun h144 => ?_)
              · refine xiconst (v := 1) hk dL_act_151 (by decide) ?_
                refine xiast hk dL_act_152 (hL.2.2.2.1 kk hkk) (show vp_in (nI 3) 4 from vp_in_nI (by decide) (by decide)) ?_
                have hX2 : SimX (setI x (q + 3 + kk) 3 (b2i true)) q b (m ^^^ 2 ^ kk) dy ca := by
                  have := hX.setOn hkk (u := true)
                  rwa [setM, if_neg (by rw [hbit]; decide)] at this
                have hCx2 : Cls b m dy ca (setI x (q + 3 + kk) 3 (b2i true)) := hCx.of (fun i hi jj => ⟨setI_ne (by omega), rfl⟩)
                have hO : ∀ i, 48 ≤ i → (i < q ∨ q + 3 + bS b + bM b ≤ i) → ∀ j, (setI x (q + 3 + kk) 3 (b2i true)).1 i j = x.1 i j := fun i h1 h2 j => setI_ne (by omega)
                show Wx _ _ _ _ _ (setI x (q + 3 + kk) 3 (b2i true)) _ _ _
                generalize setI x (q + 3 + kk) 3 (b2i true) = x3 at hX2 hCx2 hO ⊢
                refine xiload hk dL_act_153 rfl ?_
                refine xif_eq hk 166 dL_act_155 (by decide) (fun h155 => ?_) (fun h155 => ?_)
                · refine xaload_n hk dL_act_166 rfl ?_
                  refine xiload_n hk dL_act_167 rfl ?_
                  refine xaskL hI hk (q_renew hCx2 hkk hbit) (fun u e => c_X8_renewStatement hfl e) bX8_renewStatement rfl kL_155 dL_act_168 rfl rfl (by decide) ⟨by omega, by omega⟩ (Nat.le_of_ble_eq_true rfl) (fun x2 hCx hS => ?_)
                  have hX4 := hX2.s48 hq48 hS
                  refine xaload_n hk dL_act_171 rfl ?_
                  refine xcallV hk (c_X9_standing hL hW hX4) bX9_standing kL_158 dL_act_172 rfl ⟨_, _, _, _, hL.1, rfl⟩ rfl (by decide) ⟨by omega, by omega⟩ (Nat.le_of_ble_eq_true rfl) (det ?_)
                  refine xicmp_ne hk 187 dL_act_175 (by decide) (fun h175 => ?_) (fun h175 => ?_)
                  · exact absurd rfl h175
                  · refine xiload hk dL_act_178 rfl ?_
                    refine xif_eq hk 187 dL_act_180 (by decide) (fun h180 => ?_) (fun h180 => ?_)
                    · exact absurd h180 (by decide)
                    · refine xiconst (v := 1) hk dL_act_183 (by decide) ?_
                      refine xgoto hk 188 dL_act_184 (by decide) ?_
                      refine xzret hk he dL_act_188 ⟨by omega, by omega⟩ rfl ?_
                      exact ⟨rfl, _, _, _, by omega, hX4, hCx, fun i h1 h2 jj => ((hS i h1 jj).1).trans (hO i h1 h2 jj)⟩
                · exact absurd rfl h155
              · exact absurd rfl h144
      · exact absurd rfl h112
    · refine xiconst (v := 1) hk dL_act_95 (by decide) ?_
      refine xgoto hk 100 dL_act_96 (by decide) ?_
      refine xistore hk dL_act_100 (by decide) ?_
      refine xaload_n hk dL_act_102 rfl ?_
      refine xgetR (ci := 9) (f := 1) hk dL_act_103 ⟨rfl, by decide, _, hL.1, rfl⟩ kL_125 ?_
      refine xiload_n hk dL_act_106 rfl ?_
      refine xaald (j := q + 3 + kk) hk dL_act_107 hL.2.1 (rows_in hkk (by omega)) (rows_at hkk (by omega)) ?_
      refine xiconst (v := 3) hk dL_act_108 (by decide) ?_
      refine xiald hk dL_act_109 (hL.2.2.2.1 kk hkk) (show vp_in (nI 3) 4 from vp_in_nI (by decide) (by decide)) ?_
      rw [show x.1 (q + 3 + kk) (Int32.toNatClampNeg 3) = b2i (m.testBit kk) from (hX.2.1 kk hkk).2.2.2]
      refine xiload hk dL_act_110 rfl ?_
      refine xif_eq hk 119 dL_act_112 (by decide) (fun h112 => ?_) (fun h112 => ?_)
      · exact absurd h112 (by decide)
      · refine xiconst (v := 1) hk dL_act_115 (by decide) ?_
        refine xgoto hk 120 dL_act_116 (by decide) ?_
        refine xicmp_ne hk 127 dL_act_120 (by decide) (fun h120 => ?_) (fun h120 => ?_)
        · cases hbit : m.testBit kk with
          | true => rw [hbit] at h120; exact absurd rfl h120
          | false =>
            refine xiconst (v := 0) hk dL_act_127 (by decide) ?_
            refine xistore hk dL_act_128 (by decide) ?_
            refine xiload hk dL_act_130 rfl ?_
            refine xif_eq hk 153 dL_act_132 (by decide) (fun h132 => ?_) (fun h132 => ?_)
            · refine xiload hk dL_act_153 rfl ?_
              refine xif_eq hk 166 dL_act_155 (by decide) (fun h155 => ?_) (fun h155 => ?_)
              · exact absurd h155 (by decide)
              · refine xaload_n hk dL_act_158 rfl ?_
                refine xiload_n hk dL_act_159 rfl ?_
                obtain ⟨R, rfl⟩ := hI
                refine xcallVTC (q := 0) 0 (sub_LF R) (a1 := a) (by funext j; rw [Nat.zero_add]) (pul0 x) hk ht (c_X8_breakStatement hfl (q_breakX hCx hkk hbit)) bX8_breakStatement kL_152 dL_act_160 rfl ⟨_, _, _, _, rfl, rfl⟩ rfl (by decide) ⟨by omega, by omega⟩ (Nat.le_of_ble_eq_true rfl) (fun E x1 hr => ?_) (fun v x1 hr => by cases hr)
                cases hr
                refine ⟨[], ⟨153, 188, 189, 161⟩, [], "java/lang/IllegalStateException", rfl, fun _ h => absurd h List.not_mem_nil, by decide, by decide, linkA, castA, fun q9 => ?_⟩
                refine xastore hk dL_act_189 (by decide) ?_
                refine xiload hk dL_act_191 rfl ?_
                refine xif_ne hk 200 dL_act_193 (by decide) (fun h193 => ?_) (fun h193 => ?_)
                · exact absurd rfl h193
                · refine xiconst (v := 1) hk dL_act_196 (by decide) ?_
                  refine xgoto hk 201 dL_act_197 (by decide) ?_
                  refine xzret hk he dL_act_201 ⟨by omega, by omega⟩ rfl ?_
                  exact ⟨rfl, m, dy, ca, by omega, hX.s48 hq48 (fun i hi j => mix_out hi j), hCx.mix, fun i h1 h2 jj => (mix_out h1 jj).1⟩
            · exact absurd rfl h132
        · cases hbit : m.testBit kk with
          | false => rw [hbit] at h120; exact absurd h120 (by decide)
          | true =>
            refine xiconst (v := 1) hk dL_act_123 (by decide) ?_
            refine xgoto hk 128 dL_act_124 (by decide) ?_
            refine xistore hk dL_act_128 (by decide) ?_
            refine xiload hk dL_act_130 rfl ?_
            refine xif_eq hk 153 dL_act_132 (by decide) (fun h132 => ?_) (fun h132 => ?_)
            · exact absurd h132 (by decide)
            · refine xaload_n hk dL_act_135 rfl ?_
              refine xgetR (ci := 9) (f := 1) hk dL_act_136 ⟨rfl, by decide, _, hL.1, rfl⟩ kL_125 ?_
              refine xiload_n hk dL_act_139 rfl ?_
              refine xaald (j := q + 3 + kk) hk dL_act_140 hL.2.1 (rows_in hkk (by omega)) (rows_at hkk (by omega)) ?_
              refine xiconst (v := 3) hk dL_act_141 (by decide) ?_
              refine xiload hk dL_act_142 rfl ?_
              refine xif_eq hk 151 dL_act_144 (by decide) (fun h144 => ?_) (fun h144 => ?_)
              · exact absurd h144 (by decide)
              · refine xiconst (v := 0) hk dL_act_147 (by decide) ?_
                refine xgoto hk 152 dL_act_148 (by decide) ?_
                refine xiast hk dL_act_152 (hL.2.2.2.1 kk hkk) (show vp_in (nI 3) 4 from vp_in_nI (by decide) (by decide)) ?_
                have hX2 : SimX (setI x (q + 3 + kk) 3 (b2i false)) q b (m ^^^ 2 ^ kk) dy ca := by
                  have := hX.setOn hkk (u := false)
                  rwa [setM, if_neg (by rw [hbit]; decide)] at this
                have hCx2 : Cls b m dy ca (setI x (q + 3 + kk) 3 (b2i false)) := hCx.of (fun i hi jj => ⟨setI_ne (by omega), rfl⟩)
                have hO : ∀ i, 48 ≤ i → (i < q ∨ q + 3 + bS b + bM b ≤ i) → ∀ j, (setI x (q + 3 + kk) 3 (b2i false)).1 i j = x.1 i j := fun i h1 h2 j => setI_ne (by omega)
                show Wx _ _ _ _ _ (setI x (q + 3 + kk) 3 (b2i false)) _ _ _
                generalize setI x (q + 3 + kk) 3 (b2i false) = x3 at hX2 hCx2 hO ⊢
                refine xiload hk dL_act_153 rfl ?_
                refine xif_eq hk 166 dL_act_155 (by decide) (fun h155 => ?_) (fun h155 => ?_)
                · exact absurd h155 (by decide)
                · refine xaload_n hk dL_act_158 rfl ?_
                  refine xiload_n hk dL_act_159 rfl ?_
                  refine xaskL hI hk (q_break hCx2 hkk hbit) (fun u e => c_X8_breakStatement hfl e) bX8_breakStatement rfl kL_152 dL_act_160 rfl rfl (by decide) ⟨by omega, by omega⟩ (Nat.le_of_ble_eq_true rfl) (fun x2 hCx hS => ?_)
                  have hX4 := hX2.s48 hq48 hS
                  refine xgoto hk 171 dL_act_163 (by decide) ?_
                  refine xaload_n hk dL_act_171 rfl ?_
                  refine xcallV hk (c_X9_standing hL hW hX4) bX9_standing kL_158 dL_act_172 rfl ⟨_, _, _, _, hL.1, rfl⟩ rfl (by decide) ⟨by omega, by omega⟩ (Nat.le_of_ble_eq_true rfl) (det ?_)
                  refine xicmp_ne hk 187 dL_act_175 (by decide) (fun h175 => ?_) (fun h175 => ?_)
                  · exact absurd rfl h175
                  · refine xiload hk dL_act_178 rfl ?_
                    refine xif_eq hk 187 dL_act_180 (by decide) (fun h180 => ?_) (fun h180 => ?_)
                    · exact absurd h180 (by decide)
                    · refine xiconst (v := 1) hk dL_act_183 (by decide) ?_
                      refine xgoto hk 188 dL_act_184 (by decide) ?_
                      refine xzret hk he dL_act_188 ⟨by omega, by omega⟩ rfl ?_
                      exact ⟨rfl, _, _, _, by omega, hX4, hCx, fun i h1 h2 jj => ((hS i h1 jj).1).trans (hO i h1 h2 jj)⟩
  refine xaload_n hk dL_act_0 rfl ?_
  refine xgetR (ci := 9) (f := 1) hk dL_act_1 ⟨rfl, by decide, _, hL.1, rfl⟩ kL_125 ?_
  refine xalenR (v := nI (bS b)) hk dL_act_4 hL.2.1 (by rw [rows_len]; rfl) ?_
  refine xif_eq hk 16 dL_act_5 (by decide) (fun h5 => ?_) (fun h5 => ?_)
  · exact xsub [(0, _), (1, _), (2, _)] rfl partDays
  · refine xiload_n hk dL_act_8 rfl ?_
    refine xiconst (v := 3) hk dL_act_9 (by decide) ?_
    refine xcallS hk (c_L_below (n := 3) (by decide) (by omega)) bL_below kL_107 dL_act_10 rfl rfl (by decide) ⟨by omega, by omega⟩ (Nat.le_of_ble_eq_true rfl) (det ?_)
    refine xif_ne hk 72 dL_act_13 (by decide) (fun h13 => ?_) (fun h13 => ?_)
    · exact partCan (by
        have : ¬ bS b = 0 := fun e => h5 (by rw [e]; rfl)
        omega)
    · exact xsub [(0, _), (1, _), (2, _)] rfl partDays
