set_option maxRecDepth 1000000 in
theorem hc906 : tables_1[906]? = some (Cond.code yX9_isSame cX9_isSame 12 (some .boolean)) := rfl
theorem bX9_isSame : CBv yX9_isSame cX9_isSame 12 (some .boolean) 1 := ⟨⟨gw_mem 906 hc906 (by decide +kernel), gw_mem 5 (by decide +kernel) (by decide +kernel), by decide +kernel, by decide⟩, gw_mem 904 (by decide +kernel) (by decide +kernel), gw_mem 905 (by decide +kernel) (by decide +kernel)⟩
theorem kL_269 : Cond.methodLink RL 269 yX9_isSame ∈ GW := gw_mem 903 (by decide +kernel) (by decide +kernel)
theorem kL_174 : Cond.methodLink RL 174 yL_act ∈ GW := gw_mem 1412 (by decide +kernel) (by decide +kernel)
/-! Six rounds, and isSame -/
theorem mapK_self : ∀ kd : Kd, mapK (fun j => 0 + j) kd = kd
  | .inr z => rfl
  | .inl (c, l) => by
    show Sum.inl (c, l.map _) = _
    congr 2
    conv => rhs; rw [← List.map_id l]
    refine List.map_congr_left (fun t _ => ?_)
    by_cases h : t < 3
    · rw [if_pos h]; rfl
    · rw [if_neg h]; show 0 + (t - 3) + 3 = t; omega
theorem sub_self (lay : List Kd) : Sub 0 lay lay = true := by
  unfold Sub
  rw [List.all_eq_true]
  intro q hq
  apply decide_eq_true
  rw [Nat.zero_add]
  cases lay[q]? with
  | none => rfl
  | some kd => show some kd = some (mapK _ kd); rw [mapK_self]
theorem mix_lt {x1 x : XS} {n i : Nat} (h : i < n) (j : Nat) : (xmix 0 n x1 x).1 i j = x1.1 i j ∧ (xmix 0 n x1 x).2 i j = x1.2 i j := by
  simp [xmix, h]
set_option maxHeartbeats 4000000 in
set_option maxRecDepth 100000 in
theorem lw_rounds {k : Kx} {nm : String} {rk mc ms cells slots : Nat} {ret : Option FieldType} {lay : List Kd} {a : Nat → Nat} {x : XS} {b : Bok} {m r1 q : Nat} (hk : Fok k cL_law 21 RL ret nm rk mc ms) (hNc : NcK k) (hrk : 14 < rk) (hI : IsL lay) (hfl : (kg k).1.stackTraces = false) (hCx : Cls b m 0 0 x) (hL : SimL lay q b) (hq48 : 48 ≤ q) (hX : SimX x q b m 0 0) (hC : Cl lay) (hN : scN (kg k) < 2 ^ 20) (hmc : cells + 66000 ≤ mc ∧ slots + 410000 ≤ ms)
    (kret : ∀ (L : List (Nat × Value)) (lay' : List Kd) (a' : Nat → Nat) (x' : XS), Wx k (cells + 66000) (slots + 410000) lay' a' x' 1322 L [.int 1]) : Wx k cells slots lay a x 47 [(0, .ref (sa k 3)), (1, .ref r1), (2, .ref (a q)), (3, .ref (a 0)), (4, .int (nI (2 * bF b))), (5, .int 0)] [] := by
  have hW := hCx.bw
  have hF := hW.1
  have hlt := hL.lt
  have loop : ∀ (z tt m dy ca : Nat) (x2 : XS), 6 - tt < z → tt ≤ 6 → dy ≤ 7 * tt → Cls b m dy ca x2 → SimX x2 q b m dy ca → Wx k (cells + 10800 * tt) (slots + 66500 * tt) lay a x2 47 [(0, .ref (sa k 3)), (1, .ref r1), (2, .ref (a q)), (3, .ref (a 0)), (4, .int (nI (2 * bF b))), (5, .int (nI tt))] [] := by
    intro z
    induction z with
    | zero => intro tt m dy ca x2 h; omega
    | succ z ih =>
      intro tt m dy ca x2 hz htl hdy hCx hX
      refine xiload hk dL_law_47 rfl ?_
      refine xbipush (v := 6) hk dL_law_49 (by decide) ?_
      refine xicmp_ge hk 1317 dL_law_51 (by decide) (fun h51 => ?_) (fun h51 => ?_)
      · refine xaload_n hk dL_law_1317 rfl ?_
        refine xaload_n hk dL_law_1318 rfl ?_
        refine xcallVZ hk (q := q) (c_X9_isSame hI hL hW hq48 hX hCx hC (by omega) hfl) bX9_isSame kL_269 dL_law_1319 rfl ⟨_, _, _, _, hL.1, rfl⟩ rfl (by omega) ⟨by omega, by omega⟩ (Nat.le_of_ble_eq_true rfl) (fun r lay' a' x' hr => ?_)
        subst hr
        exact xwiden (by omega) (by omega) (kret _ lay' a' x')
      · have htt : tt < 6 := Nat.not_le.mp (fun u => h51 ((nI_leq (a := 6) (by decide) (by omega)).mpr u))
        refine xaload_n hk dL_law_54 rfl ?_
        refine xiload hk dL_law_55 rfl ?_
        refine xiconst (v := 2) hk dL_law_57 (by decide) ?_
        refine xiadd hk dL_law_58 ?_
        rw [show (2 : Int32) = nI 2 from rfl, nI_addN]
        refine xcallS hk (c_L_cell (k := tt + 2) hN (by omega)) bL_cell kL_103 dL_law_59 rfl rfl (by omega) ⟨by omega, by omega⟩ (Nat.le_of_ble_eq_true rfl) (det ?_)
        generalize cellV (scN (kg k)) (scV (kg k)) (tt + 2) = cv
        refine xiconst (v := 1) hk dL_law_62 (by decide) ?_
        refine xishr hk dL_law_63 ?_
        refine xbipush (v := 67) hk dL_law_64 (by decide) ?_
        refine xiload hk dL_law_66 rfl ?_
        refine ximul hk dL_law_68 ?_
        refine xiadd hk dL_law_69 ?_
        generalize cv >>> ((1 : Int32) &&& 31) + 67 * nI tt = v6
        refine xistore hk dL_law_70 (by decide) ?_
        refine xaload_n hk dL_law_72 rfl ?_
        refine xaload_n hk dL_law_73 rfl ?_
        refine xiload hk dL_law_74 rfl ?_
        refine xcallSWO 0 (sub_self lay) (a1 := a) (by funext j; rw [Nat.zero_add]) (pul0 x2) hk hNc (c_L_act hI hL hW hq48 hX hCx hC (by omega) hfl) bL_act kL_174 dL_law_76 rfl rfl (by omega) ⟨by omega, by omega⟩ (Nat.le_of_ble_eq_true rfl) (fun r x3 hr => ?_)
        obtain ⟨rfl, m', dy', ca', hdy', hX3, hCx3, -⟩ := hr
        have hX4 : SimX (xmix 0 lay.length x3 x2) q b m' dy' ca' := hX3.of (fun i j h1 h2 => (mix_lt (by omega) j).1)
        have hCx4 : Cls b m' dy' ca' (xmix 0 lay.length x3 x2) := hCx3.of (fun i hi j => mix_lt (by omega) j)
        generalize xmix 0 lay.length x3 x2 = x4 at hX4 hCx4 ⊢
        clear hX hCx hX3 hCx3
        refine xif_ne hk 84 dL_law_79 (by decide) (fun h79 => ?_) (fun h79 => ?_)
        · obtain ⟨v7, hdg⟩ := q_digest b m' dy' ca'
          have hCx := hCx4
          have hX := hX4
          refine xaload_n hk dL_law_84 rfl ?_
          obtain ⟨y85, e85, hCy85⟩ := hdg x4 hCx
          refine xaskPL (v := .long v7) hI hk hCy85 (c_X8_digest e85) bX8_digest rfl kL_178 dL_law_85 rfl rfl (by omega) ⟨by omega, by omega⟩ (Nat.le_of_ble_eq_true rfl) (fun x2 hCx hS => ?_)
          have hX := hX.s48 hq48 hS
          refine xlstore hk dL_law_88 (by decide) ?_
          refine xaload_n hk dL_law_90 rfl ?_
          obtain ⟨y91, e91, hCy91⟩ := q_peaces hCx
          refine xaskPL (v := (.int (nI (nP b m')))) hI hk hCy91 (c_X8_peaces e91) bX8_peaces rfl kL_182 dL_law_91 rfl rfl (by omega) ⟨by omega, by omega⟩ (Nat.le_of_ble_eq_true rfl) (fun x2 hCx hS => ?_)
          have hX := hX.s48 hq48 hS
          refine xistore hk dL_law_94 (by decide) ?_
          refine xsub [(0, _), (1, _), (2, _), (3, _), (4, _), (5, _), (6, _), (7, _), (9, _)] rfl ?_
          refine lw_claims hk (by omega) hI hfl hCx ⟨by omega, by omega⟩ (fun x5 hC5 hS5 => ?_)
          have hX := hX.s48 hq48 hS5
          refine lw_mean hk (by omega) hI hfl hC5 ⟨by omega, by omega⟩ (fun x6 hC6 hS6 => ?_)
          have hX := hX.s48 hq48 hS6
          refine lw_peace hk (by omega) hI hfl hC6 (by omega) ⟨by omega, by omega⟩ (fun x7 hC7 hS7 => ?_)
          have hX := hX.s48 hq48 hS7
          refine lw_break hk (by omega) hI hfl hC7 hdg ⟨by omega, by omega⟩ (fun x8 hC8 hS8 => ?_)
          have hX := hX.s48 hq48 hS8
          refine lw_days hk (by omega) hI hfl hC8 hL hq48 hX hC rfl (by omega) hdg ⟨by omega, by omega⟩ (fun x9 m9 dy9 ca9 hC9 hX9 hO9 hdy9 => ?_)
          refine xiinc (v := nI (tt + 1)) hk dL_law_1311 rfl (by decide) (nI_inc tt) ?_
          refine xgoto hk 47 dL_law_1314 (by decide) ?_
          refine xsub [(0, _), (1, _), (2, _), (3, _), (4, _), (5, _)] rfl ?_
          exact xwiden (by omega) (by omega) (ih (tt + 1) m9 dy9 ca9 x9 (by omega) (by omega) (by omega) hC9 hX9)
        · exact absurd h79 (by decide)
  exact loop 7 0 m 0 0 x (by omega) (Nat.zero_le _) (Nat.zero_le _) hCx hX
