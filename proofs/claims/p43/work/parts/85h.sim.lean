theorem bL_below : CBs yL_below cL_below 2 (some .int) 2 := ⟨⟨gw_mem 936 (by decide +kernel) (by decide +kernel), gw_mem 0 (by decide +kernel) (by decide +kernel), by decide +kernel, by decide⟩, gw_mem 935 (by decide +kernel) (by decide +kernel)⟩
theorem kL_7 : Cond.constant RL 7 (2147483647) ∈ GW := gw_mem 937 (by decide +kernel) (by decide +kernel)
theorem bL_cell : CBs yL_cell cL_cell 2 (some .int) 2 := ⟨⟨gw_mem 940 (by decide +kernel) (by decide +kernel), gw_mem 0 (by decide +kernel) (by decide +kernel), by decide +kernel, by decide⟩, gw_mem 939 (by decide +kernel) (by decide +kernel)⟩
theorem kL_8 : Cond.constant RL 8 (790386105) ∈ GW := gw_mem 941 (by decide +kernel) (by decide +kernel)
theorem kX9_1 : Cond.methodLink RX9 1 Lib.objectInit ∈ GW := gw_mem 1141 (by decide +kernel) (by decide +kernel)
theorem bX9_with : CBs yX9_with cX9_with 4 (some (.array (.array .int))) 2 := ⟨⟨gw_mem 1396 (by decide +kernel) (by decide +kernel), gw_mem 5 (by decide +kernel) (by decide +kernel), by decide +kernel, by decide⟩, gw_mem 1395 (by decide +kernel) (by decide +kernel)⟩
/-! numbers that cells choose -/
theorem and31 (v : Int32) : v &&& 2147483647 = nI (v.toBitVec.toNat % 2 ^ 31) := by
  have h : (v &&& 2147483647).toBitVec.toNat = (nI (v.toBitVec.toNat % 2 ^ 31)).toBitVec.toNat := by
    rw [Int32.toBitVec_and, BitVec.toNat_and, nI_bv _ (by have := Nat.mod_lt v.toBitVec.toNat (show 0 < 2 ^ 31 by decide); omega)]
    exact Nat.and_two_pow_sub_one_eq_mod _ 31
  exact Int32.toBitVec_inj.mp (BitVec.eq_of_toNat_eq h)
def belowN (v : Int32) (n : Nat) : Nat := v.toBitVec.toNat % 2 ^ 31 % n
theorem belowN_lt {v : Int32} {n : Nat} (h : 0 < n) : belowN v n < n := Nat.mod_lt _ h
def cellV (N : Nat) (s : Nat → Int32) (k : Nat) : Int32 := if k < N then s k else 790386105 * (nI k + 3)
set_option maxHeartbeats 4000000 in
set_option maxRecDepth 100000 in
theorem c_L_below {g : Gx} {a : Nat → Nat} {x : XS} {lay : List Kd} {v : Int32} {n : Nat} (h0 : 0 < n) (hn : n < 2 ^ 31) : Mx g yL_below cL_below 2 (some .int) 1 0 0 lay a x [.int v, .int (nI n)] (pr (some (.int (nI (belowN v n)))) x) := by
  refine Mx_of (by decide +kernel) (Nat.le_of_ble_eq_true rfl) ?_
  intro k hk he hg
  subst hg
  have hm := Nat.mod_lt v.toBitVec.toNat (show 0 < 2 ^ 31 by decide)
  refine xiload_n hk dL_below_0 rfl ?_
  refine xldc hk (2147483647) dL_below_1 kL_7 ?_
  refine xiand hk dL_below_3 ?_
  rw [and31]
  refine xiload_n hk dL_below_4 rfl ?_
  refine xirem hk dL_below_5 (fun z => by have := (nI_inj (b := 0) hn (by decide)).mp z; omega) ?_
  rw [rem_nI hm hn h0]
  refine xiret hk he dL_below_6 ⟨by decide, by decide⟩ ?_
  exact ⟨rfl, rfl⟩
def scN (g : Gx) : Nat := g.2.2.2.2 4
def scV (g : Gx) (j : Nat) : Int32 := Int32.ofNat (g.2.2.2.2 (200 + j))
section WSC
variable {k : Kx} {cc : ByteArray} {nL rk mc ms pc cells slots : Nat} {own nm : String} {ret : Option FieldType} {lay : List Kd} {a : Nat → Nat} {x : XS} {L : List (Nat × Value)} {stk : List Value}
theorem xscLen (hk : Fok k cc nL own ret nm rk mc ms) (d : decode cc pc = .ok (.arraylength, 1)) (kk : Wx k cells slots lay a x (pc + 1) L (.int (nI (scN (kg k))) :: stk)) : Wx k cells slots lay a x pc L (.ref (sa k 3) :: stk) := by
  rcases k with ⟨p, e, s, m, args, below, meth, c, Q, A, R, g⟩
  obtain ⟨hx, hb, hml, hown, hts, hr, hlk, hK, hA, hA0, hR, hSg, hnm, hb0⟩ := hk
  intro H locs ls hP hD hS hl
  exact va_tlen hx hb (hSg.2.2.2.2.2.narrow hA0) hS rfl d (kk H locs ls hP hD hS hl)
theorem xscGet (hk : Fok k cc nL own ret nm rk mc ms) {j : Int32} (d : decode cc pc = .ok (.iaload, 1)) (hj : vp_in j (scN (kg k))) (kk : Wx k cells slots lay a x (pc + 1) L (.int (scV (kg k) j.toNatClampNeg) :: stk)) : Wx k cells slots lay a x pc L (.int j :: .ref (sa k 3) :: stk) := by
  rcases k with ⟨p, e, s, m, args, below, meth, c, Q, A, R, g⟩
  obtain ⟨hx, hb, hml, hown, hts, hr, hlk, hK, hA, hA0, hR, hSg, hnm, hb0⟩ := hk
  intro H locs ls hP hD hS hl
  exact va_ti hx hb (hSg.2.2.2.2.2.narrow hA0) hS hj rfl d (kk H locs ls hP hD hS hl)
end WSC
set_option maxHeartbeats 4000000 in
set_option maxRecDepth 100000 in
theorem c_L_cell {g : Gx} {a : Nat → Nat} {x : XS} {lay : List Kd} {k : Nat} (hN0 : scN g < 2 ^ 20) (hk2 : k < 2 ^ 20) : Mx g yL_cell cL_cell 2 (some .int) 1 0 0 lay a x [.ref (g.2.2.2.2 3), .int (nI k)] (pr (some (.int (cellV (scN g) (scV g) k))) x) := by
  refine Mx_of (by decide +kernel) (Nat.le_of_ble_eq_true rfl) ?_
  intro kx hk he hg
  subst hg
  obtain ⟨N, hNE⟩ : ∃ N, N = scN (kg kx) := ⟨_, rfl⟩
  have hN : N < 2 ^ 20 := by rw [hNE]; exact hN0
  rw [← hNE] at he
  refine xiload_n hk dL_cell_0 rfl ?_
  refine xaload_n hk dL_cell_1 rfl ?_
  refine xscLen hk dL_cell_2 ?_
  rw [← hNE]
  refine xicmp_ge hk 12 dL_cell_3 (by decide) (fun h3 => ?_) (fun h3 => ?_)
  · have hge : N ≤ k := (nI_leq (by omega) (by omega)).mp h3
    refine xldc hk (790386105) dL_cell_12 kL_8 ?_
    refine xiload_n hk dL_cell_14 rfl ?_
    refine xiconst (v := 3) hk dL_cell_15 (by decide) ?_
    refine xiadd hk dL_cell_16 ?_
    refine ximul hk dL_cell_17 ?_
    refine xiret hk he dL_cell_18 ⟨by decide, by decide⟩ ?_
    exact ⟨by rw [cellV]; first | (rw [if_pos hlt]; done) | (rw [if_neg (by omega)]; done) | (rw [if_neg (by omega)]; rfl), rfl⟩
  · have hlt : k < N := Nat.not_le.mp (fun z => h3 ((nI_leq (by omega) (by omega)).mpr z))
    refine xaload_n hk dL_cell_6 rfl ?_
    refine xiload_n hk dL_cell_7 rfl ?_
    refine xscGet hk dL_cell_8 (by rw [← hNE]; exact vp_in_nI hlt (by omega)) ?_
    rw [nI_clamp (by omega)]
    refine xgoto hk 18 dL_cell_9 (by decide) ?_
    refine xiret hk he dL_cell_18 ⟨by decide, by decide⟩ ?_
    exact ⟨by rw [cellV]; first | (rw [if_pos hlt]; done) | (rw [if_neg (by omega)]; done) | (rw [if_neg (by omega)]; rfl), rfl⟩
set_option maxHeartbeats 4000000 in
set_option maxRecDepth 100000 in
theorem c_isLatin1D {g : Gx} {a : Nat → Nat} {x : XS} {lay : List Kd} {p w : Nat} {ts : List Int32} (hD : StrD lay x p w ts) : Mx g yJ0_isLatin1_aae02 cJ0_isLatin1_aae02 1 (some .boolean) 1 0 0 lay a x [.ref (a p)] (pr (some (.int 1)) x) := by
  refine Mx_of (by decide +kernel) (Nat.le_of_ble_eq_true rfl) ?_
  intro k hk he hg
  subst hg
  refine xcompact hk dJ0_isLatin1_aae02_0 kJ0_38 ?_
  refine xif_eq hk 17 dJ0_isLatin1_aae02_3 (by decide) (fun h3 => ?_) (fun h3 => ?_)
  · exact absurd h3 (by decide)
  · refine xaload_n hk dJ0_isLatin1_aae02_6 rfl ?_
    refine xgetI (ci := 10) (f := 1) hk dJ0_isLatin1_aae02_7 ⟨rfl, by decide, _, hD.1, rfl⟩ kJ0_15 ?_
    refine xif_ne hk 17 dJ0_isLatin1_aae02_10 (by decide) (fun h10 => ?_) (fun h10 => ?_)
    · exact absurd hD.2.2.1 h10
    · refine xiconst (v := 1) hk dJ0_isLatin1_aae02_13 (by decide) ?_
      refine xgoto hk 18 dJ0_isLatin1_aae02_14 (by decide) ?_
      refine xzret hk he dJ0_isLatin1_aae02_18 ⟨by decide, by decide⟩ (by first | with_reducible exact nar_b _ | rfl) ?_
      exact ⟨rfl, rfl⟩
theorem asc_c : ∀ n, n < 128 → narrow .char (.int (nI n)) = .int (nI n) ∧ ((nI n &&& 255).toUInt32 % 65536).toInt32 = nI n := by decide +kernel
theorem Asc.at {ts : List Int32} (h : Asc ts) {j : Nat} (hj : j < ts.length) : ∃ n, n < 128 ∧ ts.getD j 0 = nI n := by
  have hm : ts.getD j 0 ∈ ts := by rw [List.getD, List.getElem?_eq_getElem hj]; exact List.getElem_mem hj
  obtain ⟨n, hn, e⟩ := h _ hm
  exact ⟨n, hn, e⟩
set_option maxHeartbeats 4000000 in
set_option maxRecDepth 100000 in
theorem c_l1_charAtD {g : Gx} {a : Nat → Nat} {x : XS} {lay : List Kd} {p w : Nat} {ts : List Int32} {j : Nat} (hD : StrD lay x p w ts) (hA : Asc ts) (hj : j < ts.length) (hl : ts.length < 2 ^ 20) : Mx g yJ1_charAt_3b067 cJ1_charAt_3b067 2 (some .char) 3 0 0 lay a x [.ref (a w), .int (nI j)] (pr (some (.int (ts.getD j 0))) x) := by
  refine Mx_of (by decide +kernel) (Nat.le_of_ble_eq_true rfl) ?_
  intro k hk he hg
  subst hg
  obtain ⟨n, hn, e⟩ := hA.at hj
  refine xiload_n hk dJ1_charAt_3b067_0 rfl ?_
  refine xaload_n hk dJ1_charAt_3b067_1 rfl ?_
  refine xalen (v := nI ts.length) hk dJ1_charAt_3b067_2 hD.2.1 (by decide) rfl ?_
  refine xcallS hk (c_checkIndex (nI_pos (by omega)) ((nI_ltI (by omega) (by omega)).mpr hj)) bJ0_checkIndex_df160 kJ1_9 dJ1_charAt_3b067_3 rfl rfl (by decide) ⟨by decide, by decide⟩ (Nat.le_of_ble_eq_true rfl) (det ?_)
  refine xaload_n hk dJ1_charAt_3b067_6 rfl ?_
  refine xiload_n hk dJ1_charAt_3b067_7 rfl ?_
  refine xbald hk dJ1_charAt_3b067_8 hD.2.1 (vp_in_nI hj (by omega)) ?_
  rw [nI_clamp (by omega), hD.2.2.2 j hj, e]
  refine xsipush (v := 255) hk dJ1_charAt_3b067_9 (by decide) ?_
  refine xiand hk dJ1_charAt_3b067_12 ?_
  refine xi2c hk dJ1_charAt_3b067_13 ?_
  rw [(asc_c n hn).2]
  refine xnret hk he dJ1_charAt_3b067_14 ⟨by decide, by decide⟩ (asc_c n hn).1 ?_
  exact ⟨by rw [e], rfl⟩
set_option maxHeartbeats 4000000 in
set_option maxRecDepth 100000 in
theorem c_charAtD {g : Gx} {a : Nat → Nat} {x : XS} {lay : List Kd} {p w : Nat} {ts : List Int32} {j : Nat} (hD : StrD lay x p w ts) (hA : Asc ts) (hj : j < ts.length) (hl : ts.length < 2 ^ 20) : Mx g yJ0_charAt_5068e cJ0_charAt_5068e 2 (some .char) 4 0 0 lay a x [.ref (a p), .int (nI j)] (pr (some (.int (ts.getD j 0))) x) := by
  refine Mx_of (by decide +kernel) (Nat.le_of_ble_eq_true rfl) ?_
  intro k hk he hg
  subst hg
  obtain ⟨n, hn, e⟩ := hA.at hj
  refine xaload_n hk dJ0_charAt_5068e_0 rfl ?_
  refine xcallV hk (c_isLatin1D hD) bJ0_isLatin1_aae02 kJ0_492 dJ0_charAt_5068e_1 rfl ⟨_, _, _, _, hD.1, rfl⟩ rfl (by decide) ⟨by decide, by decide⟩ (Nat.le_of_ble_eq_true rfl) (det ?_)
  refine xif_eq hk 16 dJ0_charAt_5068e_4 (by decide) (fun h4 => ?_) (fun h4 => ?_)
  · exact absurd h4 (by decide)
  · refine xaload_n hk dJ0_charAt_5068e_7 rfl ?_
    refine xgetR (ci := 10) (f := 0) hk dJ0_charAt_5068e_8 ⟨rfl, by decide, _, hD.1, rfl⟩ kJ0_9 ?_
    refine xiload_n hk dJ0_charAt_5068e_11 rfl ?_
    refine xcallS hk (c_l1_charAtD hD hA hj hl) bJ1_charAt_3b067 kJ0_495 dJ0_charAt_5068e_12 rfl rfl (by decide) ⟨by decide, by decide⟩ (Nat.le_of_ble_eq_true rfl) (det ?_)
    refine xnret hk he dJ0_charAt_5068e_15 ⟨by decide, by decide⟩ (by rw [e]; exact (asc_c n hn).1) ?_
    exact ⟨rfl, rfl⟩
theorem x9_init : CBx yX9_init cX9_init 1 none 0 := ⟨gw_mem 1140 (by decide +kernel) (by decide +kernel), gw_mem 5 (by decide +kernel) (by decide +kernel), by decide +kernel, by decide⟩
theorem x9_inst : Cond.instanceMethod yX9_init ∈ GW := gw_mem 1139 (by decide +kernel) (by decide +kernel)
def NsE (lay : List Kd) (q : Nat) (a : Nat → Nat) (x : XS) : Option Value → List Kd → (Nat → Nat) → XS → Prop := fun r lay' a' x' => r = none ∧ lay' = (lay ++ [(.inl (103, []) : Kd), .inl (103, [])]).set q (.inl (9, [0, lay.length + 3, lay.length + 4, 0, 0])) ∧ (∀ j, j < lay.length → a' j = a j) ∧ x' = x
set_option maxHeartbeats 4000000 in
set_option maxRecDepth 100000 in
theorem c_X9_init {g : Gx} {a : Nat → Nat} {x : XS} {lay : List Kd} {q : Nat} (hC : Cl lay) (hq : lay[q]? = some (.inl (9, [0, 2, 2, 0, 0]))) : Mz g yX9_init cX9_init 1 none 1 2 0 lay a x [.ref (a q)] (NsE lay q a x) := by
  refine Mz_of (by decide +kernel) (Nat.le_of_ble_eq_true rfl) ?_
  intro k hk he hg
  subst hg
  have hql := at_lt hq
  have hw9 := kX9_9
  have hw15 := kX9_15
  refine xaload_n hk dX9_init_0 rfl ?_
  refine xobjInit hk dX9_init_1 kX9_1 (by decide) (Nat.le_of_ble_eq_true rfl) ?_
  refine xaload_n hk dX9_init_4 rfl ?_
  refine xiconst (v := 0) hk dX9_init_5 (by decide) ?_
  refine xanew (N := 0) hk dX9_init_6 (by decide) (by decide) (by decide) (by decide) (by decide) (okR_new hC) (fun a1 ha1 => ?_)
  rw [← ha1 q (Nat.ne_of_lt hql)]
  refine xputK (ci := 9) (f := 1) (j := lay.length) hk dX9_init_9 rfl (by decide) (app_o hq) (by decide) hw9 rfl (tyX9_ok 1 (by decide)) (fun _ => ⟨rfl, rfl⟩) ?_
  have hC1 : Cl ((lay ++ [(.inl (103, List.replicate 0 2) : Kd)]).set q (.inl (9, [0, 2, 2, 0, 0].set 1 (lay.length + 3)))) := Cl.set (hC.app (fun o e t ht => by
    have e2 : o = (103, List.replicate 0 2) := (Sum.inl.inj e).symm
    rw [e2] at ht; cases ht)) (fun o e t ht h3 => by
    have e2 := (Sum.inl.inj e).symm
    rw [e2] at ht
    rw [List.length_append, List.length_singleton]
    simp at ht
    omega)
  have hlen : ((lay ++ [(.inl (103, List.replicate 0 2) : Kd)]).set q (.inl (9, [0, 2, 2, 0, 0].set 1 (lay.length + 3)))).length = lay.length + 1 := by rw [List.length_set, List.length_append, List.length_singleton]
  refine xaload_n hk dX9_init_12 rfl ?_
  refine xiconst (v := 0) hk dX9_init_13 (by decide) ?_
  refine xanew (N := 0) hk dX9_init_14 (by decide) (by decide) (by decide) (by decide) (by decide) (okR_new hC1) (fun a2 ha2 => ?_)
  rw [hlen] at ha2 ⊢
  rw [← ha2 q (by omega)]
  refine xputK (ci := 9) (f := 2) (j := lay.length + 1) hk dX9_init_17 rfl (by decide) (app_o (List.getElem?_set_self (by rw [List.length_append]; omega))) (by show 2 < 5; decide) hw15 rfl (tyX9_ok 2 (by decide)) (fun _ => ⟨rfl, rfl⟩) ?_
  refine xvretZ hk he dX9_init_20 ⟨by decide, by decide⟩ ?_
  refine ⟨rfl, ?_, fun j hj => ?_, rfl⟩
  · rw [List.set_append_left _ _ (by rw [List.length_set, List.length_append]; omega), List.set_set, List.set_append_left _ _ hql, List.set_append_left _ _ hql, List.append_assoc]
    rfl
  · rw [ha2 j (by omega)]; exact ha1 j (Nat.ne_of_lt hj)
def WiE (lay : List Kd) (a : Nat → Nat) (x : XS) (ft : List Nat) (w : Nat) : Option Value → List Kd → (Nat → Nat) → XS → Prop := fun r lay' a' x' =>
  r = some (.ref (a' lay.length)) ∧ lay' = lay ++ [.inl (103, ft ++ [w + 3])] ∧ (∀ j, j < lay.length → a' j = a j) ∧ x' = x
theorem wi_set {lay : List Kd} {ft : List Nat} {j t : Nat} (hj : j < ft.length) (ht : ft[j]? = some t) : (lay ++ [(.inl (103, ft.take j ++ List.replicate (ft.length + 1 - j) 2) : Kd)]).set lay.length (.inl (103, (ft.take j ++ List.replicate (ft.length + 1 - j) 2).set j t)) = lay ++ [.inl (103, ft.take (j + 1) ++ List.replicate (ft.length + 1 - (j + 1)) 2)] := by
  have e : (ft.take j ++ List.replicate (ft.length + 1 - j) 2).set j t = ft.take (j + 1) ++ List.replicate (ft.length + 1 - (j + 1)) 2 := by
    rw [List.set_append_right _ _ (by rw [List.length_take]; omega), List.length_take, Nat.min_eq_left (by omega), Nat.sub_self, show ft.length + 1 - j = (ft.length + 1 - (j + 1)) + 1 by omega, List.replicate_succ, List.take_add_one, ht]
    simp
  rw [e, List.set_append_right _ _ (Nat.le_refl _), Nat.sub_self]
  rfl
theorem wi_end {lay : List Kd} {ft : List Nat} {t : Nat} : (lay ++ [(.inl (103, ft.take ft.length ++ List.replicate (ft.length + 1 - ft.length) 2) : Kd)]).set lay.length (.inl (103, (ft.take ft.length ++ List.replicate (ft.length + 1 - ft.length) 2).set ft.length t)) = lay ++ [.inl (103, ft ++ [t])] := by
  have e : (ft.take ft.length ++ List.replicate (ft.length + 1 - ft.length) 2).set ft.length t = ft ++ [t] := by
    rw [List.take_length, List.set_append_right _ _ (Nat.le_refl _), Nat.sub_self, Nat.add_sub_cancel_left]
    rfl
  rw [e, List.set_append_right _ _ (Nat.le_refl _), Nat.sub_self]
  rfl
set_option maxHeartbeats 4000000 in
set_option maxRecDepth 100000 in
theorem c_X9_with {g : Gx} {a : Nat → Nat} {x : XS} {lay : List Kd} {r w n : Nat} {ft : List Nat} (hC : Cl lay) (hr : lay[r]? = some (.inl (103, ft))) (hw : lay[w]? = some (.inr (0, n))) (hft : ∀ i, i < ft.length → ∃ j n, ft[i]? = some (j + 3) ∧ lay[j]? = some (.inr (0, n))) (hl : ft.length < 100) : Mz g yX9_with cX9_with 4 (some (.array (.array .int))) 1 1 100 lay a x [.ref (a r), .ref (a w)] (WiE lay a x ft w) := by
  refine Mz_of (by decide +kernel) (Nat.le_of_ble_eq_true rfl) ?_
  intro k hk he hg
  subst hg
  have hrl := at_lt hr
  have hwl := at_lt hw
  refine xaload_n hk dX9_with_0 rfl ?_
  refine xalenR (v := nI ft.length) hk dX9_with_1 hr rfl ?_
  refine xiconst (v := 1) hk dX9_with_2 (by decide) ?_
  refine xiadd hk dX9_with_3 ?_
  rw [nI_1]
  refine xanew (N := ft.length + 1) hk dX9_with_4 (nI_pos (by omega)) (nI_clamp (by omega)) (by omega) (by omega) (by omega) (okR_new hC) (fun a1 ha1 => ?_)
  rw [← ha1 r (Nat.ne_of_lt hrl), ← ha1 w (Nat.ne_of_lt hwl)]
  refine xastore_n hk dX9_with_7 (by decide) ?_
  refine xiconst (v := 0) hk dX9_with_8 (by decide) ?_
  refine xistore_n hk dX9_with_9 (by decide) ?_
  have loop : ∀ (z j : Nat), ft.length - j < z → j ≤ ft.length → Wx k (0 + 1) (0 + (ft.length + 1)) (lay ++ [.inl (103, ft.take j ++ List.replicate (ft.length + 1 - j) 2)]) a1 x 10 [(0, .ref (a1 r)), (1, .ref (a1 w)), (2, .ref (a1 lay.length)), (3, .int (nI j))] [] := by
    intro z
    induction z with
    | zero => intro j h; omega
    | succ z ih =>
      intro j hz hj
      refine xiload_n hk dX9_with_10 rfl ?_
      refine xaload_n hk dX9_with_11 rfl ?_
      refine xalenR (v := nI ft.length) hk dX9_with_12 (app_o hr) rfl ?_
      refine xicmp_ge hk 28 dX9_with_13 (by decide) (fun h13 => ?_) (fun h13 => ?_)
      · have hje : j = ft.length := Nat.le_antisymm hj ((nI_leq (by omega) (by omega)).mp h13)
        subst hje
        refine xaload_n hk dX9_with_28 rfl ?_
        refine xaload_n hk dX9_with_29 rfl ?_
        refine xalenR (v := nI ft.length) hk dX9_with_30 (app_o hr) rfl ?_
        refine xaload_n hk dX9_with_31 rfl ?_
        refine xaast hk dX9_with_32 app_n (app_o hw) (vp_in_nI (by simp) (by simp; omega)) ?_
        rw [nI_clamp (by omega), wi_end]
        refine xaload_n hk dX9_with_33 rfl ?_
        refine xaretZ hk he dX9_with_34 (Or.inr ⟨_, rfl⟩) ⟨by omega, by omega⟩ ?_
        exact ⟨rfl, rfl, fun i hi => ha1 i (Nat.ne_of_lt hi), rfl⟩
      · have hjl : j < ft.length := Nat.not_le.mp (fun q => h13 ((nI_leq (by omega) (by omega)).mpr q))
        obtain ⟨e, n2, he1, he2⟩ := hft j hjl
        refine xaload_n hk dX9_with_16 rfl ?_
        refine xiload_n hk dX9_with_17 rfl ?_
        refine xaload_n hk dX9_with_18 rfl ?_
        refine xiload_n hk dX9_with_19 rfl ?_
        refine xaald (j := e) hk dX9_with_20 (app_o hr) (vp_in_nI hjl (by omega)) (by rw [nI_clamp (by omega)]; exact he1) ?_
        refine xaast hk dX9_with_21 app_n (app_o he2) (vp_in_nI (by simp; omega) (by simp; omega)) ?_
        rw [nI_clamp (by omega), wi_set hjl he1]
        refine xiinc (v := nI (j + 1)) hk dX9_with_22 rfl (by decide) (nI_inc j) ?_
        refine xgoto hk 10 dX9_with_25 (by decide) ?_
        exact ih (j + 1) (by omega) (by omega)
  exact xlay (by simp) (loop (ft.length + 1) 0 (by omega) (Nat.zero_le _))
theorem at_lt2 {ft : List Nat} {f t : Nat} (h : ft[f]? = some t) : f < ft.length := (List.getElem?_eq_some_iff.mp h).1
theorem cell_R {T : Nat → ClassId} {a a' : Nat → Nat} {x x' : XS} {i i' : Nat} {ft : List Nat} (h : ∀ t ∈ ft, 3 ≤ t → a' (t - 3) = a (t - 3)) : cellOf T a' x' i' (.inl (103, ft)) = cellOf T a x i (.inl (103, ft)) := by
  have h1 := cell_a (T := T) (a := a) (a' := a') (x := x') (i := i') (kd := .inl (103, ft)) (fun o t ho ht h3 => by
    have e := (Sum.inl.inj ho).symm
    rw [e] at ht
    exact h t ht h3)
  rw [h1]
  simp [cellOf]
theorem xmove {k : Kx} {pc cells slots : Nat} {lay : List Kd} {L : List (Nat × Value)} {stk : List Value} {q v ci f : Nat} {b : Nat → Nat} {y : XS} {ft ft2 : List Nat} {kdv : Kd} (hci : ci < 100) (hO : Own lay q v) (hq : lay[q]? = some (.inl (ci, ft))) (hf : ft[f]? = some (v + 3)) (hfo : ∀ i, i ≠ f → ft[i]? ≠ some (v + 3)) (hv : lay[v]? = some kdv) (hqv : q ≠ v) (h2 : ∀ t ∈ ft2, t ≠ v + 3) (kk : Wx k cells slots (lay.set v (.inl (103, ft2))) (grA lay.length v b) (grX lay.length v y) pc L stk) : Wx k cells slots ((lay ++ [(.inl (103, ft2) : Kd)]).set q (.inl (ci, ft.set f (lay.length + 3)))) b y pc L stk := by
  have hql := at_lt hq
  have hvl := at_lt hv
  refine xre (fun j => if j = v then lay.length else j) (fun T i kd hi => ?_) (fun i j hi hj h => ?_) kk
  · by_cases h1 : i = v
    · subst h1
      rw [List.getElem?_set_self hvl] at hi
      cases hi
      refine ⟨by simp [grA], .inl (103, ft2), ?_, ?_⟩
      · simp only [if_pos]
        rw [List.getElem?_set_ne (by omega)]; exact app_n
      · exact cell_R (fun t ht h3 => by
          have : t - 3 ≠ i := fun e => h2 t ht (by omega)
          simp [grA, this])
    · rw [List.getElem?_set_ne (fun e => h1 e.symm)] at hi
      have hil := at_lt hi
      refine ⟨by simp [grA, h1], ?_⟩
      simp only [if_neg h1]
      by_cases h2 : i = q
      · subst h2
        rw [hq] at hi
        cases hi
        refine ⟨.inl (ci, ft.set f (lay.length + 3)), by rw [List.getElem?_set_self (by rw [List.length_append]; omega)], ?_⟩
        rw [cell_o hci, cell_o hci, ← flist_setK (at_lt2 hf)]
        refine congrArg (fun z => (Sum.inr (ci, z) : va_E)) ?_
        apply List.ext_getElem?
        intro j
        by_cases hj : j = f
        · subst hj
          rw [List.getElem?_set_self (by rw [flist_len]; exact at_lt2 hf), flist_get hf]
          simp [fval, grA]
        · rw [List.getElem?_set_ne (fun e => hj e.symm)]
          by_cases hjl : j < ft.length
          · have hg := List.getElem?_eq_getElem hjl
            have hn : ft[j] ≠ v + 3 := fun e => hfo j hj (by rw [hg, e])
            rw [flist_get hg, flist_get hg]
            congr 1
            generalize ft[j] = t at hn
            match t, hn with
            | 0, _ => simp [fval, grX, h1]
            | 1, _ => simp [fval, grX, h1]
            | 2, _ => rfl
            | t + 3, hn => simp [fval, grA, show t ≠ v by omega]
          · rw [List.getElem?_eq_none (by rw [flist_len]; omega), List.getElem?_eq_none (by rw [flist_len]; omega)]
      · refine ⟨kd, by rw [List.getElem?_set_ne (fun e => h2 e.symm)]; exact app_o hi, ?_⟩
        rw [cell_a (a := b) (a' := grA lay.length v b) (fun o t ho ht h3 => by
          subst ho
          have hn := hO i o hi h2
          have : t - 3 ≠ v := fun e => hn (by rw [← e, Nat.sub_add_cancel h3]; exact ht)
          simp [grA, this])]
        exact cell_other (fun j => by simp [grX, h1]) (fun j => by simp [grX, h1]) kd
  · rw [List.length_set] at hi hj
    by_cases h1 : i = v <;> by_cases h2 : j = v
    · omega
    · simp [h1, h2] at h; omega
    · simp [h1, h2] at h; omega
    · simpa [h1, h2] using h
