theorem kX10_127 : Cond.methodLink RX10 127 yX10_follow ∈ GW := gw_mem 1634 (by decide +kernel) (by decide +kernel)
theorem bX10_follow : CBv yX10_follow cX10_follow 3 none 0 := ⟨⟨gw_mem 1637 (by decide +kernel) (by decide +kernel), gw_mem 14 (by decide +kernel) (by decide +kernel), by decide +kernel, by decide⟩, gw_mem 1636 (by decide +kernel) (by decide +kernel), gw_sel 95 (by decide +kernel) (by decide +kernel)⟩
theorem kX10_111 : Cond.methodLink RX10 111 yX10_look ∈ GW := gw_mem 1596 (by decide +kernel) (by decide +kernel)
theorem bX10_look : CBv yX10_look cX10_look 4 none 1 := ⟨⟨gw_mem 1599 (by decide +kernel) (by decide +kernel), gw_mem 14 (by decide +kernel) (by decide +kernel), by decide +kernel, by decide⟩, gw_mem 1598 (by decide +kernel) (by decide +kernel), gw_sel 91 (by decide +kernel) (by decide +kernel)⟩
theorem kX10_60 : Cond.fieldLink RX10 60 "FeudBookModel" "thrown" "I" ∈ GW := gw_mem 1191 (by decide +kernel) (by decide +kernel)
theorem kX10_66 : Cond.methodLink RX10 66 yX10_isIn ∈ GW := gw_mem 1286 (by decide +kernel) (by decide +kernel)
theorem bX10_isIn : CBs yX10_isIn cX10_isIn 3 (some .boolean) 3 := ⟨⟨gw_mem 1288 (by decide +kernel) (by decide +kernel), gw_mem 14 (by decide +kernel) (by decide +kernel), by decide +kernel, by decide⟩, gw_mem 1287 (by decide +kernel) (by decide +kernel)⟩
theorem kX10_163 : Cond.fieldLink RX10 163 "FeudBookModel" "days" "I" ∈ GW := gw_mem 1204 (by decide +kernel) (by decide +kernel)
theorem kX10_160 : Cond.fieldLink RX10 160 "FeudBookModel" "carried" "I" ∈ GW := gw_mem 1205 (by decide +kernel) (by decide +kernel)
theorem kX10_332 : Cond.fieldLinkNest RX10 332 "FeudBookModel$Plan" "its" "[I" "FeudBookModel" ∈ NW := nw_mem 1139 (by decide +kernel) rfl
def mfolG (c : Nat) (x : XS) : XS := if x.1 0 22 = x.1 0 15 then x else
  let x1 := setI x 0 22 (x.1 0 15)
  let x2 := itP (fun j y => setI y 9 j ((1 : Int32) <<< (nI j &&& 31))) c x1
  let x3 := itP mstF (x2.1 11 1).toNatClampNeg x2
  let x4 := itP (fun m => itP (mclB m) c) c x3
  let x5 := setI x4 0 23 0
  itP mcoF (2 * x5.1 11 0).toNatClampNeg x5
theorem mfol_G (x : XS) : mfol x = mfolG 20 x := rfl
theorem folG_1 {c : Nat} {x : XS} {q k : Nat} (h : q ≠ 0) (h2 : q ≠ 9) : (mfolG c x).1 q k = x.1 q k := by
  unfold mfolG
  split
  · rfl
  · simp only []
    rw [itP_1 (fun c y => by unfold mcoF; rw [rdq h]), rdq h, itP_1 (fun m y => itP_1 (fun c y => mcl_1 h2) _ _), itP_1 (fun m y => mst_1 h2), itP_1 (fun j y => rdq h2), rdq h]
theorem folG_0 {c : Nat} {x : XS} {k : Nat} (h : k ≠ 22) (h2 : k ≠ 23) : (mfolG c x).1 0 k = x.1 0 k := by
  unfold mfolG
  split
  · rfl
  · simp only []
    rw [itP_1 (fun c y => by unfold mcoF; rw [rdI, if_neg (fun z => h2 z.2)]), rdI, if_neg (fun z => h2 z.2), itP_1 (fun m y => itP_1 (fun c y => mcl_1 (by decide)) _ _), itP_1 (fun m y => mst_1 (by decide)), itP_1 (fun j y => rdq (by decide)), rdI, if_neg (fun z => h z.2)]
theorem fol_1 {x : XS} {q k : Nat} (h : q ≠ 0) (h2 : q ≠ 9) : (mfol x).1 q k = x.1 q k := by rw [mfol_G]; exact folG_1 h h2
theorem fol_0 {x : XS} {k : Nat} (h : k ≠ 22) (h2 : k ≠ 23) : (mfol x).1 0 k = x.1 0 k := by rw [mfol_G]; exact folG_0 h h2
theorem mlook_1 {b : Int32} {x : XS} {q k : Nat} (h : q ≠ 0) (h2 : q ≠ 8) : (mlook b x).1 q k = x.1 q k := by
  unfold mlook
  split
  · rfl
  · simp only []
    rw [itP_1 (fun j y => mlk_1 h h2), itP_1 (fun j y => rdq h2), rdq h, rdq h, rdq h, rdq h]
theorem MOK_of {x y : XS} (h : ∀ q k, q = 11 ∨ q = 12 ∨ q = 13 ∨ q = 14 → y.1 q k = x.1 q k) (hM : MOK x) : MOK y := by
  obtain ⟨h1, h2, h3⟩ := hM
  have e1 := h 11 1 (by simp)
  have e0 := h 11 0 (by simp)
  refine ⟨by rw [e1]; exact h1, by rw [e0]; exact h2, fun j hj => ?_⟩
  rw [e1] at hj
  obtain ⟨a1, a2⟩ := h3 j hj
  rw [one_eq (x := x) (fun i => h 12 i (by simp)) (fun i => h 13 i (by simp)), other_eq (x := x) (fun i => h 12 i (by simp)) (fun i => h 14 i (by simp))]
  exact ⟨a1, a2⟩
theorem MOK_fol {x : XS} (hM : MOK x) : MOK (mfol x) := MOK_of (fun q k h => fol_1 (by omega) (by omega)) hM
theorem MOK_look {b : Int32} {x : XS} (hM : MOK x) : MOK (mlook b x) := MOK_of (fun q k h => mlook_1 (by omega) (by omega)) hM
/-- the rows of what follows hold each claim itself -/
def DIA (x : XS) : Prop := ∀ d, d < 20 → bit (x.1 9 d) d = true
theorem fol_dia {x : XS} (h : x.1 0 22 = x.1 0 15 → DIA x) : DIA (mfol x) := by
  have key : ∀ (c : Nat), c ≤ 20 → ∀ d, d < c → (x.1 0 22 = x.1 0 15 → bit (x.1 9 d) d = true) → bit ((mfolG c x).1 9 d) d = true := by
    intro c hc d hd h
    unfold mfolG
    split
    · rename_i h1; exact h h1
    · simp only []
      rw [itP_1 (fun c y => by unfold mcoF; rw [rdq (by decide)]), rdq (by decide)]
      refine itP_inv (P := fun y => bit (y.1 9 d) d = true) (fun m y hy => itP_inv (P := fun y => bit (y.1 9 d) d = true) (fun c y hy => mcl_bit hy) _ _ hy) _ _ (itP_inv (P := fun y => bit (y.1 9 d) d = true) (fun m y hy => mst_bit hy) _ _ ?_)
      generalize setI x 0 22 (x.1 0 15) = z
      have hg : ∀ n, d < n → (itP (fun j y => setI y 9 j ((1 : Int32) <<< (nI j &&& 31))) n z).1 9 d = (1 : Int32) <<< (nI d &&& 31) := by
        intro n
        induction n with
        | zero => intros; omega
        | succ n ih =>
          intro hdn
          rw [itP, rdI]
          by_cases hdn2 : d = n
          · subst hdn2; rw [if_pos ⟨rfl, rfl⟩]
          · rw [if_neg (fun z => hdn2 z.2)]; exact ih (by omega)
      rw [hg c hd, bit_shl1 (by omega) (by omega)]
      exact decide_eq_true rfl
  intro d hd
  rw [mfol_G]
  exact key 20 (Nat.le_refl _) d hd (fun e => h e d hd)

set_option maxHeartbeats 4000000 in
set_option maxRecDepth 100000 in
theorem c_X10_partsNow {g : Gx} {a : Nat → Nat} {x : XS} (hM : MOK x) : Mx g yX10_partsNow cX10_partsNow 1 (some .int) 5 0 0 LM a x [.ref (a 0)] (pr (some (.int ((mfol x).1 0 23))) (mfol x)) := by
  refine Mx_of (by decide +kernel) (Nat.le_of_ble_eq_true rfl) ?_
  intro k hk he hg
  subst hg

  refine xaload_n hk dX10_partsNow_0 rfl ?_
  refine xcallV hk (c_X10_follow hM) bX10_follow kX10_127 dX10_partsNow_1 rfl ⟨_, _, _, _, rfl, rfl⟩ rfl (by decide) ⟨by decide, by decide⟩ (Nat.le_of_ble_eq_true rfl) (det ?_)
  refine xaload_n hk dX10_partsNow_4 rfl ?_
  refine xgetI (ci := 10) (f := 23) hk dX10_partsNow_5 ⟨rfl, by decide, _, rfl, rfl⟩ kX10_118 ?_
  refine xiret hk he dX10_partsNow_8 ⟨by decide, by decide⟩ ?_
  exact ⟨rfl, rfl⟩
set_option maxHeartbeats 4000000 in
set_option maxRecDepth 100000 in
theorem c_X10_peaces {g : Gx} {a : Nat → Nat} {x : XS} {b : Int32} (hM : MOK x) : Mx g yX10_peaces cX10_peaces 2 (some .int) 6 0 0 LM a x [.ref (a 0), .int b] (pr (some (.int ((mlook b x).1 0 18))) (mlook b x)) := by
  refine Mx_of (by decide +kernel) (Nat.le_of_ble_eq_true rfl) ?_
  intro k hk he hg
  subst hg

  refine xaload_n hk dX10_peaces_0 rfl ?_
  refine xiload_n hk dX10_peaces_1 rfl ?_
  refine xcallV hk (c_X10_look hM.1 hM.2.1) bX10_look kX10_111 dX10_peaces_2 rfl ⟨_, _, _, _, rfl, rfl⟩ rfl (by decide) ⟨by decide, by decide⟩ (Nat.le_of_ble_eq_true rfl) (det ?_)
  refine xaload_n hk dX10_peaces_5 rfl ?_
  refine xgetI (ci := 10) (f := 18) hk dX10_peaces_6 ⟨rfl, by decide, _, rfl, rfl⟩ kX10_94 ?_
  refine xiret hk he dX10_peaces_9 ⟨by decide, by decide⟩ ?_
  exact ⟨rfl, rfl⟩
set_option maxHeartbeats 4000000 in
set_option maxRecDepth 100000 in
theorem c_X10_with {g : Gx} {a : Nat → Nat} {x : XS} {c : Nat} (hM : MOK x) (hc : c < 20) : Mx g yX10_with cX10_with 2 (some .int) 6 0 0 LM a x [.ref (a 0), .int (nI c)] (pr (some (.int ((mlook (x.1 0 15) x).1 8 c))) (mlook (x.1 0 15) x)) := by
  refine Mx_of (by decide +kernel) (Nat.le_of_ble_eq_true rfl) ?_
  intro k hk he hg
  subst hg

  refine xaload_n hk dX10_with_0 rfl ?_
  refine xaload_n hk dX10_with_1 rfl ?_
  refine xgetI (ci := 10) (f := 15) hk dX10_with_2 ⟨rfl, by decide, _, rfl, rfl⟩ kX10_115 ?_
  refine xcallV hk (c_X10_look hM.1 hM.2.1) bX10_look kX10_111 dX10_with_5 rfl ⟨_, _, _, _, rfl, rfl⟩ rfl (by decide) ⟨by decide, by decide⟩ (Nat.le_of_ble_eq_true rfl) (det ?_)
  refine xaload_n hk dX10_with_8 rfl ?_
  refine xgetR (ci := 10) (f := 21) hk dX10_with_9 ⟨rfl, by decide, _, rfl, rfl⟩ kX10_48 ?_
  refine xiload_n hk dX10_with_12 rfl ?_
  refine xiald hk dX10_with_13 rfl (vp_in_nI hc (by decide)) ?_
  rw [nI_clamp (by omega)]
  refine xiret hk he dX10_with_14 ⟨by decide, by decide⟩ ?_
  exact ⟨rfl, rfl⟩
set_option maxHeartbeats 4000000 in
set_option maxRecDepth 100000 in
theorem c_X10_isFrom {g : Gx} {a : Nat → Nat} {x : XS} {c d : Nat} (hM : MOK x) (hc : c < 20) (hd : d < 20) : Mx g yX10_isFrom cX10_isFrom 3 (some .boolean) 5 0 0 LM a x [.ref (a 0), .int (nI c), .int (nI d)] (pr (some (.int (b2i (mhasB ((mfol x).1 9 d) (nI c))))) (mfol x)) := by
  refine Mx_of (by decide +kernel) (Nat.le_of_ble_eq_true rfl) ?_
  intro k hk he hg
  subst hg

  refine xaload_n hk dX10_isFrom_0 rfl ?_
  refine xcallV hk (c_X10_follow hM) bX10_follow kX10_127 dX10_isFrom_1 rfl ⟨_, _, _, _, rfl, rfl⟩ rfl (by decide) ⟨by decide, by decide⟩ (Nat.le_of_ble_eq_true rfl) (det ?_)
  refine xaload_n hk dX10_isFrom_4 rfl ?_
  refine xgetR (ci := 10) (f := 24) hk dX10_isFrom_5 ⟨rfl, by decide, _, rfl, rfl⟩ kX10_54 ?_
  refine xiload_n hk dX10_isFrom_8 rfl ?_
  refine xiald hk dX10_isFrom_9 rfl (vp_in_nI hd (by decide)) ?_
  rw [nI_clamp (by omega)]
  refine xiload_n hk dX10_isFrom_10 rfl ?_
  refine xcallS hk c_X10_has bX10_has kX10_74 dX10_isFrom_11 rfl rfl (by decide) ⟨by decide, by decide⟩ (Nat.le_of_ble_eq_true rfl) (det ?_)
  refine xzret hk he dX10_isFrom_14 ⟨by decide, by decide⟩ (by first | with_reducible exact nar_b _ | rfl) ?_
  exact ⟨rfl, rfl⟩
set_option maxHeartbeats 4000000 in
set_option maxRecDepth 100000 in
theorem c_X10_following {g : Gx} {a : Nat → Nat} {x : XS} {d : Nat} (hM : MOK x) (hd : d < 20) : Mx g yX10_following cX10_following 2 (some .int) 5 0 0 LM a x [.ref (a 0), .int (nI d)] (pr (some (.int (bcI ((mfol x).1 9 d)))) (mfol x)) := by
  refine Mx_of (by decide +kernel) (Nat.le_of_ble_eq_true rfl) ?_
  intro k hk he hg
  subst hg

  refine xaload_n hk dX10_following_0 rfl ?_
  refine xcallV hk (c_X10_follow hM) bX10_follow kX10_127 dX10_following_1 rfl ⟨_, _, _, _, rfl, rfl⟩ rfl (by decide) ⟨by decide, by decide⟩ (Nat.le_of_ble_eq_true rfl) (det ?_)
  refine xaload_n hk dX10_following_4 rfl ?_
  refine xgetR (ci := 10) (f := 24) hk dX10_following_5 ⟨rfl, by decide, _, rfl, rfl⟩ kX10_54 ?_
  refine xiload_n hk dX10_following_8 rfl ?_
  refine xiald hk dX10_following_9 rfl (vp_in_nI hd (by decide)) ?_
  rw [nI_clamp (by omega)]
  refine xcallS hk c_J6_bitCount_0f7a4 bJ6_bitCount_0f7a4 kX10_106 dX10_following_10 rfl rfl (by decide) ⟨by decide, by decide⟩ (Nat.le_of_ble_eq_true rfl) (det ?_)
  refine xiret hk he dX10_following_13 ⟨by decide, by decide⟩ ?_
  exact ⟨rfl, rfl⟩
set_option maxHeartbeats 4000000 in
set_option maxRecDepth 100000 in
theorem c_X10_ofPart {g : Gx} {a : Nat → Nat} {x : XS} {d : Nat} (hM : MOK x) (hd : d < 20) (hD : x.1 0 22 = x.1 0 15 → DIA x) : Mx g yX10_ofPart cX10_ofPart 2 (some .int) 5 0 0 LM a x [.ref (a 0), .int (nI d)] (pr (some (.int (smF (mfol x) (nI d)))) (mfol x)) := by
  refine Mx_of (by decide +kernel) (Nat.le_of_ble_eq_true rfl) ?_
  intro k hk he hg
  subst hg

  refine xaload_n hk dX10_ofPart_0 rfl ?_
  refine xcallV hk (c_X10_follow hM) bX10_follow kX10_127 dX10_ofPart_1 rfl ⟨_, _, _, _, rfl, rfl⟩ rfl (by decide) ⟨by decide, by decide⟩ (Nat.le_of_ble_eq_true rfl) (det ?_)
  refine xaload_n hk dX10_ofPart_4 rfl ?_
  refine xiload_n hk dX10_ofPart_5 rfl ?_
  refine xcallV hk (c_X10_smallest hd (by rw [mhasB_bit (by omega)]; exact fol_dia hD d hd)) bX10_smallest kX10_121 dX10_ofPart_6 rfl ⟨_, _, _, _, rfl, rfl⟩ rfl (by decide) ⟨by decide, by decide⟩ (Nat.le_of_ble_eq_true rfl) (det ?_)
  refine xiret hk he dX10_ofPart_9 ⟨by decide, by decide⟩ ?_
  exact ⟨rfl, rfl⟩
def sopF (y : XS) (cl : Int32) (c : Nat) (p : Int32) : Int32 := p + (if areB y (nI c) cl then 1 else 0)
def sopI (x : XS) (cl : Int32) : Int32 := itP (sopF (mfol x) cl) (2 * (mfol x).1 11 0).toNatClampNeg 0
set_option maxHeartbeats 4000000 in
set_option maxRecDepth 100000 in
theorem c_X10_sizeOfPart {g : Gx} {a : Nat → Nat} {x : XS} {d : Nat} (hM : MOK x) (hd : d < 20) : Mx g yX10_sizeOfPart cX10_sizeOfPart 4 (some .int) 5 0 0 LM a x [.ref (a 0), .int (nI d)] (pr (some (.int (sopI x (nI d)))) (mfol x)) := by
  refine Mx_of (by decide +kernel) (Nat.le_of_ble_eq_true rfl) ?_
  intro k hk he hg
  subst hg

  have hM2 := MOK_fol hM
  have loop : ∀ (n c : Nat) (v p : Int32), (2 * (mfol x).1 11 0).toNatClampNeg - c < n → v = nI c → c ≤ (2 * (mfol x).1 11 0).toNatClampNeg → p = itP (sopF (mfol x) (nI d)) c 0 → Wx k 0 0 LM a (mfol x) 8 [(0, .ref (a 0)), (1, .int (nI d)), (2, .int p), (3, .int v)] [] := by
    have hF := hM2.2.1
    intro n
    induction n with
    | zero => intros; omega
    | succ n ih =>
      intro c v p hn hv hc hp
      subst hv
      refine xiload_n hk dX10_sizeOfPart_8 rfl ?_
      refine xaload_n hk dX10_sizeOfPart_9 rfl ?_
      refine xgetR (ci := 10) (f := 11) hk dX10_sizeOfPart_10 ⟨rfl, by decide, _, rfl, rfl⟩ kX10_35 ?_
      refine xcallV hk c_X9_claims bX9_claims kX10_70 dX10_sizeOfPart_13 rfl ⟨_, _, _, _, rfl, rfl⟩ rfl (by decide) ⟨by decide, by decide⟩ (Nat.le_of_ble_eq_true rfl) (det ?_)
      refine xicmp_ge hk 42 dX10_sizeOfPart_16 (by decide) (fun h16 => ?_) (fun h16 => ?_)
      · rw [le_nI (by omega)] at h16
        refine xiload_n hk dX10_sizeOfPart_42 rfl ?_
        refine xiret hk he dX10_sizeOfPart_43 ⟨by decide, by decide⟩ ?_
        exact ⟨by rw [hp, show c = (2 * (mfol x).1 11 0).toNatClampNeg by omega]; rfl, rfl⟩
      · rw [le_nI (by omega)] at h16
        refine xiload_n hk dX10_sizeOfPart_19 rfl ?_
        refine xaload_n hk dX10_sizeOfPart_20 rfl ?_
        refine xiload_n hk dX10_sizeOfPart_21 rfl ?_
        refine xiload_n hk dX10_sizeOfPart_22 rfl ?_
        refine xcallV hk (c_X10_areOne (vp_in_nI (by omega) (by decide)) (vp_in_nI hd (by decide))) bX10_areOne kX10_124 dX10_sizeOfPart_23 rfl ⟨_, _, _, _, rfl, rfl⟩ rfl (by decide) ⟨by decide, by decide⟩ (Nat.le_of_ble_eq_true rfl) (det ?_)
        refine xif_eq hk 33 dX10_sizeOfPart_26 (by decide) (fun h26 => ?_) (fun h26 => ?_)
        · rw [b2i_0] at h26
          refine xiconst (v := 0) hk dX10_sizeOfPart_33 (by decide) ?_
          refine xiadd hk dX10_sizeOfPart_34 ?_
          refine xistore_n hk dX10_sizeOfPart_35 (by decide) ?_
          refine xiinc hk dX10_sizeOfPart_36 rfl (by decide) rfl ?_
          refine xgoto hk 8 dX10_sizeOfPart_39 (by decide) ?_
          exact ih (c + 1) _ _ (by omega) (nI_inc c) (by omega) (by rw [itP, ← hp, sopF]; simp only [h26, if_true, if_false, Bool.false_eq_true])
        · rw [b2i_t] at h26
          refine xiconst (v := 1) hk dX10_sizeOfPart_29 (by decide) ?_
          refine xgoto hk 34 dX10_sizeOfPart_30 (by decide) ?_
          refine xiadd hk dX10_sizeOfPart_34 ?_
          refine xistore_n hk dX10_sizeOfPart_35 (by decide) ?_
          refine xiinc hk dX10_sizeOfPart_36 rfl (by decide) rfl ?_
          refine xgoto hk 8 dX10_sizeOfPart_39 (by decide) ?_
          exact ih (c + 1) _ _ (by omega) (nI_inc c) (by omega) (by rw [itP, ← hp, sopF]; simp only [h26, if_true, if_false, Bool.false_eq_true])
  refine xaload_n hk dX10_sizeOfPart_0 rfl ?_
  refine xcallV hk (c_X10_follow hM) bX10_follow kX10_127 dX10_sizeOfPart_1 rfl ⟨_, _, _, _, rfl, rfl⟩ rfl (by decide) ⟨by decide, by decide⟩ (Nat.le_of_ble_eq_true rfl) (det ?_)
  refine xiconst (v := 0) hk dX10_sizeOfPart_4 (by decide) ?_
  refine xistore_n hk dX10_sizeOfPart_5 (by decide) ?_
  refine xiconst (v := 0) hk dX10_sizeOfPart_6 (by decide) ?_
  refine xistore_n hk dX10_sizeOfPart_7 (by decide) ?_
  exact loop _ 0 _ _ (Nat.lt_succ_self _) rfl (by omega) rfl
set_option maxHeartbeats 4000000 in
set_option maxRecDepth 100000 in
theorem c_X10_thrown {g : Gx} {a : Nat → Nat} {x : XS}  : Mx g yX10_thrown cX10_thrown 1 (some .int) 1 0 0 LM a x [.ref (a 0)] (pr (some (.int (x.1 0 0))) x) := by
  refine Mx_of (by decide +kernel) (Nat.le_of_ble_eq_true rfl) ?_
  intro k hk he hg
  subst hg

  refine xaload_n hk dX10_thrown_0 rfl ?_
  refine xgetI (ci := 10) (f := 0) hk dX10_thrown_1 ⟨rfl, by decide, _, rfl, rfl⟩ kX10_60 ?_
  refine xiret hk he dX10_thrown_4 ⟨by decide, by decide⟩ ?_
  exact ⟨rfl, rfl⟩
set_option maxHeartbeats 4000000 in
set_option maxRecDepth 100000 in
theorem c_X10_no {g : Gx} {a : Nat → Nat} {x : XS} {n : Int32} : Mx g yX10_no cX10_no 2 (some .int) 1 0 0 LM a x [.ref (a 0), .int n] (pr (some (.int 0)) (setI x 0 0 n)) := by
  refine Mx_of (by decide +kernel) (Nat.le_of_ble_eq_true rfl) ?_
  intro k hk he hg
  subst hg

  refine xaload_n hk dX10_no_0 rfl ?_
  refine xiload_n hk dX10_no_1 rfl ?_
  refine xputI (ci := 10) (f := 0) hk dX10_no_2 ⟨rfl, by decide, _, rfl, rfl⟩ kX10_60 ⟨rfl, by decide +kernel⟩ ?_
  refine xiconst (v := 0) hk dX10_no_5 (by decide) ?_
  refine xiret hk he dX10_no_6 ⟨by decide, by decide⟩ ?_
  exact ⟨rfl, rfl⟩
set_option maxHeartbeats 4000000 in
set_option maxRecDepth 100000 in
theorem c_X10_isNot {g : Gx} {a : Nat → Nat} {x : XS} {n : Int32} : Mx g yX10_isNot cX10_isNot 2 (some .boolean) 1 0 0 LM a x [.ref (a 0), .int n] (pr (some (.int 0)) (setI x 0 0 n)) := by
  refine Mx_of (by decide +kernel) (Nat.le_of_ble_eq_true rfl) ?_
  intro k hk he hg
  subst hg

  refine xaload_n hk dX10_isNot_0 rfl ?_
  refine xiload_n hk dX10_isNot_1 rfl ?_
  refine xputI (ci := 10) (f := 0) hk dX10_isNot_2 ⟨rfl, by decide, _, rfl, rfl⟩ kX10_60 ⟨rfl, by decide +kernel⟩ ?_
  refine xiconst (v := 0) hk dX10_isNot_5 (by decide) ?_
  refine xzret hk he dX10_isNot_6 ⟨by decide, by decide⟩ (by first | with_reducible exact nar_b _ | rfl) ?_
  exact ⟨rfl, rfl⟩
set_option maxHeartbeats 4000000 in
set_option maxRecDepth 100000 in
theorem c_X10_ok {g : Gx} {a : Nat → Nat} {x : XS} {n : Int32} : Mx g yX10_ok cX10_ok 2 (some .int) 1 0 0 LM a x [.ref (a 0), .int n] (pr (some (.int n)) (setI x 0 0 0)) := by
  refine Mx_of (by decide +kernel) (Nat.le_of_ble_eq_true rfl) ?_
  intro k hk he hg
  subst hg

  refine xaload_n hk dX10_ok_0 rfl ?_
  refine xiconst (v := 0) hk dX10_ok_1 (by decide) ?_
  refine xputI (ci := 10) (f := 0) hk dX10_ok_2 ⟨rfl, by decide, _, rfl, rfl⟩ kX10_60 ⟨rfl, by decide +kernel⟩ ?_
  refine xiload_n hk dX10_ok_5 rfl ?_
  refine xiret hk he dX10_ok_6 ⟨by decide, by decide⟩ ?_
  exact ⟨rfl, rfl⟩
def misSt (x : XS) (v : Int32) : Bool := isInB v 0 (x.1 11 1 - 1)
def misCl (x : XS) (v : Int32) : Bool := isInB v 0 (2 * x.1 11 0 - 1)
set_option maxHeartbeats 4000000 in
set_option maxRecDepth 100000 in
theorem c_X10_isStatement {g : Gx} {a : Nat → Nat} {x : XS} {v : Int32} : Mx g yX10_isStatement cX10_isStatement 2 (some .boolean) 2 0 0 LM a x [.ref (a 0), .int v] (pr (some (.int (b2i (misSt x v)))) x) := by
  refine Mx_of (by decide +kernel) (Nat.le_of_ble_eq_true rfl) ?_
  intro k hk he hg
  subst hg

  refine xiload_n hk dX10_isStatement_0 rfl ?_
  refine xiconst (v := 0) hk dX10_isStatement_1 (by decide) ?_
  refine xaload_n hk dX10_isStatement_2 rfl ?_
  refine xgetR (ci := 10) (f := 11) hk dX10_isStatement_3 ⟨rfl, by decide, _, rfl, rfl⟩ kX10_35 ?_
  refine xgetNI (ci := 9) (f := 1) hk dX10_isStatement_6 ⟨rfl, by decide, _, rfl, rfl⟩ kX10_63 ?_
  refine xiconst (v := 1) hk dX10_isStatement_9 (by decide) ?_
  refine xisub hk dX10_isStatement_10 ?_
  refine xcallS hk c_X10_isIn bX10_isIn kX10_66 dX10_isStatement_11 rfl rfl (by decide) ⟨by decide, by decide⟩ (Nat.le_of_ble_eq_true rfl) (det ?_)
  refine xzret hk he dX10_isStatement_14 ⟨by decide, by decide⟩ (by first | with_reducible exact nar_b _ | rfl) ?_
  exact ⟨rfl, rfl⟩
set_option maxHeartbeats 4000000 in
set_option maxRecDepth 100000 in
theorem c_X10_isClaim {g : Gx} {a : Nat → Nat} {x : XS} {v : Int32} : Mx g yX10_isClaim cX10_isClaim 2 (some .boolean) 2 0 0 LM a x [.ref (a 0), .int v] (pr (some (.int (b2i (misCl x v)))) x) := by
  refine Mx_of (by decide +kernel) (Nat.le_of_ble_eq_true rfl) ?_
  intro k hk he hg
  subst hg

  refine xiload_n hk dX10_isClaim_0 rfl ?_
  refine xiconst (v := 0) hk dX10_isClaim_1 (by decide) ?_
  refine xaload_n hk dX10_isClaim_2 rfl ?_
  refine xgetR (ci := 10) (f := 11) hk dX10_isClaim_3 ⟨rfl, by decide, _, rfl, rfl⟩ kX10_35 ?_
  refine xcallV hk c_X9_claims bX9_claims kX10_70 dX10_isClaim_6 rfl ⟨_, _, _, _, rfl, rfl⟩ rfl (by decide) ⟨by decide, by decide⟩ (Nat.le_of_ble_eq_true rfl) (det ?_)
  refine xiconst (v := 1) hk dX10_isClaim_9 (by decide) ?_
  refine xisub hk dX10_isClaim_10 ?_
  refine xcallS hk c_X10_isIn bX10_isIn kX10_66 dX10_isClaim_11 rfl rfl (by decide) ⟨by decide, by decide⟩ (Nat.le_of_ble_eq_true rfl) (det ?_)
  refine xzret hk he dX10_isClaim_14 ⟨by decide, by decide⟩ (by first | with_reducible exact nar_b _ | rfl) ?_
  exact ⟨rfl, rfl⟩
set_option maxHeartbeats 4000000 in
set_option maxRecDepth 100000 in
theorem c_X10_goBack {g : Gx} {a : Nat → Nat} {x : XS} {d c s : Int32} : Mx g yX10_goBack cX10_goBack 4 none 1 0 0 LM a x [.ref (a 0), .int d, .int c, .int s] (pr none (setI (setI (setI x 0 13 d) 0 14 c) 0 15 s)) := by
  refine Mx_of (by decide +kernel) (Nat.le_of_ble_eq_true rfl) ?_
  intro k hk he hg
  subst hg

  refine xaload_n hk dX10_goBack_0 rfl ?_
  refine xiload_n hk dX10_goBack_1 rfl ?_
  refine xputI (ci := 10) (f := 13) hk dX10_goBack_2 ⟨rfl, by decide, _, rfl, rfl⟩ kX10_163 ⟨rfl, by decide +kernel⟩ ?_
  refine xaload_n hk dX10_goBack_5 rfl ?_
  refine xiload_n hk dX10_goBack_6 rfl ?_
  refine xputI (ci := 10) (f := 14) hk dX10_goBack_7 ⟨rfl, by decide, _, rfl, rfl⟩ kX10_160 ⟨rfl, by decide +kernel⟩ ?_
  refine xaload_n hk dX10_goBack_10 rfl ?_
  refine xiload_n hk dX10_goBack_11 rfl ?_
  refine xputI (ci := 10) (f := 15) hk dX10_goBack_12 ⟨rfl, by decide, _, rfl, rfl⟩ kX10_115 ⟨rfl, by decide +kernel⟩ ?_
  refine xvret hk he dX10_goBack_15 ⟨by decide, by decide⟩ ?_
  exact ⟨rfl, rfl⟩
def turnF (x : XS) (st : Int32) : XS := setI x 0 15 (x.1 0 15 ^^^ ((1 : Int32) <<< (st &&& 31)))
def kindF (x : XS) (st : Int32) : Int32 := if x.1 12 st.toNatClampNeg = 1 then 0 else if x.1 12 st.toNatClampNeg = 4 then 1 else if x.1 12 st.toNatClampNeg = 7 then 2 else 3
set_option maxHeartbeats 4000000 in
set_option maxRecDepth 100000 in
theorem c_X10_turned {g : Gx} {a : Nat → Nat} {x : XS} {s : Int32} : Mx g yX10_turned cX10_turned 2 (some .int) 2 0 0 LM a x [.ref (a 0), .int s] (pr (some (.int (bcI ((turnF x s).1 0 15)))) (turnF x s)) := by
  refine Mx_of (by decide +kernel) (Nat.le_of_ble_eq_true rfl) ?_
  intro k hk he hg
  subst hg

  refine xaload_n hk dX10_turned_0 rfl ?_
  refine xdup hk dX10_turned_1 rfl ?_
  refine xgetI (ci := 10) (f := 15) hk dX10_turned_2 ⟨rfl, by decide, _, rfl, rfl⟩ kX10_115 ?_
  refine xiconst (v := 1) hk dX10_turned_5 (by decide) ?_
  refine xiload_n hk dX10_turned_6 rfl ?_
  refine xishl hk dX10_turned_7 ?_
  refine xixor hk dX10_turned_8 ?_
  refine xputI (ci := 10) (f := 15) hk dX10_turned_9 ⟨rfl, by decide, _, rfl, rfl⟩ kX10_115 ⟨rfl, by decide +kernel⟩ ?_
  refine xaload_n hk dX10_turned_12 rfl ?_
  refine xgetI (ci := 10) (f := 15) hk dX10_turned_13 ⟨rfl, by decide, _, rfl, rfl⟩ kX10_115 ?_
  refine xcallS hk c_J6_bitCount_0f7a4 bJ6_bitCount_0f7a4 kX10_106 dX10_turned_16 rfl rfl (by decide) ⟨by decide, by decide⟩ (Nat.le_of_ble_eq_true rfl) (det ?_)
  refine xiret hk he dX10_turned_19 ⟨by decide, by decide⟩ ?_
  exact ⟨rfl, rfl⟩
set_option maxHeartbeats 4000000 in
set_option maxRecDepth 100000 in
theorem c_X10_kindTold {g : Gx} {a : Nat → Nat} {x : XS} {s : Int32} (hs : vp_in s 20) : Mx g yX10_kindTold cX10_kindTold 2 (some .int) 1 0 0 LM a x [.ref (a 0), .int s] (pr (some (.int (kindF x s))) x) := by
  refine Mx_of (by decide +kernel) (Nat.le_of_ble_eq_true rfl) ?_
  intro k hk he hg
  subst hg

  refine xaload_n hk dX10_kindTold_0 rfl ?_
  refine xgetR (ci := 10) (f := 11) hk dX10_kindTold_1 ⟨rfl, by decide, _, rfl, rfl⟩ kX10_35 ?_
  refine xgetNR (ci := 9) (f := 2) hk dX10_kindTold_4 ⟨rfl, by decide, _, rfl, rfl⟩ kX10_332 ?_
  refine xiload_n hk dX10_kindTold_7 rfl ?_
  refine xiald hk dX10_kindTold_8 rfl hs ?_
  refine xiconst (v := 1) hk dX10_kindTold_9 (by decide) ?_
  refine xicmp_ne hk 17 dX10_kindTold_10 (by decide) (fun h10 => ?_) (fun h10 => ?_)
  · refine xaload_n hk dX10_kindTold_17 rfl ?_
    refine xgetR (ci := 10) (f := 11) hk dX10_kindTold_18 ⟨rfl, by decide, _, rfl, rfl⟩ kX10_35 ?_
    refine xgetNR (ci := 9) (f := 2) hk dX10_kindTold_21 ⟨rfl, by decide, _, rfl, rfl⟩ kX10_332 ?_
    refine xiload_n hk dX10_kindTold_24 rfl ?_
    refine xiald hk dX10_kindTold_25 rfl hs ?_
    refine xiconst (v := 4) hk dX10_kindTold_26 (by decide) ?_
    refine xicmp_ne hk 34 dX10_kindTold_27 (by decide) (fun h27 => ?_) (fun h27 => ?_)
    · refine xaload_n hk dX10_kindTold_34 rfl ?_
      refine xgetR (ci := 10) (f := 11) hk dX10_kindTold_35 ⟨rfl, by decide, _, rfl, rfl⟩ kX10_35 ?_
      refine xgetNR (ci := 9) (f := 2) hk dX10_kindTold_38 ⟨rfl, by decide, _, rfl, rfl⟩ kX10_332 ?_
      refine xiload_n hk dX10_kindTold_41 rfl ?_
      refine xiald hk dX10_kindTold_42 rfl hs ?_
      refine xbipush (v := 7) hk dX10_kindTold_43 (by decide) ?_
      refine xicmp_ne hk 52 dX10_kindTold_45 (by decide) (fun h45 => ?_) (fun h45 => ?_)
      · refine xiconst (v := 3) hk dX10_kindTold_52 (by decide) ?_
        refine xiret hk he dX10_kindTold_53 ⟨by decide, by decide⟩ ?_
        exact ⟨by simp [kindF, *], rfl⟩
      · refine xiconst (v := 2) hk dX10_kindTold_48 (by decide) ?_
        refine xgoto hk 53 dX10_kindTold_49 (by decide) ?_
        refine xiret hk he dX10_kindTold_53 ⟨by decide, by decide⟩ ?_
        exact ⟨by simp [kindF, *], rfl⟩
    · refine xiconst (v := 1) hk dX10_kindTold_30 (by decide) ?_
      refine xgoto hk 53 dX10_kindTold_31 (by decide) ?_
      refine xiret hk he dX10_kindTold_53 ⟨by decide, by decide⟩ ?_
      exact ⟨by simp [kindF, *], rfl⟩
  · refine xiconst (v := 0) hk dX10_kindTold_13 (by decide) ?_
    refine xgoto hk 53 dX10_kindTold_14 (by decide) ?_
    refine xiret hk he dX10_kindTold_53 ⟨by decide, by decide⟩ ?_
    exact ⟨by simp [kindF, *], rfl⟩
