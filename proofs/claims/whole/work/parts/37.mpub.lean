theorem kX10_13 : Cond.fieldLink RX10 13 "FeudBookModel" "errorAt" "I" ∈ GW := gw_mem 1194 (by decide +kernel) (by decide +kernel)
theorem kX10_376 : Cond.methodLink RX10 376 yX10_ok ∈ GW := gw_mem 1524 (by decide +kernel) (by decide +kernel)
theorem bX10_ok : CBv yX10_ok cX10_ok 2 (some .int) 1 := ⟨⟨gw_mem 1527 (by decide +kernel) (by decide +kernel), gw_mem 14 (by decide +kernel) (by decide +kernel), by decide +kernel, by decide⟩, gw_mem 1526 (by decide +kernel) (by decide +kernel), gw_sel 86 (by decide +kernel) (by decide +kernel)⟩
theorem kX10_200 : Cond.fieldLink RX10 200 "FeudBookModel" "size" "I" ∈ GW := gw_mem 1193 (by decide +kernel) (by decide +kernel)
theorem kX10_379 : Cond.methodLink RX10 379 yX10_isStatement ∈ GW := gw_mem 1561 (by decide +kernel) (by decide +kernel)
theorem bX10_isStatement : CBv yX10_isStatement cX10_isStatement 2 (some .boolean) 1 := ⟨⟨gw_mem 1564 (by decide +kernel) (by decide +kernel), gw_mem 14 (by decide +kernel) (by decide +kernel), by decide +kernel, by decide⟩, gw_mem 1563 (by decide +kernel) (by decide +kernel), gw_sel 87 (by decide +kernel) (by decide +kernel)⟩
theorem kX10_367 : Cond.methodLink RX10 367 yX10_no ∈ GW := gw_mem 1278 (by decide +kernel) (by decide +kernel)
theorem bX10_no : CBv yX10_no cX10_no 2 (some .int) 1 := ⟨⟨gw_mem 1281 (by decide +kernel) (by decide +kernel), gw_mem 14 (by decide +kernel) (by decide +kernel), by decide +kernel, by decide⟩, gw_mem 1280 (by decide +kernel) (by decide +kernel), gw_sel 46 (by decide +kernel) (by decide +kernel)⟩
theorem kX10_382 : Cond.methodLink RX10 382 yX10_kindTold ∈ GW := gw_mem 1565 (by decide +kernel) (by decide +kernel)
theorem bX10_kindTold : CBv yX10_kindTold cX10_kindTold 2 (some .int) 1 := ⟨⟨gw_mem 1568 (by decide +kernel) (by decide +kernel), gw_mem 14 (by decide +kernel) (by decide +kernel), by decide +kernel, by decide⟩, gw_mem 1567 (by decide +kernel) (by decide +kernel), gw_sel 88 (by decide +kernel) (by decide +kernel)⟩
theorem kX10_337 : Cond.fieldLinkNest RX10 337 "FeudBookModel$Plan" "first" "[I" "FeudBookModel" ∈ NW := nw_mem 1141 (by decide +kernel) rfl
theorem kX10_340 : Cond.fieldLinkNest RX10 340 "FeudBookModel$Plan" "second" "[I" "FeudBookModel" ∈ NW := nw_mem 1143 (by decide +kernel) rfl
theorem kX10_385 : Cond.methodLink RX10 385 yX10_isNot ∈ GW := gw_mem 1584 (by decide +kernel) (by decide +kernel)
theorem bX10_isNot : CBv yX10_isNot cX10_isNot 2 (some .boolean) 1 := ⟨⟨gw_mem 1587 (by decide +kernel) (by decide +kernel), gw_mem 14 (by decide +kernel) (by decide +kernel), by decide +kernel, by decide⟩, gw_mem 1586 (by decide +kernel) (by decide +kernel), gw_sel 89 (by decide +kernel) (by decide +kernel)⟩
theorem kX10_388 : Cond.methodLink RX10 388 yX10_isClaim ∈ GW := gw_mem 1626 (by decide +kernel) (by decide +kernel)
theorem bX10_isClaim : CBv yX10_isClaim cX10_isClaim 2 (some .boolean) 1 := ⟨⟨gw_mem 1629 (by decide +kernel) (by decide +kernel), gw_mem 14 (by decide +kernel) (by decide +kernel), by decide +kernel, by decide⟩, gw_mem 1628 (by decide +kernel) (by decide +kernel), gw_sel 93 (by decide +kernel) (by decide +kernel)⟩
theorem kX10_391 : Cond.methodLink RX10 391 yX10_following ∈ GW := gw_mem 1650 (by decide +kernel) (by decide +kernel)
theorem bX10_following : CBv yX10_following cX10_following 2 (some .int) 1 := ⟨⟨gw_mem 1653 (by decide +kernel) (by decide +kernel), gw_mem 14 (by decide +kernel) (by decide +kernel), by decide +kernel, by decide⟩, gw_mem 1652 (by decide +kernel) (by decide +kernel), gw_sel 98 (by decide +kernel) (by decide +kernel)⟩
theorem kX10_397 : Cond.methodLink RX10 397 yX10_ofPart ∈ GW := gw_mem 1678 (by decide +kernel) (by decide +kernel)
theorem bX10_ofPart : CBv yX10_ofPart cX10_ofPart 2 (some .int) 1 := ⟨⟨gw_mem 1681 (by decide +kernel) (by decide +kernel), gw_mem 14 (by decide +kernel) (by decide +kernel), by decide +kernel, by decide⟩, gw_mem 1680 (by decide +kernel) (by decide +kernel), gw_sel 102 (by decide +kernel) (by decide +kernel)⟩
theorem kX10_400 : Cond.methodLink RX10 400 yX10_sizeOfPart ∈ GW := gw_mem 1686 (by decide +kernel) (by decide +kernel)
theorem bX10_sizeOfPart : CBv yX10_sizeOfPart cX10_sizeOfPart 4 (some .int) 1 := ⟨⟨gw_mem 1689 (by decide +kernel) (by decide +kernel), gw_mem 14 (by decide +kernel) (by decide +kernel), by decide +kernel, by decide⟩, gw_mem 1688 (by decide +kernel) (by decide +kernel), gw_sel 103 (by decide +kernel) (by decide +kernel)⟩
def r0 (x : XS) : XS := setI x 0 0 0
/-- what the public calls need: the numbers of families and statements, and what the book's claims are -/
def MK (x : XS) : Prop := MOK x ∧ (∃ f, f ≤ 10 ∧ x.1 11 0 = nI f) ∧ (∃ s, s ≤ 20 ∧ x.1 11 1 = nI s)
theorem MK_of {x y : XS} (h : ∀ q k, q = 11 ∨ q = 12 ∨ q = 13 ∨ q = 14 → y.1 q k = x.1 q k) (hM : MK x) : MK y :=
  ⟨MOK_of h hM.1, by rw [h 11 0 (by simp)]; exact hM.2.1, by rw [h 11 1 (by simp)]; exact hM.2.2⟩
theorem MK_r0 {x : XS} (hM : MK x) : MK (r0 x) := MK_of (fun q k h => by rw [r0, rdq (by omega)]) hM
theorem isInB_iff {v lo hi : Int32} : isInB v lo hi = true ↔ lo.toInt ≤ v.toInt ∧ v.toInt ≤ hi.toInt := by
  unfold isInB
  split
  · rename_i h; rw [Int32.lt_iff_toInt_lt] at h; simp; omega
  · rename_i h; rw [Int32.lt_iff_toInt_lt] at h
    split
    · rename_i h2; rw [Int32.lt_iff_toInt_lt] at h2; simp; omega
    · rename_i h2; rw [Int32.lt_iff_toInt_lt] at h2; simp; omega
theorem nI_m1 {n : Nat} (h : n < 2 ^ 31) : (nI n - 1).toInt = (n : Int) - 1 := by
  have h3 : (1 : Int32).toInt = 1 := rfl
  rw [Int32.toInt_sub, nI_toInt h, h3]
  exact Int.bmod_eq_of_le (by omega) (by omega)
theorem inr_of {v : Int32} {n : Nat} (hn : n < 2 ^ 31) (h : isInB v 0 (nI n - 1) = true) : ∃ c, c < n ∧ v = nI c := by
  rw [isInB_iff, nI_m1 hn] at h
  have h0 : (0 : Int32).toInt = 0 := rfl
  exact vp_in_of (vp_in_iff.mpr ⟨by omega, by omega⟩) hn
theorem misCl_of {x : XS} {v : Int32} (hM : MK x) (h : misCl x v = true) : ∃ c, c < 20 ∧ v = nI c := by
  obtain ⟨f, hf, e⟩ := hM.2.1
  rw [misCl, e, show (2 : Int32) = nI 2 from rfl, pk_mul] at h
  obtain ⟨c, hc, rfl⟩ := inr_of (by omega) h
  exact ⟨c, by omega, rfl⟩
theorem misSt_of {x : XS} {v : Int32} (hM : MK x) (h : misSt x v = true) : ∃ c, c < 20 ∧ v = nI c := by
  obtain ⟨f, hf, e⟩ := hM.2.2
  rw [misSt, e] at h
  obtain ⟨c, hc, rfl⟩ := inr_of (by omega) h
  exact ⟨c, by omega, rfl⟩
theorem MK_fol {x : XS} (hM : MK x) : MK (mfol x) := MK_of (fun q k h => fol_1 (by omega) (by omega)) hM
theorem MK_look {b : Int32} {x : XS} (hM : MK x) : MK (mlook b x) := MK_of (fun q k h => mlook_1 (by omega) (by omega)) hM

set_option maxHeartbeats 4000000 in
set_option maxRecDepth 100000 in
theorem c_X10_errorAt {g : Gx} {a : Nat → Nat} {x : XS} (hM : MK x) : Mx g yX10_errorAt cX10_errorAt 1 (some .int) 8 0 0 LM a x [.ref (a 0)] (pr (some (.int (x.1 0 3))) (r0 (x))) := by
  refine Mx_of (by decide +kernel) (Nat.le_of_ble_eq_true rfl) ?_
  intro k hk he hg
  subst hg

  refine xaload_n hk dX10_errorAt_0 rfl ?_
  refine xaload_n hk dX10_errorAt_1 rfl ?_
  refine xgetI (ci := 10) (f := 3) hk dX10_errorAt_2 ⟨rfl, by decide, _, rfl, rfl⟩ kX10_13 ?_
  refine xcallV hk c_X10_ok bX10_ok kX10_376 dX10_errorAt_5 rfl ⟨_, _, _, _, rfl, rfl⟩ rfl (by decide) ⟨by decide, by decide⟩ (Nat.le_of_ble_eq_true rfl) (det ?_)
  refine xiret hk he dX10_errorAt_8 ⟨by decide, by decide⟩ ?_
  exact ⟨rfl, rfl⟩
set_option maxHeartbeats 4000000 in
set_option maxRecDepth 100000 in
theorem c_X10_families {g : Gx} {a : Nat → Nat} {x : XS} (hM : MK x) : Mx g yX10_families cX10_families 1 (some .int) 8 0 0 LM a x [.ref (a 0)] (pr (some (.int (x.1 11 0))) (r0 (x))) := by
  refine Mx_of (by decide +kernel) (Nat.le_of_ble_eq_true rfl) ?_
  intro k hk he hg
  subst hg

  refine xaload_n hk dX10_families_0 rfl ?_
  refine xaload_n hk dX10_families_1 rfl ?_
  refine xgetR (ci := 10) (f := 11) hk dX10_families_2 ⟨rfl, by decide, _, rfl, rfl⟩ kX10_35 ?_
  refine xgetNI (ci := 9) (f := 0) hk dX10_families_5 ⟨rfl, by decide, _, rfl, rfl⟩ kX10_88 ?_
  refine xcallV hk c_X10_ok bX10_ok kX10_376 dX10_families_8 rfl ⟨_, _, _, _, rfl, rfl⟩ rfl (by decide) ⟨by decide, by decide⟩ (Nat.le_of_ble_eq_true rfl) (det ?_)
  refine xiret hk he dX10_families_11 ⟨by decide, by decide⟩ ?_
  exact ⟨rfl, rfl⟩
set_option maxHeartbeats 4000000 in
set_option maxRecDepth 100000 in
theorem c_X10_statements {g : Gx} {a : Nat → Nat} {x : XS} (hM : MK x) : Mx g yX10_statements cX10_statements 1 (some .int) 8 0 0 LM a x [.ref (a 0)] (pr (some (.int (x.1 11 1))) (r0 (x))) := by
  refine Mx_of (by decide +kernel) (Nat.le_of_ble_eq_true rfl) ?_
  intro k hk he hg
  subst hg

  refine xaload_n hk dX10_statements_0 rfl ?_
  refine xaload_n hk dX10_statements_1 rfl ?_
  refine xgetR (ci := 10) (f := 11) hk dX10_statements_2 ⟨rfl, by decide, _, rfl, rfl⟩ kX10_35 ?_
  refine xgetNI (ci := 9) (f := 1) hk dX10_statements_5 ⟨rfl, by decide, _, rfl, rfl⟩ kX10_63 ?_
  refine xcallV hk c_X10_ok bX10_ok kX10_376 dX10_statements_8 rfl ⟨_, _, _, _, rfl, rfl⟩ rfl (by decide) ⟨by decide, by decide⟩ (Nat.le_of_ble_eq_true rfl) (det ?_)
  refine xiret hk he dX10_statements_11 ⟨by decide, by decide⟩ ?_
  exact ⟨rfl, rfl⟩
set_option maxHeartbeats 4000000 in
set_option maxRecDepth 100000 in
theorem c_X10_orders {g : Gx} {a : Nat → Nat} {x : XS} (hM : MK x) : Mx g yX10_orders cX10_orders 1 (some .int) 8 0 0 LM a x [.ref (a 0)] (pr (some (.int (x.1 11 5))) (r0 (x))) := by
  refine Mx_of (by decide +kernel) (Nat.le_of_ble_eq_true rfl) ?_
  intro k hk he hg
  subst hg

  refine xaload_n hk dX10_orders_0 rfl ?_
  refine xaload_n hk dX10_orders_1 rfl ?_
  refine xgetR (ci := 10) (f := 11) hk dX10_orders_2 ⟨rfl, by decide, _, rfl, rfl⟩ kX10_35 ?_
  refine xgetNI (ci := 9) (f := 5) hk dX10_orders_5 ⟨rfl, by decide, _, rfl, rfl⟩ kX10_150 ?_
  refine xcallV hk c_X10_ok bX10_ok kX10_376 dX10_orders_8 rfl ⟨_, _, _, _, rfl, rfl⟩ rfl (by decide) ⟨by decide, by decide⟩ (Nat.le_of_ble_eq_true rfl) (det ?_)
  refine xiret hk he dX10_orders_11 ⟨by decide, by decide⟩ ?_
  exact ⟨rfl, rfl⟩
set_option maxHeartbeats 4000000 in
set_option maxRecDepth 100000 in
theorem c_X10_days {g : Gx} {a : Nat → Nat} {x : XS} (hM : MK x) : Mx g yX10_days cX10_days 1 (some .int) 8 0 0 LM a x [.ref (a 0)] (pr (some (.int (x.1 0 13))) (r0 (x))) := by
  refine Mx_of (by decide +kernel) (Nat.le_of_ble_eq_true rfl) ?_
  intro k hk he hg
  subst hg

  refine xaload_n hk dX10_days_0 rfl ?_
  refine xaload_n hk dX10_days_1 rfl ?_
  refine xgetI (ci := 10) (f := 13) hk dX10_days_2 ⟨rfl, by decide, _, rfl, rfl⟩ kX10_163 ?_
  refine xcallV hk c_X10_ok bX10_ok kX10_376 dX10_days_5 rfl ⟨_, _, _, _, rfl, rfl⟩ rfl (by decide) ⟨by decide, by decide⟩ (Nat.le_of_ble_eq_true rfl) (det ?_)
  refine xiret hk he dX10_days_8 ⟨by decide, by decide⟩ ?_
  exact ⟨rfl, rfl⟩
set_option maxHeartbeats 4000000 in
set_option maxRecDepth 100000 in
theorem c_X10_ordersCarriedOut {g : Gx} {a : Nat → Nat} {x : XS} (hM : MK x) : Mx g yX10_ordersCarriedOut cX10_ordersCarriedOut 1 (some .int) 8 0 0 LM a x [.ref (a 0)] (pr (some (.int (x.1 0 14))) (r0 (x))) := by
  refine Mx_of (by decide +kernel) (Nat.le_of_ble_eq_true rfl) ?_
  intro k hk he hg
  subst hg

  refine xaload_n hk dX10_ordersCarriedOut_0 rfl ?_
  refine xaload_n hk dX10_ordersCarriedOut_1 rfl ?_
  refine xgetI (ci := 10) (f := 14) hk dX10_ordersCarriedOut_2 ⟨rfl, by decide, _, rfl, rfl⟩ kX10_160 ?_
  refine xcallV hk c_X10_ok bX10_ok kX10_376 dX10_ordersCarriedOut_5 rfl ⟨_, _, _, _, rfl, rfl⟩ rfl (by decide) ⟨by decide, by decide⟩ (Nat.le_of_ble_eq_true rfl) (det ?_)
  refine xiret hk he dX10_ordersCarriedOut_8 ⟨by decide, by decide⟩ ?_
  exact ⟨rfl, rfl⟩
set_option maxHeartbeats 4000000 in
set_option maxRecDepth 100000 in
theorem c_X10_tapeBytes {g : Gx} {a : Nat → Nat} {x : XS} (hM : MK x) : Mx g yX10_tapeBytes cX10_tapeBytes 1 (some .int) 8 0 0 LM a x [.ref (a 0)] (pr (some (.int (x.1 0 2))) (r0 (x))) := by
  refine Mx_of (by decide +kernel) (Nat.le_of_ble_eq_true rfl) ?_
  intro k hk he hg
  subst hg

  refine xaload_n hk dX10_tapeBytes_0 rfl ?_
  refine xaload_n hk dX10_tapeBytes_1 rfl ?_
  refine xgetI (ci := 10) (f := 2) hk dX10_tapeBytes_2 ⟨rfl, by decide, _, rfl, rfl⟩ kX10_200 ?_
  refine xcallV hk c_X10_ok bX10_ok kX10_376 dX10_tapeBytes_5 rfl ⟨_, _, _, _, rfl, rfl⟩ rfl (by decide) ⟨by decide, by decide⟩ (Nat.le_of_ble_eq_true rfl) (det ?_)
  refine xiret hk he dX10_tapeBytes_8 ⟨by decide, by decide⟩ ?_
  exact ⟨rfl, rfl⟩
set_option maxHeartbeats 4000000 in
set_option maxRecDepth 100000 in
theorem c_X10_standing {g : Gx} {a : Nat → Nat} {x : XS} (hM : MK x) : Mx g yX10_standing cX10_standing 1 (some .int) 8 0 0 LM a x [.ref (a 0)] (pr (some (.int (bcI (x.1 0 15)))) (r0 (x))) := by
  refine Mx_of (by decide +kernel) (Nat.le_of_ble_eq_true rfl) ?_
  intro k hk he hg
  subst hg

  refine xaload_n hk dX10_standing_0 rfl ?_
  refine xaload_n hk dX10_standing_1 rfl ?_
  refine xgetI (ci := 10) (f := 15) hk dX10_standing_2 ⟨rfl, by decide, _, rfl, rfl⟩ kX10_115 ?_
  refine xcallS hk c_J6_bitCount_0f7a4 bJ6_bitCount_0f7a4 kX10_106 dX10_standing_5 rfl rfl (by decide) ⟨by decide, by decide⟩ (Nat.le_of_ble_eq_true rfl) (det ?_)
  refine xcallV hk c_X10_ok bX10_ok kX10_376 dX10_standing_8 rfl ⟨_, _, _, _, rfl, rfl⟩ rfl (by decide) ⟨by decide, by decide⟩ (Nat.le_of_ble_eq_true rfl) (det ?_)
  refine xiret hk he dX10_standing_11 ⟨by decide, by decide⟩ ?_
  exact ⟨rfl, rfl⟩
set_option maxHeartbeats 4000000 in
set_option maxRecDepth 100000 in
theorem c_X10_parts {g : Gx} {a : Nat → Nat} {x : XS} (hM : MK x) : Mx g yX10_parts cX10_parts 1 (some .int) 8 0 0 LM a x [.ref (a 0)] (pr (some (.int ((mfol x).1 0 23))) (r0 (mfol x))) := by
  refine Mx_of (by decide +kernel) (Nat.le_of_ble_eq_true rfl) ?_
  intro k hk he hg
  subst hg

  refine xaload_n hk dX10_parts_0 rfl ?_
  refine xaload_n hk dX10_parts_1 rfl ?_
  refine xcallV hk (c_X10_partsNow hM.1) bX10_partsNow kX10_179 dX10_parts_2 rfl ⟨_, _, _, _, rfl, rfl⟩ rfl (by decide) ⟨by decide, by decide⟩ (Nat.le_of_ble_eq_true rfl) (det ?_)
  refine xcallV hk c_X10_ok bX10_ok kX10_376 dX10_parts_5 rfl ⟨_, _, _, _, rfl, rfl⟩ rfl (by decide) ⟨by decide, by decide⟩ (Nat.le_of_ble_eq_true rfl) (det ?_)
  refine xiret hk he dX10_parts_8 ⟨by decide, by decide⟩ ?_
  exact ⟨rfl, rfl⟩
set_option maxHeartbeats 4000000 in
set_option maxRecDepth 100000 in
theorem c_X10_peaces_ {g : Gx} {a : Nat → Nat} {x : XS} (hM : MK x) : Mx g yX10_peaces_ cX10_peaces_ 1 (some .int) 8 0 0 LM a x [.ref (a 0)] (pr (some (.int ((mlook (x.1 0 15) x).1 0 18))) (r0 (mlook (x.1 0 15) x))) := by
  refine Mx_of (by decide +kernel) (Nat.le_of_ble_eq_true rfl) ?_
  intro k hk he hg
  subst hg

  refine xaload_n hk dX10_peaces__0 rfl ?_
  refine xaload_n hk dX10_peaces__1 rfl ?_
  refine xaload_n hk dX10_peaces__2 rfl ?_
  refine xgetI (ci := 10) (f := 15) hk dX10_peaces__3 ⟨rfl, by decide, _, rfl, rfl⟩ kX10_115 ?_
  refine xcallV hk (c_X10_peaces hM.1) bX10_peaces kX10_182 dX10_peaces__6 rfl ⟨_, _, _, _, rfl, rfl⟩ rfl (by decide) ⟨by decide, by decide⟩ (Nat.le_of_ble_eq_true rfl) (det ?_)
  refine xcallV hk c_X10_ok bX10_ok kX10_376 dX10_peaces__9 rfl ⟨_, _, _, _, rfl, rfl⟩ rfl (by decide) ⟨by decide, by decide⟩ (Nat.le_of_ble_eq_true rfl) (det ?_)
  refine xiret hk he dX10_peaces__12 ⟨by decide, by decide⟩ ?_
  exact ⟨rfl, rfl⟩
def kindU (s : Int32) (z : XS) : Int32 × XS := if misSt z s then (kindF z s, z) else (0, setI z 0 0 1)
def fstU (q : Nat) (s : Int32) (z : XS) : Int32 × XS := if misSt z s then (z.1 q s.toNatClampNeg, z) else (0, setI z 0 0 1)
def stdU (s : Int32) (z : XS) : Bool × XS := if misSt z s then (mhasB (z.1 0 15) s, z) else (false, setI z 0 0 1)
def needU (s : Int32) (z : XS) : Bool × XS := if misSt z s then (if mhasB (z.1 0 15) s then
    let y := mlook (z.1 0 15) z
    let w := mlook (y.1 0 15 &&& (((1 : Int32) <<< (s &&& 31)) ^^^ (-1))) y
    (decide (w.1 0 18 = y.1 0 18), w) else (false, setI z 0 0 2)) else (false, setI z 0 0 1)
def folU (c d : Int32) (z : XS) : Bool × XS := if misCl z c then (if misCl z d then (mhasB ((mfol z).1 9 d.toNatClampNeg) c, mfol z) else (false, setI z 0 0 1)) else (false, setI z 0 0 1)
def whaU (d : Int32) (z : XS) : Int32 × XS := if misCl z d then (bcI ((mfol z).1 9 d.toNatClampNeg), mfol z) else (0, setI z 0 0 1)
def paoU (d : Int32) (z : XS) : Int32 × XS := if misCl z d then (smF (mfol z) d, mfol z) else (0, setI z 0 0 1)
def pasU (d : Int32) (z : XS) : Int32 × XS := if misCl z d then (sopI z d, mfol z) else (0, setI z 0 0 1)
def pewU (d : Int32) (z : XS) : Int32 × XS := if misCl z d then ((mlook (z.1 0 15) z).1 8 d.toNatClampNeg, mlook (z.1 0 15) z) else (0, setI z 0 0 1)
def posU (d : Int32) (z : XS) : Bool × XS := if misCl z d then (if (mlook (z.1 0 15) z).1 8 d.toNatClampNeg ≤ 0 then false else true, mlook (z.1 0 15) z) else (false, setI z 0 0 1)
def setU (d : Int32) (z : XS) : Bool × XS := if misCl z d then
    let y := mlook (z.1 0 15) z
    (if y.1 0 18 = 0 then (false, setI y 0 0 2) else
      let w := mlook (y.1 0 15) y
      (decide (w.1 8 d.toNatClampNeg = w.1 0 18), w)) else (false, setI z 0 0 1)
def ripU (d : Int32) (z : XS) : Bool × XS := if isInB d 0 (z.1 11 0 - 1) then
    let y := mlook (z.1 0 15) z
    (if y.1 0 18 = 0 then (false, setI y 0 0 2) else (mhasB (y.1 0 20) d, y)) else (false, setI z 0 0 1)
def rinU (z : XS) : Int32 × XS := let y := mlook (z.1 0 15) z; if y.1 0 18 = 0 then (0, setI y 0 0 1) else (bcI (y.1 0 20), y)
def brkU (s : Int32) (z : XS) : Int32 × XS := if misSt z s then (if mhasB (z.1 0 15) s then (bcI ((turnF z s).1 0 15), turnF z s) else (0, setI z 0 0 2)) else (0, setI z 0 0 1)
def renU (s : Int32) (z : XS) : Int32 × XS := if misSt z s then (if mhasB (z.1 0 15) s then (0, setI z 0 0 2) else (bcI ((turnF z s).1 0 15), turnF z s)) else (0, setI z 0 0 1)

set_option maxHeartbeats 4000000 in
set_option maxRecDepth 100000 in
theorem c_X10_kindOf {g : Gx} {a : Nat → Nat} {x : XS} {s : Int32} (hM : MK x) : Mx g yX10_kindOf cX10_kindOf 2 (some .int) 8 0 0 LM a x [.ref (a 0), .int s] (pr (some (.int (kindU s (r0 x)).1)) (kindU s (r0 x)).2) := by
  refine Mx_of (by decide +kernel) (Nat.le_of_ble_eq_true rfl) ?_
  intro k hk he hg
  subst hg

  refine xaload_n hk dX10_kindOf_0 rfl ?_
  refine xiconst (v := 0) hk dX10_kindOf_1 (by decide) ?_
  refine xputI (ci := 10) (f := 0) hk dX10_kindOf_2 ⟨rfl, by decide, _, rfl, rfl⟩ kX10_60 ⟨rfl, by decide +kernel⟩ ?_
  have hM := MK_r0 hM
  rw [show setI x 0 0 0 = r0 x from rfl]
  generalize r0 x = z at *
  refine xaload_n hk dX10_kindOf_5 rfl ?_
  refine xiload_n hk dX10_kindOf_6 rfl ?_
  refine xcallV hk c_X10_isStatement bX10_isStatement kX10_379 dX10_kindOf_7 rfl ⟨_, _, _, _, rfl, rfl⟩ rfl (by decide) ⟨by decide, by decide⟩ (Nat.le_of_ble_eq_true rfl) (det ?_)
  refine xif_eq hk 21 dX10_kindOf_10 (by decide) (fun h10 => ?_) (fun h10 => ?_)
  · rw [b2i_0] at h10
    refine xaload_n hk dX10_kindOf_21 rfl ?_
    refine xiconst (v := 1) hk dX10_kindOf_22 (by decide) ?_
    refine xcallV hk c_X10_no bX10_no kX10_367 dX10_kindOf_23 rfl ⟨_, _, _, _, rfl, rfl⟩ rfl (by decide) ⟨by decide, by decide⟩ (Nat.le_of_ble_eq_true rfl) (det ?_)
    refine xiret hk he dX10_kindOf_26 ⟨by decide, by decide⟩ ?_
    exact ⟨by first | (simp only [kindU, h10, if_true, if_false, Bool.false_eq_true, b2iT, b2iF]; done), by first | (simp only [kindU, h10, if_true, if_false, Bool.false_eq_true, b2iT, b2iF]; done)⟩
  · rw [b2i_t] at h10
    obtain ⟨c, hc, rfl⟩ := misSt_of hM h10
    have hs : vp_in (nI c) 20 := vp_in_nI hc (by decide)
    refine xaload_n hk dX10_kindOf_13 rfl ?_
    refine xiload_n hk dX10_kindOf_14 rfl ?_
    refine xcallV hk (c_X10_kindTold hs) bX10_kindTold kX10_382 dX10_kindOf_15 rfl ⟨_, _, _, _, rfl, rfl⟩ rfl (by decide) ⟨by decide, by decide⟩ (Nat.le_of_ble_eq_true rfl) (det ?_)
    refine xgoto hk 26 dX10_kindOf_18 (by decide) ?_
    refine xiret hk he dX10_kindOf_26 ⟨by decide, by decide⟩ ?_
    exact ⟨by first | (simp only [kindU, h10, if_true, if_false, Bool.false_eq_true, b2iT, b2iF]; done), by first | (simp only [kindU, h10, if_true, if_false, Bool.false_eq_true, b2iT, b2iF]; done)⟩
set_option maxHeartbeats 4000000 in
set_option maxRecDepth 100000 in
theorem c_X10_firstClaimOf {g : Gx} {a : Nat → Nat} {x : XS} {s : Int32} (hM : MK x) : Mx g yX10_firstClaimOf cX10_firstClaimOf 2 (some .int) 8 0 0 LM a x [.ref (a 0), .int s] (pr (some (.int (fstU 13 s (r0 x)).1)) (fstU 13 s (r0 x)).2) := by
  refine Mx_of (by decide +kernel) (Nat.le_of_ble_eq_true rfl) ?_
  intro k hk he hg
  subst hg

  refine xaload_n hk dX10_firstClaimOf_0 rfl ?_
  refine xiconst (v := 0) hk dX10_firstClaimOf_1 (by decide) ?_
  refine xputI (ci := 10) (f := 0) hk dX10_firstClaimOf_2 ⟨rfl, by decide, _, rfl, rfl⟩ kX10_60 ⟨rfl, by decide +kernel⟩ ?_
  have hM := MK_r0 hM
  rw [show setI x 0 0 0 = r0 x from rfl]
  generalize r0 x = z at *
  refine xaload_n hk dX10_firstClaimOf_5 rfl ?_
  refine xiload_n hk dX10_firstClaimOf_6 rfl ?_
  refine xcallV hk c_X10_isStatement bX10_isStatement kX10_379 dX10_firstClaimOf_7 rfl ⟨_, _, _, _, rfl, rfl⟩ rfl (by decide) ⟨by decide, by decide⟩ (Nat.le_of_ble_eq_true rfl) (det ?_)
  refine xif_eq hk 25 dX10_firstClaimOf_10 (by decide) (fun h10 => ?_) (fun h10 => ?_)
  · rw [b2i_0] at h10
    refine xaload_n hk dX10_firstClaimOf_25 rfl ?_
    refine xiconst (v := 1) hk dX10_firstClaimOf_26 (by decide) ?_
    refine xcallV hk c_X10_no bX10_no kX10_367 dX10_firstClaimOf_27 rfl ⟨_, _, _, _, rfl, rfl⟩ rfl (by decide) ⟨by decide, by decide⟩ (Nat.le_of_ble_eq_true rfl) (det ?_)
    refine xiret hk he dX10_firstClaimOf_30 ⟨by decide, by decide⟩ ?_
    exact ⟨by first | (simp only [fstU, h10, if_true, if_false, Bool.false_eq_true, b2iT, b2iF]; done), by first | (simp only [fstU, h10, if_true, if_false, Bool.false_eq_true, b2iT, b2iF]; done)⟩
  · rw [b2i_t] at h10
    obtain ⟨c, hc, rfl⟩ := misSt_of hM h10
    have hs : vp_in (nI c) 20 := vp_in_nI hc (by decide)
    refine xaload_n hk dX10_firstClaimOf_13 rfl ?_
    refine xgetR (ci := 10) (f := 11) hk dX10_firstClaimOf_14 ⟨rfl, by decide, _, rfl, rfl⟩ kX10_35 ?_
    refine xgetNR (ci := 9) (f := 3) hk dX10_firstClaimOf_17 ⟨rfl, by decide, _, rfl, rfl⟩ kX10_337 ?_
    refine xiload_n hk dX10_firstClaimOf_20 rfl ?_
    refine xiald hk dX10_firstClaimOf_21 rfl (vp_in_nI hc (by decide)) ?_
    refine xgoto hk 30 dX10_firstClaimOf_22 (by decide) ?_
    refine xiret hk he dX10_firstClaimOf_30 ⟨by decide, by decide⟩ ?_
    exact ⟨by first | (simp only [fstU, h10, if_true, if_false, Bool.false_eq_true, b2iT, b2iF]; done), by first | (simp only [fstU, h10, if_true, if_false, Bool.false_eq_true, b2iT, b2iF]; done)⟩
set_option maxHeartbeats 4000000 in
set_option maxRecDepth 100000 in
theorem c_X10_secondClaimOf {g : Gx} {a : Nat → Nat} {x : XS} {s : Int32} (hM : MK x) : Mx g yX10_secondClaimOf cX10_secondClaimOf 2 (some .int) 8 0 0 LM a x [.ref (a 0), .int s] (pr (some (.int (fstU 14 s (r0 x)).1)) (fstU 14 s (r0 x)).2) := by
  refine Mx_of (by decide +kernel) (Nat.le_of_ble_eq_true rfl) ?_
  intro k hk he hg
  subst hg

  refine xaload_n hk dX10_secondClaimOf_0 rfl ?_
  refine xiconst (v := 0) hk dX10_secondClaimOf_1 (by decide) ?_
  refine xputI (ci := 10) (f := 0) hk dX10_secondClaimOf_2 ⟨rfl, by decide, _, rfl, rfl⟩ kX10_60 ⟨rfl, by decide +kernel⟩ ?_
  have hM := MK_r0 hM
  rw [show setI x 0 0 0 = r0 x from rfl]
  generalize r0 x = z at *
  refine xaload_n hk dX10_secondClaimOf_5 rfl ?_
  refine xiload_n hk dX10_secondClaimOf_6 rfl ?_
  refine xcallV hk c_X10_isStatement bX10_isStatement kX10_379 dX10_secondClaimOf_7 rfl ⟨_, _, _, _, rfl, rfl⟩ rfl (by decide) ⟨by decide, by decide⟩ (Nat.le_of_ble_eq_true rfl) (det ?_)
  refine xif_eq hk 25 dX10_secondClaimOf_10 (by decide) (fun h10 => ?_) (fun h10 => ?_)
  · rw [b2i_0] at h10
    refine xaload_n hk dX10_secondClaimOf_25 rfl ?_
    refine xiconst (v := 1) hk dX10_secondClaimOf_26 (by decide) ?_
    refine xcallV hk c_X10_no bX10_no kX10_367 dX10_secondClaimOf_27 rfl ⟨_, _, _, _, rfl, rfl⟩ rfl (by decide) ⟨by decide, by decide⟩ (Nat.le_of_ble_eq_true rfl) (det ?_)
    refine xiret hk he dX10_secondClaimOf_30 ⟨by decide, by decide⟩ ?_
    exact ⟨by first | (simp only [fstU, h10, if_true, if_false, Bool.false_eq_true, b2iT, b2iF]; done), by first | (simp only [fstU, h10, if_true, if_false, Bool.false_eq_true, b2iT, b2iF]; done)⟩
  · rw [b2i_t] at h10
    obtain ⟨c, hc, rfl⟩ := misSt_of hM h10
    have hs : vp_in (nI c) 20 := vp_in_nI hc (by decide)
    refine xaload_n hk dX10_secondClaimOf_13 rfl ?_
    refine xgetR (ci := 10) (f := 11) hk dX10_secondClaimOf_14 ⟨rfl, by decide, _, rfl, rfl⟩ kX10_35 ?_
    refine xgetNR (ci := 9) (f := 4) hk dX10_secondClaimOf_17 ⟨rfl, by decide, _, rfl, rfl⟩ kX10_340 ?_
    refine xiload_n hk dX10_secondClaimOf_20 rfl ?_
    refine xiald hk dX10_secondClaimOf_21 rfl (vp_in_nI hc (by decide)) ?_
    refine xgoto hk 30 dX10_secondClaimOf_22 (by decide) ?_
    refine xiret hk he dX10_secondClaimOf_30 ⟨by decide, by decide⟩ ?_
    exact ⟨by first | (simp only [fstU, h10, if_true, if_false, Bool.false_eq_true, b2iT, b2iF]; done), by first | (simp only [fstU, h10, if_true, if_false, Bool.false_eq_true, b2iT, b2iF]; done)⟩
set_option maxHeartbeats 4000000 in
set_option maxRecDepth 100000 in
theorem c_X10_stands {g : Gx} {a : Nat → Nat} {x : XS} {s : Int32} (hM : MK x) : Mx g yX10_stands cX10_stands 2 (some .boolean) 8 0 0 LM a x [.ref (a 0), .int s] (pr (some (.int (b2i (stdU s (r0 x)).1))) (stdU s (r0 x)).2) := by
  refine Mx_of (by decide +kernel) (Nat.le_of_ble_eq_true rfl) ?_
  intro k hk he hg
  subst hg

  refine xaload_n hk dX10_stands_0 rfl ?_
  refine xiconst (v := 0) hk dX10_stands_1 (by decide) ?_
  refine xputI (ci := 10) (f := 0) hk dX10_stands_2 ⟨rfl, by decide, _, rfl, rfl⟩ kX10_60 ⟨rfl, by decide +kernel⟩ ?_
  have hM := MK_r0 hM
  rw [show setI x 0 0 0 = r0 x from rfl]
  generalize r0 x = z at *
  refine xaload_n hk dX10_stands_5 rfl ?_
  refine xiload_n hk dX10_stands_6 rfl ?_
  refine xcallV hk c_X10_isStatement bX10_isStatement kX10_379 dX10_stands_7 rfl ⟨_, _, _, _, rfl, rfl⟩ rfl (by decide) ⟨by decide, by decide⟩ (Nat.le_of_ble_eq_true rfl) (det ?_)
  refine xif_eq hk 24 dX10_stands_10 (by decide) (fun h10 => ?_) (fun h10 => ?_)
  · rw [b2i_0] at h10
    refine xaload_n hk dX10_stands_24 rfl ?_
    refine xiconst (v := 1) hk dX10_stands_25 (by decide) ?_
    refine xcallV hk c_X10_isNot bX10_isNot kX10_385 dX10_stands_26 rfl ⟨_, _, _, _, rfl, rfl⟩ rfl (by decide) ⟨by decide, by decide⟩ (Nat.le_of_ble_eq_true rfl) (det ?_)
    refine xzret hk he dX10_stands_29 ⟨by decide, by decide⟩ (by first | with_reducible exact nar_b _ | rfl) ?_
    exact ⟨by first | (simp only [stdU, h10, if_true, if_false, Bool.false_eq_true, b2iT, b2iF]; done), by first | (simp only [stdU, h10, if_true, if_false, Bool.false_eq_true, b2iT, b2iF]; done)⟩
  · rw [b2i_t] at h10
    refine xaload_n hk dX10_stands_13 rfl ?_
    refine xgetI (ci := 10) (f := 15) hk dX10_stands_14 ⟨rfl, by decide, _, rfl, rfl⟩ kX10_115 ?_
    refine xiload_n hk dX10_stands_17 rfl ?_
    refine xcallS hk c_X10_has bX10_has kX10_74 dX10_stands_18 rfl rfl (by decide) ⟨by decide, by decide⟩ (Nat.le_of_ble_eq_true rfl) (det ?_)
    refine xgoto hk 29 dX10_stands_21 (by decide) ?_
    refine xzret hk he dX10_stands_29 ⟨by decide, by decide⟩ (by first | with_reducible exact nar_b _ | rfl) ?_
    exact ⟨by first | (simp only [stdU, h10, if_true, if_false, Bool.false_eq_true, b2iT, b2iF]; done), by first | (simp only [stdU, h10, if_true, if_false, Bool.false_eq_true, b2iT, b2iF]; done)⟩
set_option maxHeartbeats 4000000 in
set_option maxRecDepth 100000 in
theorem c_X10_isNeedless {g : Gx} {a : Nat → Nat} {x : XS} {s : Int32} (hM : MK x) : Mx g yX10_isNeedless cX10_isNeedless 3 (some .boolean) 8 0 0 LM a x [.ref (a 0), .int s] (pr (some (.int (b2i (needU s (r0 x)).1))) (needU s (r0 x)).2) := by
  refine Mx_of (by decide +kernel) (Nat.le_of_ble_eq_true rfl) ?_
  intro k hk he hg
  subst hg

  refine xaload_n hk dX10_isNeedless_0 rfl ?_
  refine xiconst (v := 0) hk dX10_isNeedless_1 (by decide) ?_
  refine xputI (ci := 10) (f := 0) hk dX10_isNeedless_2 ⟨rfl, by decide, _, rfl, rfl⟩ kX10_60 ⟨rfl, by decide +kernel⟩ ?_
  have hM := MK_r0 hM
  rw [show setI x 0 0 0 = r0 x from rfl]
  generalize r0 x = z at *
  refine xaload_n hk dX10_isNeedless_5 rfl ?_
  refine xiload_n hk dX10_isNeedless_6 rfl ?_
  refine xcallV hk c_X10_isStatement bX10_isStatement kX10_379 dX10_isNeedless_7 rfl ⟨_, _, _, _, rfl, rfl⟩ rfl (by decide) ⟨by decide, by decide⟩ (Nat.le_of_ble_eq_true rfl) (det ?_)
  refine xif_ne hk 19 dX10_isNeedless_10 (by decide) (fun h10 => ?_) (fun h10 => ?_)
  · rw [b2i_t] at h10
    refine xaload_n hk dX10_isNeedless_19 rfl ?_
    refine xgetI (ci := 10) (f := 15) hk dX10_isNeedless_20 ⟨rfl, by decide, _, rfl, rfl⟩ kX10_115 ?_
    refine xiload_n hk dX10_isNeedless_23 rfl ?_
    refine xcallS hk c_X10_has bX10_has kX10_74 dX10_isNeedless_24 rfl rfl (by decide) ⟨by decide, by decide⟩ (Nat.le_of_ble_eq_true rfl) (det ?_)
    refine xif_ne hk 36 dX10_isNeedless_27 (by decide) (fun h27 => ?_) (fun h27 => ?_)
    · rw [b2i_t] at h27
      refine xaload_n hk dX10_isNeedless_36 rfl ?_
      refine xaload_n hk dX10_isNeedless_37 rfl ?_
      refine xgetI (ci := 10) (f := 15) hk dX10_isNeedless_38 ⟨rfl, by decide, _, rfl, rfl⟩ kX10_115 ?_
      refine xcallV hk (c_X10_peaces hM.1) bX10_peaces kX10_182 dX10_isNeedless_41 rfl ⟨_, _, _, _, rfl, rfl⟩ rfl (by decide) ⟨by decide, by decide⟩ (Nat.le_of_ble_eq_true rfl) (det ?_)
      refine xistore_n hk dX10_isNeedless_44 (by decide) ?_
      refine xaload_n hk dX10_isNeedless_45 rfl ?_
      refine xaload_n hk dX10_isNeedless_46 rfl ?_
      refine xgetI (ci := 10) (f := 15) hk dX10_isNeedless_47 ⟨rfl, by decide, _, rfl, rfl⟩ kX10_115 ?_
      refine xiconst (v := 1) hk dX10_isNeedless_50 (by decide) ?_
      refine xiload_n hk dX10_isNeedless_51 rfl ?_
      refine xishl hk dX10_isNeedless_52 ?_
      refine xiconst (v := (-1)) hk dX10_isNeedless_53 (by decide) ?_
      refine xixor hk dX10_isNeedless_54 ?_
      refine xiand hk dX10_isNeedless_55 ?_
      refine xcallV hk (c_X10_peaces (MOK_look hM.1)) bX10_peaces kX10_182 dX10_isNeedless_56 rfl ⟨_, _, _, _, rfl, rfl⟩ rfl (by decide) ⟨by decide, by decide⟩ (Nat.le_of_ble_eq_true rfl) (det ?_)
      refine xiload_n hk dX10_isNeedless_59 rfl ?_
      refine xicmp_ne hk 67 dX10_isNeedless_60 (by decide) (fun h60 => ?_) (fun h60 => ?_)
      · refine xiconst (v := 0) hk dX10_isNeedless_67 (by decide) ?_
        refine xzret hk he dX10_isNeedless_68 ⟨by decide, by decide⟩ (by first | with_reducible exact nar_b _ | rfl) ?_
        exact ⟨by first | (simp only [needU, h10, h27, h60, if_true, if_false, Bool.false_eq_true, b2iT, b2iF, decide_true, decide_false]; done) | (simp only [needU, h10, h27, if_true, if_false, Bool.false_eq_true, b2iT, b2iF, decide_true, decide_false]; done) | (simp only [needU, h10, if_true, if_false, Bool.false_eq_true, b2iT, b2iF, decide_true, decide_false]; done), by first | (simp only [needU, h10, h27, h60, if_true, if_false, Bool.false_eq_true, b2iT, b2iF, decide_true, decide_false]; done) | (simp only [needU, h10, h27, if_true, if_false, Bool.false_eq_true, b2iT, b2iF, decide_true, decide_false]; done) | (simp only [needU, h10, if_true, if_false, Bool.false_eq_true, b2iT, b2iF, decide_true, decide_false]; done) | rfl⟩
      · refine xiconst (v := 1) hk dX10_isNeedless_63 (by decide) ?_
        refine xgoto hk 68 dX10_isNeedless_64 (by decide) ?_
        refine xzret hk he dX10_isNeedless_68 ⟨by decide, by decide⟩ (by first | with_reducible exact nar_b _ | rfl) ?_
        exact ⟨by first | (simp only [needU, h10, h27, h60, if_true, if_false, Bool.false_eq_true, b2iT, b2iF, decide_true, decide_false]; done) | (simp only [needU, h10, h27, if_true, if_false, Bool.false_eq_true, b2iT, b2iF, decide_true, decide_false]; done) | (simp only [needU, h10, if_true, if_false, Bool.false_eq_true, b2iT, b2iF, decide_true, decide_false]; done), by first | (simp only [needU, h10, h27, h60, if_true, if_false, Bool.false_eq_true, b2iT, b2iF, decide_true, decide_false]; done) | (simp only [needU, h10, h27, if_true, if_false, Bool.false_eq_true, b2iT, b2iF, decide_true, decide_false]; done) | (simp only [needU, h10, if_true, if_false, Bool.false_eq_true, b2iT, b2iF, decide_true, decide_false]; done) | rfl⟩
    · rw [b2i_0] at h27
      refine xaload_n hk dX10_isNeedless_30 rfl ?_
      refine xiconst (v := 2) hk dX10_isNeedless_31 (by decide) ?_
      refine xcallV hk c_X10_isNot bX10_isNot kX10_385 dX10_isNeedless_32 rfl ⟨_, _, _, _, rfl, rfl⟩ rfl (by decide) ⟨by decide, by decide⟩ (Nat.le_of_ble_eq_true rfl) (det ?_)
      refine xzret hk he dX10_isNeedless_35 ⟨by decide, by decide⟩ (by first | with_reducible exact nar_b _ | rfl) ?_
      exact ⟨by first | (simp only [needU, h10, h27, h60, if_true, if_false, Bool.false_eq_true, b2iT, b2iF, decide_true, decide_false]; done) | (simp only [needU, h10, h27, if_true, if_false, Bool.false_eq_true, b2iT, b2iF, decide_true, decide_false]; done) | (simp only [needU, h10, if_true, if_false, Bool.false_eq_true, b2iT, b2iF, decide_true, decide_false]; done), by first | (simp only [needU, h10, h27, h60, if_true, if_false, Bool.false_eq_true, b2iT, b2iF, decide_true, decide_false]; done) | (simp only [needU, h10, h27, if_true, if_false, Bool.false_eq_true, b2iT, b2iF, decide_true, decide_false]; done) | (simp only [needU, h10, if_true, if_false, Bool.false_eq_true, b2iT, b2iF, decide_true, decide_false]; done) | rfl⟩
  · rw [b2i_0] at h10
    refine xaload_n hk dX10_isNeedless_13 rfl ?_
    refine xiconst (v := 1) hk dX10_isNeedless_14 (by decide) ?_
    refine xcallV hk c_X10_isNot bX10_isNot kX10_385 dX10_isNeedless_15 rfl ⟨_, _, _, _, rfl, rfl⟩ rfl (by decide) ⟨by decide, by decide⟩ (Nat.le_of_ble_eq_true rfl) (det ?_)
    refine xzret hk he dX10_isNeedless_18 ⟨by decide, by decide⟩ (by first | with_reducible exact nar_b _ | rfl) ?_
    exact ⟨by first | (simp only [needU, h10, h27, h60, if_true, if_false, Bool.false_eq_true, b2iT, b2iF, decide_true, decide_false]; done) | (simp only [needU, h10, h27, if_true, if_false, Bool.false_eq_true, b2iT, b2iF, decide_true, decide_false]; done) | (simp only [needU, h10, if_true, if_false, Bool.false_eq_true, b2iT, b2iF, decide_true, decide_false]; done), by first | (simp only [needU, h10, h27, h60, if_true, if_false, Bool.false_eq_true, b2iT, b2iF, decide_true, decide_false]; done) | (simp only [needU, h10, h27, if_true, if_false, Bool.false_eq_true, b2iT, b2iF, decide_true, decide_false]; done) | (simp only [needU, h10, if_true, if_false, Bool.false_eq_true, b2iT, b2iF, decide_true, decide_false]; done) | rfl⟩
set_option maxHeartbeats 4000000 in
set_option maxRecDepth 100000 in
theorem c_X10_follows {g : Gx} {a : Nat → Nat} {x : XS} {p q : Int32} (hM : MK x) : Mx g yX10_follows cX10_follows 3 (some .boolean) 8 0 0 LM a x [.ref (a 0), .int p, .int q] (pr (some (.int (b2i (folU p q (r0 x)).1))) (folU p q (r0 x)).2) := by
  refine Mx_of (by decide +kernel) (Nat.le_of_ble_eq_true rfl) ?_
  intro k hk he hg
  subst hg

  refine xaload_n hk dX10_follows_0 rfl ?_
  refine xiconst (v := 0) hk dX10_follows_1 (by decide) ?_
  refine xputI (ci := 10) (f := 0) hk dX10_follows_2 ⟨rfl, by decide, _, rfl, rfl⟩ kX10_60 ⟨rfl, by decide +kernel⟩ ?_
  have hM := MK_r0 hM
  rw [show setI x 0 0 0 = r0 x from rfl]
  generalize r0 x = z at *
  refine xaload_n hk dX10_follows_5 rfl ?_
  refine xiload_n hk dX10_follows_6 rfl ?_
  refine xcallV hk c_X10_isClaim bX10_isClaim kX10_388 dX10_follows_7 rfl ⟨_, _, _, _, rfl, rfl⟩ rfl (by decide) ⟨by decide, by decide⟩ (Nat.le_of_ble_eq_true rfl) (det ?_)
  refine xif_eq hk 30 dX10_follows_10 (by decide) (fun h10 => ?_) (fun h10 => ?_)
  · rw [b2i_0] at h10
    refine xaload_n hk dX10_follows_30 rfl ?_
    refine xiconst (v := 1) hk dX10_follows_31 (by decide) ?_
    refine xcallV hk c_X10_isNot bX10_isNot kX10_385 dX10_follows_32 rfl ⟨_, _, _, _, rfl, rfl⟩ rfl (by decide) ⟨by decide, by decide⟩ (Nat.le_of_ble_eq_true rfl) (det ?_)
    refine xzret hk he dX10_follows_35 ⟨by decide, by decide⟩ (by first | with_reducible exact nar_b _ | rfl) ?_
    exact ⟨by first | (simp only [folU, h10, h18, nI_clamp (show d < 2 ^ 31 by omega), if_true, if_false, Bool.false_eq_true, b2iT, b2iF, decide_true, decide_false]; done) | (simp only [folU, h10, h18, if_true, if_false, Bool.false_eq_true, b2iT, b2iF, decide_true, decide_false]; done) | (simp only [folU, h10, if_true, if_false, Bool.false_eq_true, b2iT, b2iF, decide_true, decide_false]; done), by first | (simp only [folU, h10, h18, nI_clamp (show d < 2 ^ 31 by omega), if_true, if_false, Bool.false_eq_true, b2iT, b2iF, decide_true, decide_false]; done) | (simp only [folU, h10, h18, if_true, if_false, Bool.false_eq_true, b2iT, b2iF, decide_true, decide_false]; done) | (simp only [folU, h10, if_true, if_false, Bool.false_eq_true, b2iT, b2iF, decide_true, decide_false]; done) | rfl⟩
  · rw [b2i_t] at h10
    refine xaload_n hk dX10_follows_13 rfl ?_
    refine xiload_n hk dX10_follows_14 rfl ?_
    refine xcallV hk c_X10_isClaim bX10_isClaim kX10_388 dX10_follows_15 rfl ⟨_, _, _, _, rfl, rfl⟩ rfl (by decide) ⟨by decide, by decide⟩ (Nat.le_of_ble_eq_true rfl) (det ?_)
    refine xif_eq hk 30 dX10_follows_18 (by decide) (fun h18 => ?_) (fun h18 => ?_)
    · rw [b2i_0] at h18
      refine xaload_n hk dX10_follows_30 rfl ?_
      refine xiconst (v := 1) hk dX10_follows_31 (by decide) ?_
      refine xcallV hk c_X10_isNot bX10_isNot kX10_385 dX10_follows_32 rfl ⟨_, _, _, _, rfl, rfl⟩ rfl (by decide) ⟨by decide, by decide⟩ (Nat.le_of_ble_eq_true rfl) (det ?_)
      refine xzret hk he dX10_follows_35 ⟨by decide, by decide⟩ (by first | with_reducible exact nar_b _ | rfl) ?_
      exact ⟨by first | (simp only [folU, h10, h18, nI_clamp (show d < 2 ^ 31 by omega), if_true, if_false, Bool.false_eq_true, b2iT, b2iF, decide_true, decide_false]; done) | (simp only [folU, h10, h18, if_true, if_false, Bool.false_eq_true, b2iT, b2iF, decide_true, decide_false]; done) | (simp only [folU, h10, if_true, if_false, Bool.false_eq_true, b2iT, b2iF, decide_true, decide_false]; done), by first | (simp only [folU, h10, h18, nI_clamp (show d < 2 ^ 31 by omega), if_true, if_false, Bool.false_eq_true, b2iT, b2iF, decide_true, decide_false]; done) | (simp only [folU, h10, h18, if_true, if_false, Bool.false_eq_true, b2iT, b2iF, decide_true, decide_false]; done) | (simp only [folU, h10, if_true, if_false, Bool.false_eq_true, b2iT, b2iF, decide_true, decide_false]; done) | rfl⟩
    · rw [b2i_t] at h18
      have h10z := h10
      have h18z := h18
      obtain ⟨c, hc, rfl⟩ := misCl_of hM h10
      obtain ⟨d, hd, rfl⟩ := misCl_of hM h18
      refine xaload_n hk dX10_follows_21 rfl ?_
      refine xiload_n hk dX10_follows_22 rfl ?_
      refine xiload_n hk dX10_follows_23 rfl ?_
      refine xcallV hk (c_X10_isFrom hM.1 hc hd) bX10_isFrom kX10_189 dX10_follows_24 rfl ⟨_, _, _, _, rfl, rfl⟩ rfl (by decide) ⟨by decide, by decide⟩ (Nat.le_of_ble_eq_true rfl) (det ?_)
      refine xgoto hk 35 dX10_follows_27 (by decide) ?_
      refine xzret hk he dX10_follows_35 ⟨by decide, by decide⟩ (by first | with_reducible exact nar_b _ | rfl) ?_
      exact ⟨by first | (simp only [folU, h10, h18, nI_clamp (show d < 2 ^ 31 by omega), if_true, if_false, Bool.false_eq_true, b2iT, b2iF, decide_true, decide_false]; done) | (simp only [folU, h10, h18, if_true, if_false, Bool.false_eq_true, b2iT, b2iF, decide_true, decide_false]; done) | (simp only [folU, h10, if_true, if_false, Bool.false_eq_true, b2iT, b2iF, decide_true, decide_false]; done), by first | (simp only [folU, h10, h18, nI_clamp (show d < 2 ^ 31 by omega), if_true, if_false, Bool.false_eq_true, b2iT, b2iF, decide_true, decide_false]; done) | (simp only [folU, h10, h18, if_true, if_false, Bool.false_eq_true, b2iT, b2iF, decide_true, decide_false]; done) | (simp only [folU, h10, if_true, if_false, Bool.false_eq_true, b2iT, b2iF, decide_true, decide_false]; done) | rfl⟩
set_option maxHeartbeats 4000000 in
set_option maxRecDepth 100000 in
theorem c_X10_whatFollowsFrom {g : Gx} {a : Nat → Nat} {x : XS} {p : Int32} (hM : MK x) : Mx g yX10_whatFollowsFrom cX10_whatFollowsFrom 2 (some .int) 8 0 0 LM a x [.ref (a 0), .int p] (pr (some (.int (whaU p (r0 x)).1)) (whaU p (r0 x)).2) := by
  refine Mx_of (by decide +kernel) (Nat.le_of_ble_eq_true rfl) ?_
  intro k hk he hg
  subst hg

  refine xaload_n hk dX10_whatFollowsFrom_0 rfl ?_
  refine xiconst (v := 0) hk dX10_whatFollowsFrom_1 (by decide) ?_
  refine xputI (ci := 10) (f := 0) hk dX10_whatFollowsFrom_2 ⟨rfl, by decide, _, rfl, rfl⟩ kX10_60 ⟨rfl, by decide +kernel⟩ ?_
  have hM := MK_r0 hM
  rw [show setI x 0 0 0 = r0 x from rfl]
  generalize r0 x = z at *
  refine xaload_n hk dX10_whatFollowsFrom_5 rfl ?_
  refine xiload_n hk dX10_whatFollowsFrom_6 rfl ?_
  refine xcallV hk c_X10_isClaim bX10_isClaim kX10_388 dX10_whatFollowsFrom_7 rfl ⟨_, _, _, _, rfl, rfl⟩ rfl (by decide) ⟨by decide, by decide⟩ (Nat.le_of_ble_eq_true rfl) (det ?_)
  refine xif_eq hk 21 dX10_whatFollowsFrom_10 (by decide) (fun h10 => ?_) (fun h10 => ?_)
  · rw [b2i_0] at h10
    refine xaload_n hk dX10_whatFollowsFrom_21 rfl ?_
    refine xiconst (v := 1) hk dX10_whatFollowsFrom_22 (by decide) ?_
    refine xcallV hk c_X10_no bX10_no kX10_367 dX10_whatFollowsFrom_23 rfl ⟨_, _, _, _, rfl, rfl⟩ rfl (by decide) ⟨by decide, by decide⟩ (Nat.le_of_ble_eq_true rfl) (det ?_)
    refine xiret hk he dX10_whatFollowsFrom_26 ⟨by decide, by decide⟩ ?_
    exact ⟨by first | (simp only [whaU, h10, nI_clamp (show c < 2 ^ 31 by omega), if_true, if_false, Bool.false_eq_true, b2iT, b2iF, decide_true, decide_false]; done) | (simp only [whaU, h10, if_true, if_false, Bool.false_eq_true, b2iT, b2iF, decide_true, decide_false]; done), by first | (simp only [whaU, h10, nI_clamp (show c < 2 ^ 31 by omega), if_true, if_false, Bool.false_eq_true, b2iT, b2iF, decide_true, decide_false]; done) | (simp only [whaU, h10, if_true, if_false, Bool.false_eq_true, b2iT, b2iF, decide_true, decide_false]; done) | rfl⟩
  · rw [b2i_t] at h10
    obtain ⟨c, hc, rfl⟩ := misCl_of hM h10
    refine xaload_n hk dX10_whatFollowsFrom_13 rfl ?_
    refine xiload_n hk dX10_whatFollowsFrom_14 rfl ?_
    refine xcallV hk (c_X10_following hM.1 hc) bX10_following kX10_391 dX10_whatFollowsFrom_15 rfl ⟨_, _, _, _, rfl, rfl⟩ rfl (by decide) ⟨by decide, by decide⟩ (Nat.le_of_ble_eq_true rfl) (det ?_)
    refine xgoto hk 26 dX10_whatFollowsFrom_18 (by decide) ?_
    refine xiret hk he dX10_whatFollowsFrom_26 ⟨by decide, by decide⟩ ?_
    exact ⟨by first | (simp only [whaU, h10, nI_clamp (show c < 2 ^ 31 by omega), if_true, if_false, Bool.false_eq_true, b2iT, b2iF, decide_true, decide_false]; done) | (simp only [whaU, h10, if_true, if_false, Bool.false_eq_true, b2iT, b2iF, decide_true, decide_false]; done), by first | (simp only [whaU, h10, nI_clamp (show c < 2 ^ 31 by omega), if_true, if_false, Bool.false_eq_true, b2iT, b2iF, decide_true, decide_false]; done) | (simp only [whaU, h10, if_true, if_false, Bool.false_eq_true, b2iT, b2iF, decide_true, decide_false]; done) | rfl⟩
set_option maxHeartbeats 4000000 in
set_option maxRecDepth 100000 in
theorem c_X10_partOf {g : Gx} {a : Nat → Nat} {x : XS} {p : Int32} (hM : MK x) (hD : (r0 x).1 0 22 = (r0 x).1 0 15 → DIA (r0 x)) : Mx g yX10_partOf cX10_partOf 2 (some .int) 8 0 0 LM a x [.ref (a 0), .int p] (pr (some (.int (paoU p (r0 x)).1)) (paoU p (r0 x)).2) := by
  refine Mx_of (by decide +kernel) (Nat.le_of_ble_eq_true rfl) ?_
  intro k hk he hg
  subst hg

  refine xaload_n hk dX10_partOf_0 rfl ?_
  refine xiconst (v := 0) hk dX10_partOf_1 (by decide) ?_
  refine xputI (ci := 10) (f := 0) hk dX10_partOf_2 ⟨rfl, by decide, _, rfl, rfl⟩ kX10_60 ⟨rfl, by decide +kernel⟩ ?_
  have hM := MK_r0 hM
  rw [show setI x 0 0 0 = r0 x from rfl]
  generalize r0 x = z at *
  refine xaload_n hk dX10_partOf_5 rfl ?_
  refine xiload_n hk dX10_partOf_6 rfl ?_
  refine xcallV hk c_X10_isClaim bX10_isClaim kX10_388 dX10_partOf_7 rfl ⟨_, _, _, _, rfl, rfl⟩ rfl (by decide) ⟨by decide, by decide⟩ (Nat.le_of_ble_eq_true rfl) (det ?_)
  refine xif_eq hk 21 dX10_partOf_10 (by decide) (fun h10 => ?_) (fun h10 => ?_)
  · rw [b2i_0] at h10
    refine xaload_n hk dX10_partOf_21 rfl ?_
    refine xiconst (v := 1) hk dX10_partOf_22 (by decide) ?_
    refine xcallV hk c_X10_no bX10_no kX10_367 dX10_partOf_23 rfl ⟨_, _, _, _, rfl, rfl⟩ rfl (by decide) ⟨by decide, by decide⟩ (Nat.le_of_ble_eq_true rfl) (det ?_)
    refine xiret hk he dX10_partOf_26 ⟨by decide, by decide⟩ ?_
    exact ⟨by first | (simp only [paoU, h10, nI_clamp (show c < 2 ^ 31 by omega), if_true, if_false, Bool.false_eq_true, b2iT, b2iF, decide_true, decide_false]; done) | (simp only [paoU, h10, if_true, if_false, Bool.false_eq_true, b2iT, b2iF, decide_true, decide_false]; done), by first | (simp only [paoU, h10, nI_clamp (show c < 2 ^ 31 by omega), if_true, if_false, Bool.false_eq_true, b2iT, b2iF, decide_true, decide_false]; done) | (simp only [paoU, h10, if_true, if_false, Bool.false_eq_true, b2iT, b2iF, decide_true, decide_false]; done) | rfl⟩
  · rw [b2i_t] at h10
    obtain ⟨c, hc, rfl⟩ := misCl_of hM h10
    refine xaload_n hk dX10_partOf_13 rfl ?_
    refine xiload_n hk dX10_partOf_14 rfl ?_
    refine xcallV hk (c_X10_ofPart hM.1 hc hD) bX10_ofPart kX10_397 dX10_partOf_15 rfl ⟨_, _, _, _, rfl, rfl⟩ rfl (by decide) ⟨by decide, by decide⟩ (Nat.le_of_ble_eq_true rfl) (det ?_)
    refine xgoto hk 26 dX10_partOf_18 (by decide) ?_
    refine xiret hk he dX10_partOf_26 ⟨by decide, by decide⟩ ?_
    exact ⟨by first | (simp only [paoU, h10, nI_clamp (show c < 2 ^ 31 by omega), if_true, if_false, Bool.false_eq_true, b2iT, b2iF, decide_true, decide_false]; done) | (simp only [paoU, h10, if_true, if_false, Bool.false_eq_true, b2iT, b2iF, decide_true, decide_false]; done), by first | (simp only [paoU, h10, nI_clamp (show c < 2 ^ 31 by omega), if_true, if_false, Bool.false_eq_true, b2iT, b2iF, decide_true, decide_false]; done) | (simp only [paoU, h10, if_true, if_false, Bool.false_eq_true, b2iT, b2iF, decide_true, decide_false]; done) | rfl⟩
set_option maxHeartbeats 4000000 in
set_option maxRecDepth 100000 in
theorem c_X10_partSize {g : Gx} {a : Nat → Nat} {x : XS} {p : Int32} (hM : MK x) : Mx g yX10_partSize cX10_partSize 2 (some .int) 8 0 0 LM a x [.ref (a 0), .int p] (pr (some (.int (pasU p (r0 x)).1)) (pasU p (r0 x)).2) := by
  refine Mx_of (by decide +kernel) (Nat.le_of_ble_eq_true rfl) ?_
  intro k hk he hg
  subst hg

  refine xaload_n hk dX10_partSize_0 rfl ?_
  refine xiconst (v := 0) hk dX10_partSize_1 (by decide) ?_
  refine xputI (ci := 10) (f := 0) hk dX10_partSize_2 ⟨rfl, by decide, _, rfl, rfl⟩ kX10_60 ⟨rfl, by decide +kernel⟩ ?_
  have hM := MK_r0 hM
  rw [show setI x 0 0 0 = r0 x from rfl]
  generalize r0 x = z at *
  refine xaload_n hk dX10_partSize_5 rfl ?_
  refine xiload_n hk dX10_partSize_6 rfl ?_
  refine xcallV hk c_X10_isClaim bX10_isClaim kX10_388 dX10_partSize_7 rfl ⟨_, _, _, _, rfl, rfl⟩ rfl (by decide) ⟨by decide, by decide⟩ (Nat.le_of_ble_eq_true rfl) (det ?_)
  refine xif_eq hk 21 dX10_partSize_10 (by decide) (fun h10 => ?_) (fun h10 => ?_)
  · rw [b2i_0] at h10
    refine xaload_n hk dX10_partSize_21 rfl ?_
    refine xiconst (v := 1) hk dX10_partSize_22 (by decide) ?_
    refine xcallV hk c_X10_no bX10_no kX10_367 dX10_partSize_23 rfl ⟨_, _, _, _, rfl, rfl⟩ rfl (by decide) ⟨by decide, by decide⟩ (Nat.le_of_ble_eq_true rfl) (det ?_)
    refine xiret hk he dX10_partSize_26 ⟨by decide, by decide⟩ ?_
    exact ⟨by first | (simp only [pasU, h10, nI_clamp (show c < 2 ^ 31 by omega), if_true, if_false, Bool.false_eq_true, b2iT, b2iF, decide_true, decide_false]; done) | (simp only [pasU, h10, if_true, if_false, Bool.false_eq_true, b2iT, b2iF, decide_true, decide_false]; done), by first | (simp only [pasU, h10, nI_clamp (show c < 2 ^ 31 by omega), if_true, if_false, Bool.false_eq_true, b2iT, b2iF, decide_true, decide_false]; done) | (simp only [pasU, h10, if_true, if_false, Bool.false_eq_true, b2iT, b2iF, decide_true, decide_false]; done) | rfl⟩
  · rw [b2i_t] at h10
    obtain ⟨c, hc, rfl⟩ := misCl_of hM h10
    refine xaload_n hk dX10_partSize_13 rfl ?_
    refine xiload_n hk dX10_partSize_14 rfl ?_
    refine xcallV hk (c_X10_sizeOfPart hM.1 hc) bX10_sizeOfPart kX10_400 dX10_partSize_15 rfl ⟨_, _, _, _, rfl, rfl⟩ rfl (by decide) ⟨by decide, by decide⟩ (Nat.le_of_ble_eq_true rfl) (det ?_)
    refine xgoto hk 26 dX10_partSize_18 (by decide) ?_
    refine xiret hk he dX10_partSize_26 ⟨by decide, by decide⟩ ?_
    exact ⟨by first | (simp only [pasU, h10, nI_clamp (show c < 2 ^ 31 by omega), if_true, if_false, Bool.false_eq_true, b2iT, b2iF, decide_true, decide_false]; done) | (simp only [pasU, h10, if_true, if_false, Bool.false_eq_true, b2iT, b2iF, decide_true, decide_false]; done), by first | (simp only [pasU, h10, nI_clamp (show c < 2 ^ 31 by omega), if_true, if_false, Bool.false_eq_true, b2iT, b2iF, decide_true, decide_false]; done) | (simp only [pasU, h10, if_true, if_false, Bool.false_eq_true, b2iT, b2iF, decide_true, decide_false]; done) | rfl⟩
set_option maxHeartbeats 4000000 in
set_option maxRecDepth 100000 in
theorem c_X10_peacesWith {g : Gx} {a : Nat → Nat} {x : XS} {p : Int32} (hM : MK x) : Mx g yX10_peacesWith cX10_peacesWith 2 (some .int) 8 0 0 LM a x [.ref (a 0), .int p] (pr (some (.int (pewU p (r0 x)).1)) (pewU p (r0 x)).2) := by
  refine Mx_of (by decide +kernel) (Nat.le_of_ble_eq_true rfl) ?_
  intro k hk he hg
  subst hg

  refine xaload_n hk dX10_peacesWith_0 rfl ?_
  refine xiconst (v := 0) hk dX10_peacesWith_1 (by decide) ?_
  refine xputI (ci := 10) (f := 0) hk dX10_peacesWith_2 ⟨rfl, by decide, _, rfl, rfl⟩ kX10_60 ⟨rfl, by decide +kernel⟩ ?_
  have hM := MK_r0 hM
  rw [show setI x 0 0 0 = r0 x from rfl]
  generalize r0 x = z at *
  refine xaload_n hk dX10_peacesWith_5 rfl ?_
  refine xiload_n hk dX10_peacesWith_6 rfl ?_
  refine xcallV hk c_X10_isClaim bX10_isClaim kX10_388 dX10_peacesWith_7 rfl ⟨_, _, _, _, rfl, rfl⟩ rfl (by decide) ⟨by decide, by decide⟩ (Nat.le_of_ble_eq_true rfl) (det ?_)
  refine xif_eq hk 21 dX10_peacesWith_10 (by decide) (fun h10 => ?_) (fun h10 => ?_)
  · rw [b2i_0] at h10
    refine xaload_n hk dX10_peacesWith_21 rfl ?_
    refine xiconst (v := 1) hk dX10_peacesWith_22 (by decide) ?_
    refine xcallV hk c_X10_no bX10_no kX10_367 dX10_peacesWith_23 rfl ⟨_, _, _, _, rfl, rfl⟩ rfl (by decide) ⟨by decide, by decide⟩ (Nat.le_of_ble_eq_true rfl) (det ?_)
    refine xiret hk he dX10_peacesWith_26 ⟨by decide, by decide⟩ ?_
    exact ⟨by first | (simp only [pewU, h10, nI_clamp (show c < 2 ^ 31 by omega), if_true, if_false, Bool.false_eq_true, b2iT, b2iF, decide_true, decide_false]; done) | (simp only [pewU, h10, if_true, if_false, Bool.false_eq_true, b2iT, b2iF, decide_true, decide_false]; done), by first | (simp only [pewU, h10, nI_clamp (show c < 2 ^ 31 by omega), if_true, if_false, Bool.false_eq_true, b2iT, b2iF, decide_true, decide_false]; done) | (simp only [pewU, h10, if_true, if_false, Bool.false_eq_true, b2iT, b2iF, decide_true, decide_false]; done) | rfl⟩
  · rw [b2i_t] at h10
    obtain ⟨c, hc, rfl⟩ := misCl_of hM h10
    refine xaload_n hk dX10_peacesWith_13 rfl ?_
    refine xiload_n hk dX10_peacesWith_14 rfl ?_
    refine xcallV hk (c_X10_with hM.1 hc) bX10_with kX10_187 dX10_peacesWith_15 rfl ⟨_, _, _, _, rfl, rfl⟩ rfl (by decide) ⟨by decide, by decide⟩ (Nat.le_of_ble_eq_true rfl) (det ?_)
    refine xgoto hk 26 dX10_peacesWith_18 (by decide) ?_
    refine xiret hk he dX10_peacesWith_26 ⟨by decide, by decide⟩ ?_
    exact ⟨by first | (simp only [pewU, h10, nI_clamp (show c < 2 ^ 31 by omega), if_true, if_false, Bool.false_eq_true, b2iT, b2iF, decide_true, decide_false]; done) | (simp only [pewU, h10, if_true, if_false, Bool.false_eq_true, b2iT, b2iF, decide_true, decide_false]; done), by first | (simp only [pewU, h10, nI_clamp (show c < 2 ^ 31 by omega), if_true, if_false, Bool.false_eq_true, b2iT, b2iF, decide_true, decide_false]; done) | (simp only [pewU, h10, if_true, if_false, Bool.false_eq_true, b2iT, b2iF, decide_true, decide_false]; done) | rfl⟩
set_option maxHeartbeats 4000000 in
set_option maxRecDepth 100000 in
theorem c_X10_isPossible {g : Gx} {a : Nat → Nat} {x : XS} {p : Int32} (hM : MK x) : Mx g yX10_isPossible cX10_isPossible 2 (some .boolean) 8 0 0 LM a x [.ref (a 0), .int p] (pr (some (.int (b2i (posU p (r0 x)).1))) (posU p (r0 x)).2) := by
  refine Mx_of (by decide +kernel) (Nat.le_of_ble_eq_true rfl) ?_
  intro k hk he hg
  subst hg

  refine xaload_n hk dX10_isPossible_0 rfl ?_
  refine xiconst (v := 0) hk dX10_isPossible_1 (by decide) ?_
  refine xputI (ci := 10) (f := 0) hk dX10_isPossible_2 ⟨rfl, by decide, _, rfl, rfl⟩ kX10_60 ⟨rfl, by decide +kernel⟩ ?_
  have hM := MK_r0 hM
  rw [show setI x 0 0 0 = r0 x from rfl]
  generalize r0 x = z at *
  refine xaload_n hk dX10_isPossible_5 rfl ?_
  refine xiload_n hk dX10_isPossible_6 rfl ?_
  refine xcallV hk c_X10_isClaim bX10_isClaim kX10_388 dX10_isPossible_7 rfl ⟨_, _, _, _, rfl, rfl⟩ rfl (by decide) ⟨by decide, by decide⟩ (Nat.le_of_ble_eq_true rfl) (det ?_)
  refine xif_eq hk 29 dX10_isPossible_10 (by decide) (fun h10 => ?_) (fun h10 => ?_)
  · rw [b2i_0] at h10
    refine xaload_n hk dX10_isPossible_29 rfl ?_
    refine xiconst (v := 1) hk dX10_isPossible_30 (by decide) ?_
    refine xcallV hk c_X10_isNot bX10_isNot kX10_385 dX10_isPossible_31 rfl ⟨_, _, _, _, rfl, rfl⟩ rfl (by decide) ⟨by decide, by decide⟩ (Nat.le_of_ble_eq_true rfl) (det ?_)
    refine xzret hk he dX10_isPossible_34 ⟨by decide, by decide⟩ (by first | with_reducible exact nar_b _ | rfl) ?_
    exact ⟨by first | (simp only [posU, h10, h18, nI_clamp (show c < 2 ^ 31 by omega), if_true, if_false, Bool.false_eq_true, b2iT, b2iF, decide_true, decide_false]; done) | (simp only [posU, h10, if_true, if_false, Bool.false_eq_true, b2iT, b2iF, decide_true, decide_false]; done), by first | (simp only [posU, h10, h18, nI_clamp (show c < 2 ^ 31 by omega), if_true, if_false, Bool.false_eq_true, b2iT, b2iF, decide_true, decide_false]; done) | (simp only [posU, h10, if_true, if_false, Bool.false_eq_true, b2iT, b2iF, decide_true, decide_false]; done) | rfl⟩
  · rw [b2i_t] at h10
    obtain ⟨c, hc, rfl⟩ := misCl_of hM h10
    refine xaload_n hk dX10_isPossible_13 rfl ?_
    refine xiload_n hk dX10_isPossible_14 rfl ?_
    refine xcallV hk (c_X10_with hM.1 hc) bX10_with kX10_187 dX10_isPossible_15 rfl ⟨_, _, _, _, rfl, rfl⟩ rfl (by decide) ⟨by decide, by decide⟩ (Nat.le_of_ble_eq_true rfl) (det ?_)
    refine xif_le hk 25 dX10_isPossible_18 (by decide) (fun h18 => ?_) (fun h18 => ?_)
    · refine xiconst (v := 0) hk dX10_isPossible_25 (by decide) ?_
      refine xgoto hk 34 dX10_isPossible_26 (by decide) ?_
      refine xzret hk he dX10_isPossible_34 ⟨by decide, by decide⟩ (by first | with_reducible exact nar_b _ | rfl) ?_
      exact ⟨by first | (simp only [posU, h10, h18, nI_clamp (show c < 2 ^ 31 by omega), if_true, if_false, Bool.false_eq_true, b2iT, b2iF, decide_true, decide_false]; done) | (simp only [posU, h10, if_true, if_false, Bool.false_eq_true, b2iT, b2iF, decide_true, decide_false]; done), by first | (simp only [posU, h10, h18, nI_clamp (show c < 2 ^ 31 by omega), if_true, if_false, Bool.false_eq_true, b2iT, b2iF, decide_true, decide_false]; done) | (simp only [posU, h10, if_true, if_false, Bool.false_eq_true, b2iT, b2iF, decide_true, decide_false]; done) | rfl⟩
    · refine xiconst (v := 1) hk dX10_isPossible_21 (by decide) ?_
      refine xgoto hk 34 dX10_isPossible_22 (by decide) ?_
      refine xzret hk he dX10_isPossible_34 ⟨by decide, by decide⟩ (by first | with_reducible exact nar_b _ | rfl) ?_
      exact ⟨by first | (simp only [posU, h10, h18, nI_clamp (show c < 2 ^ 31 by omega), if_true, if_false, Bool.false_eq_true, b2iT, b2iF, decide_true, decide_false]; done) | (simp only [posU, h10, if_true, if_false, Bool.false_eq_true, b2iT, b2iF, decide_true, decide_false]; done), by first | (simp only [posU, h10, h18, nI_clamp (show c < 2 ^ 31 by omega), if_true, if_false, Bool.false_eq_true, b2iT, b2iF, decide_true, decide_false]; done) | (simp only [posU, h10, if_true, if_false, Bool.false_eq_true, b2iT, b2iF, decide_true, decide_false]; done) | rfl⟩
