theorem kJ5_3 : Cond.methodLink RJ5 3 Lib.objectInit ∈ GW := gw_mem 1306 (by decide +kernel) (by decide +kernel)
theorem kJ4_1 : Cond.methodLink RJ4 1 yJ5_init_d00df ∈ GW := gw_mem 1303 (by decide +kernel) (by decide +kernel)
theorem bJ5_getValue_6d5f1 : CBr yJ5_getValue_6d5f1 cJ5_getValue_6d5f1 1 (some (.array .byte)) 0 := ⟨⟨gw_mem 1338 (by decide +kernel) (by decide +kernel), gw_mem 1 (by decide +kernel) (by decide +kernel), by decide +kernel, by decide⟩, gw_mem 1335 (by decide +kernel) (by decide +kernel), .inl (gw_mem 1337 (by decide +kernel) (by decide +kernel))⟩
theorem uJ5_length_8abf5 : CBu yJ5_length_8abf5 cJ5_length_8abf5 1 (some .int) 0 := ⟨gw_mem 1346 (by decide +kernel) (by decide +kernel), gw_mem 1 (by decide +kernel) (by decide +kernel), gw_mem 1340 (by decide +kernel) (by decide +kernel), gw_mem 1341 (by decide +kernel) (by decide +kernel), rfl, ⟨by decide, by decide +kernel⟩, by decide⟩
theorem kJ4_343 : Cond.methodLink RJ4 343 yJ5_length_8abf5 ∈ GW := gw_mem 1345 (by decide +kernel) (by decide +kernel)
theorem bJ7_checkLength_df160 : CBs yJ7_checkLength_df160 cJ7_checkLength_df160 2 none 2 := ⟨⟨gw_mem 1356 (by decide +kernel) (by decide +kernel), gw_mem 8 (by decide +kernel) (by decide +kernel), by decide +kernel, by decide⟩, gw_mem 1355 (by decide +kernel) (by decide +kernel)⟩
theorem bJ7_copyOfRangeByte_39247 : CBs yJ7_copyOfRangeByte_39247 cJ7_copyOfRangeByte_39247 5 (some (.array .byte)) 3 := ⟨⟨gw_mem 1353 (by decide +kernel) (by decide +kernel), gw_mem 8 (by decide +kernel) (by decide +kernel), by decide +kernel, by decide⟩, gw_mem 1352 (by decide +kernel) (by decide +kernel)⟩
theorem kJ7_343 : Cond.methodLink RJ7 343 yJ7_checkLength_df160 ∈ GW := gw_mem 1354 (by decide +kernel) (by decide +kernel)
theorem bJ7_copyOfRange_39247 : CBs yJ7_copyOfRange_39247 cJ7_copyOfRange_39247 3 (some (.array .byte)) 3 := ⟨⟨gw_mem 1350 (by decide +kernel) (by decide +kernel), gw_mem 8 (by decide +kernel) (by decide +kernel), by decide +kernel, by decide⟩, gw_mem 1349 (by decide +kernel) (by decide +kernel)⟩
theorem kJ7_339 : Cond.methodLink RJ7 339 yJ7_copyOfRangeByte_39247 ∈ GW := gw_mem 1351 (by decide +kernel) (by decide +kernel)
theorem kJ0_1 : Cond.methodLink RJ0 1 Lib.objectInit ∈ GW := gw_mem 1333 (by decide +kernel) (by decide +kernel)
theorem kJ0_552 : Cond.methodLink RJ0 552 yJ5_getValue_6d5f1 ∈ GW := gw_mem 1334 (by decide +kernel) (by decide +kernel)
theorem kJ0_549 : Cond.methodLink RJ0 549 yJ5_length_8abf5 ∈ GW := gw_mem 1339 (by decide +kernel) (by decide +kernel)
theorem kJ0_1047 : Cond.methodLink RJ0 1047 yJ5_isLatin1_aae02 ∈ GW := gw_mem 1347 (by decide +kernel) (by decide +kernel)
theorem kJ0_54 : Cond.methodLink RJ0 54 yJ7_copyOfRange_39247 ∈ GW := gw_mem 1348 (by decide +kernel) (by decide +kernel)
theorem kJ0_489 : Cond.methodLink RJ0 489 yJ0_init_db425 ∈ GW := gw_mem 1330 (by decide +kernel) (by decide +kernel)
theorem bJ4_toString_0e30d : CBv yJ4_toString_0e30d cJ4_toString_0e30d 1 (some (.object "java/lang/String")) 0 := ⟨⟨gw_mem 1324 (by decide +kernel) (by decide +kernel), gw_mem 2 (by decide +kernel) (by decide +kernel), by decide +kernel, by decide⟩, gw_mem 1322 (by decide +kernel) (by decide +kernel), gw_mem 1323 (by decide +kernel) (by decide +kernel)⟩
theorem kJ4_137 : Cond.methodLink RJ4 137 yJ0_init_81219 ∈ GW := gw_mem 1327 (by decide +kernel) (by decide +kernel)
/-! new builders; what they tell -/
theorem setI_ne {x : XS} {q i j f : Nat} {v : Int32} (h : i ≠ q) : (setI x q f v).1 i j = x.1 i j := by simp [setI, h]
set_option maxHeartbeats 4000000 in
set_option maxRecDepth 100000 in
theorem c_J5_init_d00df {g : Gx} {a : Nat → Nat} {x : XS} {lay : List Kd} {q : Nat} (hC : Cl lay) (hq : lay[q]? = some (.inl (11, [2, 0, 0, 0]))) : Mz g yJ5_init_d00df cJ5_init_d00df 2 none 2 1 16 lay a x [.ref (a q), .int 16] (fun r lay' a' x' => r = none ∧ lay' = (lay ++ [(.inr (2, 16) : Kd)]).set q (.inl (11, [lay.length + 3, 0, 0, 0])) ∧ (∀ j, j < lay.length → a' j = a j) ∧ x' = setI (clr x lay.length) q 1 0) := by
  refine Mz_of (by decide +kernel) (Nat.le_of_ble_eq_true rfl) ?_
  intro k hk he hg
  subst hg
  have hql := at_lt hq
  refine xaload_n hk dJ5_init_d00df_0 rfl ?_
  refine xobjInit hk dJ5_init_d00df_1 kJ5_3 (by decide) (Nat.le_of_ble_eq_true rfl) ?_
  refine xcompact hk dJ5_init_d00df_4 kJ5_18 ?_
  refine xif_eq hk 25 dJ5_init_d00df_7 (by decide) (fun h7 => ?_) (fun h7 => ?_)
  · exact absurd h7 (by decide)
  · refine xaload_n hk dJ5_init_d00df_10 rfl ?_
    refine xiload_n hk dJ5_init_d00df_11 rfl ?_
    refine xnewB (N := 16) hk dJ5_init_d00df_12 (by decide) (by decide) (Nat.le_of_ble_eq_true rfl) (by omega) (by omega) (okR_new hC) (fun a1 ha1 => ?_)
    rw [← ha1 q (Nat.ne_of_lt hql)]
    refine xputK (ci := 11) (f := 0) (j := lay.length) hk dJ5_init_d00df_14 rfl (by decide) (app_o hq) (by decide) kJ5_15 rfl (tyJ4_ok 0 (by decide)) (fun _ => ⟨rfl, rfl⟩) ?_
    refine xlay (lay' := (lay ++ [(.inr (2, 16) : Kd)]).set q (.inl (11, [lay.length + 3, 0, 0, 0]))) rfl ?_
    refine xaload_n hk dJ5_init_d00df_17 rfl ?_
    refine xiconst (v := 0) hk dJ5_init_d00df_18 (by decide) ?_
    refine xputC (ci := 11) (f := 1) hk dJ5_init_d00df_19 ⟨rfl, by decide, _, List.getElem?_set_self (by rw [List.length_append]; omega), rfl⟩ kJ5_22 ⟨rfl, tyJ4_ok 1 (by decide)⟩ ?_
    refine xgoto hk 38 dJ5_init_d00df_22 (by decide) ?_
    refine xvretZ hk he dJ5_init_d00df_38 ⟨by omega, by omega⟩ ?_
    exact ⟨rfl, rfl, fun j hj => ha1 j (Nat.ne_of_lt hj), rfl⟩
theorem x5_init : CBx yJ5_init_d00df cJ5_init_d00df 2 none 1 := ⟨gw_mem 1305 (by decide +kernel) (by decide +kernel), gw_mem 1 (by decide +kernel) (by decide +kernel), by decide +kernel, by decide⟩
theorem x5_inst : Cond.instanceMethod yJ5_init_d00df ∈ GW := gw_mem 1304 (by decide +kernel) (by decide +kernel)
theorem x4_init : CBx yJ4_init_da8c8 cJ4_init_da8c8 1 none 0 := ⟨gw_mem 1302 (by decide +kernel) (by decide +kernel), gw_mem 2 (by decide +kernel) (by decide +kernel), by decide +kernel, by decide⟩
theorem x4_inst : Cond.instanceMethod yJ4_init_da8c8 ∈ GW := gw_mem 1301 (by decide +kernel) (by decide +kernel)
def NbE (lay : List Kd) (q : Nat) (a : Nat → Nat) (x : XS) : Option Value → List Kd → (Nat → Nat) → XS → Prop := fun r lay' a' x' => r = none ∧ lay' = (lay ++ [(.inr (2, 16) : Kd)]).set q (.inl (11, [lay.length + 3, 0, 0, 0])) ∧ (∀ j, j < lay.length → a' j = a j) ∧ x' = setI (clr x lay.length) q 1 0
set_option maxHeartbeats 4000000 in
set_option maxRecDepth 100000 in
theorem c_J4_init_da8c8 {g : Gx} {a : Nat → Nat} {x : XS} {lay : List Kd} {q : Nat} (hC : Cl lay) (hq : lay[q]? = some (.inl (11, [2, 0, 0, 0]))) : Mz g yJ4_init_da8c8 cJ4_init_da8c8 1 none 3 1 16 lay a x [.ref (a q)] (NbE lay q a x) := by
  refine Mz_of (by decide +kernel) (Nat.le_of_ble_eq_true rfl) ?_
  intro k hk he hg
  subst hg
  refine xaload_n hk dJ4_init_da8c8_0 rfl ?_
  refine xbipush (v := 16) hk dJ4_init_da8c8_1 (by decide) ?_
  refine xcallI hk (c_J5_init_d00df hC hq) x5_init x5_inst rfl kJ4_1 dJ4_init_da8c8_3 rfl rfl (by decide) ⟨by omega, by omega⟩ (Nat.le_of_ble_eq_true rfl) ?_
  rintro _ _ a1 x1 ⟨rfl, rfl, hK, rfl⟩
  refine xvretZ hk he dJ4_init_da8c8_6 ⟨by omega, by omega⟩ ?_
  exact ⟨rfl, rfl, hK, rfl⟩
set_option maxHeartbeats 4000000 in
set_option maxRecDepth 100000 in
theorem c_J5_getValue_6d5f1 {g : Gx} {a : Nat → Nat} {x : XS} {lay : List Kd} {q v cap : Nat} {bs : List Int32} (hB : SB lay x q v cap bs) : Mz g yJ5_getValue_6d5f1 cJ5_getValue_6d5f1 1 (some (.array .byte)) 1 0 0 lay a x [.ref (a q)] (fun r lay' a' x' => r = some (.ref (a v)) ∧ lay = lay' ∧ a = a' ∧ x = x') := by
  refine Mz_of (by decide +kernel) (Nat.le_of_ble_eq_true rfl) ?_
  intro k hk he hg
  subst hg
  refine xaload_n hk dJ5_getValue_6d5f1_0 rfl ?_
  refine xgetR (ci := 11) (f := 0) hk dJ5_getValue_6d5f1_1 ⟨rfl, by decide, _, hB.1, rfl⟩ kJ5_15 ?_
  refine xaretZ hk he dJ5_getValue_6d5f1_4 (Or.inr ⟨_, rfl⟩) ⟨by decide, by decide⟩ ?_
  exact ⟨rfl, rfl, rfl, rfl⟩
set_option maxHeartbeats 4000000 in
set_option maxRecDepth 100000 in
theorem c_J5_length_8abf5 {g : Gx} {a : Nat → Nat} {x : XS} {lay : List Kd} {q v cap : Nat} {bs : List Int32} (hB : SB lay x q v cap bs) : Mx g yJ5_length_8abf5 cJ5_length_8abf5 1 (some .int) 1 0 0 lay a x [.ref (a q)] (pr (some (.int (nI bs.length))) x) := by
  refine Mx_of (by decide +kernel) (Nat.le_of_ble_eq_true rfl) ?_
  intro k hk he hg
  subst hg
  refine xaload_n hk dJ5_length_8abf5_0 rfl ?_
  refine xgetI (ci := 11) (f := 3) hk dJ5_length_8abf5_1 ⟨rfl, by decide, _, hB.1, rfl⟩ kJ5_79 ?_
  rw [hB.2.2.2.1]
  refine xiret hk he dJ5_length_8abf5_4 ⟨by decide, by decide⟩ ?_
  exact ⟨rfl, rfl⟩
theorem x4_len : CBx yJ4_length_8abf5 cJ4_length_8abf5 1 (some .int) 0 := ⟨gw_mem 1344 (by decide +kernel) (by decide +kernel), gw_mem 2 (by decide +kernel) (by decide +kernel), by decide +kernel, by decide⟩
theorem i4_len : Cond.instanceMethod yJ4_length_8abf5 ∈ GW := gw_mem 1343 (by decide +kernel) (by decide +kernel)
set_option maxHeartbeats 4000000 in
set_option maxRecDepth 100000 in
theorem c_J4_length_8abf5 {g : Gx} {a : Nat → Nat} {x : XS} {lay : List Kd} {q v cap : Nat} {bs : List Int32} (hB : SB lay x q v cap bs) : Mx g yJ4_length_8abf5 cJ4_length_8abf5 1 (some .int) 2 0 0 lay a x [.ref (a q)] (pr (some (.int (nI bs.length))) x) := by
  refine Mx_of (by decide +kernel) (Nat.le_of_ble_eq_true rfl) ?_
  intro k hk he hg
  subst hg
  refine xaload_n hk dJ4_length_8abf5_0 rfl ?_
  refine xcallU hk (c_J5_length_8abf5 hB) uJ5_length_8abf5 kJ4_343 dJ4_length_8abf5_1 rfl hB.1 rfl (by decide) ⟨by decide, by decide⟩ (Nat.le_of_ble_eq_true rfl) (det ?_)
  refine xiret hk he dJ4_length_8abf5_4 ⟨by decide, by decide⟩ ?_
  exact ⟨rfl, rfl⟩
set_option maxHeartbeats 4000000 in
set_option maxRecDepth 100000 in
theorem c_J7_checkLength_df160 {g : Gx} {a : Nat → Nat} {x : XS} {lay : List Kd} {n : Nat} (hn : n < 2 ^ 30) : Mx g yJ7_checkLength_df160 cJ7_checkLength_df160 2 none 1 0 0 lay a x [.int 0, .int (nI n)] (pr none x) := by
  refine Mx_of (by decide +kernel) (Nat.le_of_ble_eq_true rfl) ?_
  intro k hk he hg
  subst hg
  refine xiload_n hk dJ7_checkLength_df160_0 rfl ?_
  refine xiload_n hk dJ7_checkLength_df160_1 rfl ?_
  refine xicmp_ge hk 37 dJ7_checkLength_df160_2 (by decide) (fun h2 => ?_) (fun h2 => ?_)
  · refine xvret hk he dJ7_checkLength_df160_37 ⟨by decide, by decide⟩ ?_
    exact ⟨rfl, rfl⟩
  · exact absurd (nI_pos' (by omega)) h2
/-- the first n bytes of v, anew -/
def CrE (lay : List Kd) (a : Nat → Nat) (x : XS) (v n : Nat) : Option Value → List Kd → (Nat → Nat) → XS → Prop := fun w lay' a' x' =>
  w = some (.ref (a' lay.length)) ∧ lay' = lay ++ [.inr (2, n)] ∧ Keep lay a a' x x' (fun _ => False) ∧ ∀ j, j < n → x'.1 lay.length j = x.1 v j
set_option maxHeartbeats 4000000 in
set_option maxRecDepth 100000 in
theorem c_J7_copyOfRangeByte_39247 {g : Gx} {a : Nat → Nat} {x : XS} {lay : List Kd} {v cap n : Nat} (hC : Cl lay) (hv : lay[v]? = some (.inr (2, cap))) (hf : ∀ j, j < cap → fits .byte (.int (x.1 v j)) = true) (hn1 : n ≤ cap) (hn2 : cap < 2 ^ 20) : Mz g yJ7_copyOfRangeByte_39247 cJ7_copyOfRangeByte_39247 5 (some (.array .byte)) 2 1 n lay a x [.ref (a v), .int 0, .int (nI n)] (CrE lay a x v n) := by
  refine Mz_of (by decide +kernel) (Nat.le_of_ble_eq_true rfl) ?_
  intro k hk he hg
  subst hg
  have hvl := at_lt hv
  have hvn : v ≠ lay.length := Nat.ne_of_lt hvl
  refine xiload_n hk dJ7_copyOfRangeByte_39247_0 rfl ?_
  refine xiload_n hk dJ7_copyOfRangeByte_39247_1 rfl ?_
  refine xcallS hk (c_J7_checkLength_df160 (by omega)) bJ7_checkLength_df160 kJ7_343 dJ7_copyOfRangeByte_39247_2 rfl rfl (by decide) ⟨by omega, by omega⟩ (Nat.le_of_ble_eq_true rfl) (det ?_)
  refine xiload_n hk dJ7_copyOfRangeByte_39247_5 rfl ?_
  refine xiload_n hk dJ7_copyOfRangeByte_39247_6 rfl ?_
  refine xisub hk dJ7_copyOfRangeByte_39247_7 ?_
  rw [Int32.sub_zero]
  refine xistore_n hk dJ7_copyOfRangeByte_39247_8 (by decide) ?_
  refine xiload_n hk dJ7_copyOfRangeByte_39247_9 rfl ?_
  refine xnewB (N := n) hk dJ7_copyOfRangeByte_39247_10 (nI_pos (by omega)) (nI_clamp (by omega)) (by show n * 1 ≤ _; omega) (by omega) (by omega) (okR_new hC) (fun a1 ha1 => ?_)
  rw [← ha1 v hvn]
  refine xastore hk dJ7_copyOfRangeByte_39247_12 (by decide) ?_
  refine xaload_n hk dJ7_copyOfRangeByte_39247_14 rfl ?_
  refine xiload_n hk dJ7_copyOfRangeByte_39247_15 rfl ?_
  refine xaload hk dJ7_copyOfRangeByte_39247_16 rfl ?_
  refine xiconst (v := 0) hk dJ7_copyOfRangeByte_39247_18 (by decide) ?_
  refine xaload_n hk dJ7_copyOfRangeByte_39247_19 rfl ?_
  refine xalen (v := nI cap) hk dJ7_copyOfRangeByte_39247_20 (app_o hv) (by decide) rfl ?_
  refine xiload_n hk dJ7_copyOfRangeByte_39247_21 rfl ?_
  refine xisub hk dJ7_copyOfRangeByte_39247_22 ?_
  rw [Int32.sub_zero]
  refine xiload_n hk dJ7_copyOfRangeByte_39247_23 rfl ?_
  refine xmmin hk dJ7_copyOfRangeByte_39247_24 kJ7_304 mw_min (by decide) ⟨by omega, by omega⟩ (Nat.le_of_ble_eq_true rfl) ?_
  rw [minI_nI (by omega) (by omega), Nat.min_eq_right (by omega)]
  refine xcopyB hk dJ7_copyOfRangeByte_39247_27 w_ac150 (app_o hv) app_n (by decide) (by decide) (nI_pos (by omega)) ?_ ?_ ?_ (by decide) (by decide) ?_
  · rw [nI_clamp (by omega)]; show 0 + n ≤ cap; omega
  · rw [nI_clamp (by omega)]; show 0 + n ≤ n; omega
  · intro i hi
    rw [nI_clamp (by omega)] at hi
    show fits .byte (.int ((clr x lay.length).1 v (0 + i))) = true
    rw [Nat.zero_add, (clr_o (x := x) v hvl i).1]
    exact hf i (by omega)
  refine xaload hk dJ7_copyOfRangeByte_39247_30 rfl ?_
  refine xaretZ hk he dJ7_copyOfRangeByte_39247_32 (Or.inr ⟨_, rfl⟩) ⟨by omega, by omega⟩ ?_
  refine ⟨rfl, rfl, ⟨fun j hj => ha1 j (Nat.ne_of_lt hj), fun i hi _ j => ?_⟩, fun j hj => ?_⟩
  · have hi2 : i ≠ lay.length := Nat.ne_of_lt hi
    simp [setF, hi2, clr]
  · rw [nI_clamp (by omega), setF_at]
    simp only [va_cpy]
    rw [if_pos ⟨Nat.zero_le _, by show j < 0 + n; omega⟩, (clr_o (x := x) v hvl _).1]
    show x.1 v (0 + (j - 0)) = _
    rw [Nat.zero_add, Nat.sub_zero]
set_option maxHeartbeats 4000000 in
set_option maxRecDepth 100000 in
theorem c_J7_copyOfRange_39247 {g : Gx} {a : Nat → Nat} {x : XS} {lay : List Kd} {v cap n : Nat} (hC : Cl lay) (hv : lay[v]? = some (.inr (2, cap))) (hf : ∀ j, j < cap → fits .byte (.int (x.1 v j)) = true) (hn1 : n ≤ cap) (hn2 : cap < 2 ^ 20) : Mz g yJ7_copyOfRange_39247 cJ7_copyOfRange_39247 3 (some (.array .byte)) 3 1 n lay a x [.ref (a v), .int 0, .int (nI n)] (CrE lay a x v n) := by
  refine Mz_of (by decide +kernel) (Nat.le_of_ble_eq_true rfl) ?_
  intro k hk he hg
  subst hg
  have hvl := at_lt hv
  refine xiload_n hk dJ7_copyOfRange_39247_0 rfl ?_
  refine xif_ne hk 10 dJ7_copyOfRange_39247_1 (by decide) (fun h1 => ?_) (fun h1 => ?_)
  · exact absurd rfl h1
  · refine xiload_n hk dJ7_copyOfRange_39247_4 rfl ?_
    refine xaload_n hk dJ7_copyOfRange_39247_5 rfl ?_
    refine xalen (v := nI cap) hk dJ7_copyOfRange_39247_6 hv (by decide) rfl ?_
    refine xicmp_eq hk 17 dJ7_copyOfRange_39247_7 (by decide) (fun h7 => ?_) (fun h7 => ?_)
    · refine xaload_n hk dJ7_copyOfRange_39247_17 rfl ?_
      have hnc : n = cap := (nI_inj (by omega) (by omega)).mp h7
      subst hnc
      refine xclone hk dJ7_copyOfRange_39247_18 hv hf (by omega) (by omega) (okR_new hC) (by decide) (Nat.le_of_ble_eq_true rfl) (fun a1 ha1 => ?_)
      refine xcastB hk dJ7_copyOfRange_39247_21 app_n ?_
      refine xaretZ hk he dJ7_copyOfRange_39247_24 (Or.inr ⟨_, rfl⟩) ⟨by omega, by omega⟩ ?_
      refine ⟨rfl, rfl, ⟨fun j hj => ha1 j (Nat.ne_of_lt hj), fun i hi _ j => cpX_o i hi j⟩, fun j hj => by simp [cpX]⟩
    · refine xaload_n hk dJ7_copyOfRange_39247_10 rfl ?_
      refine xiload_n hk dJ7_copyOfRange_39247_11 rfl ?_
      refine xiload_n hk dJ7_copyOfRange_39247_12 rfl ?_
      refine xcallSZ hk (c_J7_copyOfRangeByte_39247 hC hv hf hn1 hn2) bJ7_copyOfRangeByte_39247 kJ7_339 dJ7_copyOfRange_39247_13 rfl rfl (by decide) ⟨by omega, by omega⟩ (Nat.le_of_ble_eq_true rfl) ?_
      rintro _ _ a1 x1 ⟨rfl, rfl, hK, hc⟩
      refine xaretZ hk he dJ7_copyOfRange_39247_16 (Or.inr ⟨_, rfl⟩) ⟨by omega, by omega⟩ ?_
      exact ⟨rfl, rfl, hK, hc⟩
/-- the text of a builder in the object p -/
def SiE (lay : List Kd) (a : Nat → Nat) (x : XS) (p : Nat) (bs : List Int32) : Option Value → List Kd → (Nat → Nat) → XS → Prop := fun r lay' a' x' =>
  r = none ∧ lay' = (lay ++ [(.inr (2, bs.length) : Kd)]).set p (.inl (10, [lay.length + 3, 0, 0, 0])) ∧ Keep lay a a' x x' (fun i => i = p) ∧ x'.1 p 1 = 0 ∧ ∀ j, j < bs.length → x'.1 lay.length j = bs.getD j 0
theorem i1_x : CBx yJ0_init_db425 cJ0_init_db425 5 none 2 := ⟨gw_mem 1332 (by decide +kernel) (by decide +kernel), gw_mem 3 (by decide +kernel) (by decide +kernel), by decide +kernel, by decide⟩
theorem i1_i : Cond.instanceMethod yJ0_init_db425 ∈ GW := gw_mem 1331 (by decide +kernel) (by decide +kernel)
set_option maxHeartbeats 4000000 in
set_option maxRecDepth 100000 in
theorem c_J0_init_db425 {g : Gx} {a : Nat → Nat} {x : XS} {lay : List Kd} {q v cap : Nat} {bs : List Int32} {p T : Nat} (hC : Cl lay) (hp : lay[p]? = some (.inl (10, [2, 0, 0, 0]))) (hB : SB lay x q v cap bs) (h1 : bs.length ≤ T) : Mz g yJ0_init_db425 cJ0_init_db425 5 none 5 1 T lay a x [.ref (a p), .ref (a q), .null] (SiE lay a x p bs) := by
  refine Mz_of (by decide +kernel) (Nat.le_of_ble_eq_true rfl) ?_
  intro k hk he hg
  subst hg
  have hpl := at_lt hp
  have hvl := at_lt hB.2.1
  have hpq : p ≠ q := fun e => by
    have := hp; rw [e, hB.1] at this; cases this
  have hpv : p ≠ v := fun e => by
    have := hp; rw [e, hB.2.1] at this; cases this
  refine xaload_n hk dJ0_init_db425_0 rfl ?_
  refine xobjInit hk dJ0_init_db425_1 kJ0_1 (by decide) (Nat.le_of_ble_eq_true rfl) ?_
  refine xaload_n hk dJ0_init_db425_4 rfl ?_
  refine xcallRZ hk (c_J5_getValue_6d5f1 hB) bJ5_getValue_6d5f1 kJ0_552 dJ0_init_db425_5 rfl hB.1 rfl rfl (by decide) ⟨by omega, by omega⟩ (Nat.le_of_ble_eq_true rfl) ?_
  rintro _ _ _ _ ⟨rfl, rfl, rfl, rfl⟩
  refine xastore_n hk dJ0_init_db425_8 (by decide) ?_
  refine xaload_n hk dJ0_init_db425_9 rfl ?_
  refine xcallO (y0 := yJ5_length_8abf5) hk (c_J4_length_8abf5 hB) x4_len.1 x4_len.2.1 i4_len uJ5_length_8abf5.2.2.1 uJ5_length_8abf5.1 uJ5_length_8abf5.2.2.2.1 (gw_mem 1342 (by decide +kernel) (by decide +kernel)) (by decide +kernel) (by decide) kJ0_549 dJ0_init_db425_10 rfl hB.1 rfl (by decide) ⟨by omega, by omega⟩ (Nat.le_of_ble_eq_true rfl) (det ?_)
  refine xistore hk dJ0_init_db425_13 (by decide) ?_
  refine xaload_n hk dJ0_init_db425_15 rfl ?_
  refine xcallR hk (c_J5_isLatin1_aae02 hB) bJ5_isLatin1_aae02 kJ0_1047 dJ0_init_db425_16 rfl hB.1 rfl rfl (by decide) ⟨by omega, by omega⟩ (Nat.le_of_ble_eq_true rfl) (det ?_)
  refine xif_eq hk 41 dJ0_init_db425_19 (by decide) (fun h19 => ?_) (fun h19 => ?_)
  · exact absurd h19 (by decide)
  · refine xaload_n hk dJ0_init_db425_22 rfl ?_
    refine xiconst (v := 0) hk dJ0_init_db425_23 (by decide) ?_
    refine xputCF (ci := 10) (f := 1) hk dJ0_init_db425_24 ⟨rfl, by decide, _, hp, rfl⟩ kJ0_15 ⟨rfl, tyJ0_ok 1 (by decide)⟩ rfl ?_
    refine xaload_n hk dJ0_init_db425_27 rfl ?_
    refine xaload_n hk dJ0_init_db425_28 rfl ?_
    refine xiconst (v := 0) hk dJ0_init_db425_29 (by decide) ?_
    refine xiload hk dJ0_init_db425_30 rfl ?_
    refine xcallSZ hk (c_J7_copyOfRange_39247 (n := bs.length) hC hB.2.1 (fun j hj => by rw [setI_ne (Ne.symm hpv)]; exact hB.2.2.2.2.2.2.1 j hj) hB.2.2.2.2.1 hB.2.2.2.2.2.1) bJ7_copyOfRange_39247 kJ0_54 dJ0_init_db425_32 rfl rfl (by decide) ⟨by omega, by omega⟩ (Nat.le_of_ble_eq_true rfl) ?_
    rintro _ _ a1 x1 ⟨rfl, rfl, hK, hc⟩
    rw [← hK.1 p hpl]
    refine xputF (ci := 10) (f := 0) (j := lay.length) hk dJ0_init_db425_35 rfl (by decide) (app_o hp) (by decide) kJ0_9 rfl rfl (tyJ0_ok 0 (by decide)) (fun _ => ⟨rfl, rfl⟩) ?_
    refine xlay (lay' := (lay ++ [(.inr (2, bs.length) : Kd)]).set p (.inl (10, [lay.length + 3, 0, 0, 0]))) rfl ?_
    refine xgoto hk 97 dJ0_init_db425_38 (by decide) ?_
    refine xvretZ hk he dJ0_init_db425_97 ⟨by omega, by omega⟩ ?_
    refine ⟨rfl, rfl, ⟨hK.1, fun i hi hip j => ?_⟩, ?_, fun j hj => ?_⟩
    · rw [(hK.2 i hi id j).1, (hK.2 i hi id j).2]
      exact ⟨setI_ne hip, rfl⟩
    · rw [(hK.2 p hpl id 1).1]; simp [setI]
    · rw [hc j hj, setI_ne (Ne.symm hpv)]; exact hB.2.2.2.2.2.2.2 j hj
theorem i0_x : CBx yJ0_init_81219 cJ0_init_81219 2 none 1 := ⟨gw_mem 1329 (by decide +kernel) (by decide +kernel), gw_mem 3 (by decide +kernel) (by decide +kernel), by decide +kernel, by decide⟩
theorem i0_i : Cond.instanceMethod yJ0_init_81219 ∈ GW := gw_mem 1328 (by decide +kernel) (by decide +kernel)
set_option maxHeartbeats 4000000 in
set_option maxRecDepth 100000 in
theorem c_J0_init_81219 {g : Gx} {a : Nat → Nat} {x : XS} {lay : List Kd} {q v cap : Nat} {bs : List Int32} {p T : Nat} (hC : Cl lay) (hp : lay[p]? = some (.inl (10, [2, 0, 0, 0]))) (hB : SB lay x q v cap bs) (h1 : bs.length ≤ T) : Mz g yJ0_init_81219 cJ0_init_81219 2 none 6 1 T lay a x [.ref (a p), .ref (a q)] (SiE lay a x p bs) := by
  refine Mz_of (by decide +kernel) (Nat.le_of_ble_eq_true rfl) ?_
  intro k hk he hg
  subst hg
  refine xaload_n hk dJ0_init_81219_0 rfl ?_
  refine xaload_n hk dJ0_init_81219_1 rfl ?_
  refine xnull hk dJ0_init_81219_2 ?_
  refine xcallI hk (c_J0_init_db425 hC hp hB h1) i1_x i1_i rfl kJ0_489 dJ0_init_81219_3 rfl rfl (by decide) ⟨by omega, by omega⟩ (Nat.le_of_ble_eq_true rfl) ?_
  rintro _ _ a1 x1 ⟨rfl, rfl, hK, hc, hd⟩
  refine xvretZ hk he dJ0_init_81219_6 ⟨by omega, by omega⟩ ?_
  exact ⟨rfl, rfl, hK, hc, hd⟩
theorem SB.more {lay l : List Kd} {x x1 : XS} {q v cap : Nat} {bs : List Int32} (h : SB lay x q v cap bs) (hx : ∀ i, i < lay.length → ∀ j, x1.1 i j = x.1 i j ∧ x1.2 i j = x.2 i j) : SB (lay ++ l) x1 q v cap bs := by
  have hql := at_lt h.1
  have hvl := at_lt h.2.1
  refine ⟨app_o h.1, app_o h.2.1, by rw [(hx q hql 1).1]; exact h.2.2.1, by rw [(hx q hql 3).1]; exact h.2.2.2.1, h.2.2.2.2.1, h.2.2.2.2.2.1, fun j hj => by rw [(hx v hvl j).1]; exact h.2.2.2.2.2.2.1 j hj, fun j hj => by rw [(hx v hvl j).1]; exact h.2.2.2.2.2.2.2 j hj⟩
/-- a fresh text -/
def TsE (lay : List Kd) (a : Nat → Nat) (x : XS) (bs : List Int32) : Option Value → List Kd → (Nat → Nat) → XS → Prop := fun r lay' a' x' =>
  r = some (.ref (a' lay.length)) ∧ lay' = lay ++ [.inl (10, [lay.length + 4, 0, 0, 0]), .inr (2, bs.length)] ∧ Keep lay a a' x x' (fun _ => False) ∧ x'.1 lay.length 1 = 0 ∧ ∀ j, j < bs.length → x'.1 (lay.length + 1) j = bs.getD j 0
set_option maxHeartbeats 4000000 in
set_option maxRecDepth 100000 in
theorem c_J4_toString_0e30d {g : Gx} {a : Nat → Nat} {x : XS} {lay : List Kd} {q v cap : Nat} {bs : List Int32} {T : Nat} (hC : Cl lay) (hB : SB lay x q v cap bs) (h1 : bs.length ≤ T) : Mz g yJ4_toString_0e30d cJ4_toString_0e30d 1 (some (.object "java/lang/String")) 7 2 (T + 4) lay a x [.ref (a q)] (TsE lay a x bs) := by
  refine Mz_of (by decide +kernel) (Nat.le_of_ble_eq_true rfl) ?_
  intro k hk he hg
  subst hg
  have hql := at_lt hB.1
  have hvl := at_lt hB.2.1
  refine xnew (ci := 10) (ft := [2, 0, 0, 0]) hk tyJ0 dJ4_toString_0e30d_0 (gw_mem 1326 (by decide +kernel) (by decide +kernel)) (gw_mem 3 (by decide +kernel) (by decide +kernel)) tyJ0_ok rfl rfl kdJ0 (gw_mem 1325 (by decide +kernel) (by decide +kernel)) (by omega) (by omega) (okR_new hC) (fun a1 ha1 => ?_)
  refine xdup hk dJ4_toString_0e30d_3 rfl ?_
  refine xaload_n hk dJ4_toString_0e30d_4 rfl ?_
  have hB1 : SB (lay ++ [(.inl (10, [2, 0, 0, 0]) : Kd)]) (clr x lay.length) q v cap bs := hB.more clr_o
  have hC1 : Cl (lay ++ [(.inl (10, [2, 0, 0, 0]) : Kd)]) := hC.app (fun o e t ht h3 => by
    have e2 : o = (10, [2, 0, 0, 0]) := (Sum.inl.inj e).symm
    rw [e2] at ht
    simp at ht
    omega)
  rw [← ha1 q (Nat.ne_of_lt hql)]
  refine xcallI hk (c_J0_init_81219 hC1 app_n hB1 h1) i0_x i0_i rfl kJ4_137 dJ4_toString_0e30d_5 rfl rfl (by decide) ⟨by omega, by omega⟩ (Nat.le_of_ble_eq_true rfl) ?_
  rintro _ _ a2 x2 ⟨rfl, rfl, hK, hc, hd⟩
  rw [← hK.1 lay.length (by rw [List.length_append, List.length_singleton]; omega)]
  refine xaretZ hk he dJ4_toString_0e30d_8 (Or.inl ⟨_, rfl⟩) ⟨by omega, by omega⟩ ?_
  rw [List.length_append, List.length_singleton] at hd
  refine ⟨rfl, ?_, ⟨fun j hj => ?_, fun i hi _ j => ?_⟩, hc, hd⟩
  · rw [List.length_append, List.length_singleton, List.append_assoc, List.set_append_right _ _ (Nat.le_refl _), Nat.sub_self]
    rfl
  · rw [hK.1 j (by rw [List.length_append]; omega)]; exact ha1 j (Nat.ne_of_lt hj)
  · have h2 := hK.2 i (by rw [List.length_append]; omega) (Nat.ne_of_lt hi) j
    have h3 := clr_o (x := x) i hi j
    exact ⟨h2.1.trans h3.1, h2.2.trans h3.2⟩
