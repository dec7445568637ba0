theorem kJ5_32 : Cond.methodLink RJ5 32 yJ0_length_8abf5 ∈ GW := gw_mem 1227 (by decide +kernel) (by decide +kernel)
theorem kJ5_100 : Cond.methodLink RJ5 100 yJ5_ensureCapacityInternal_d00df ∈ GW := gw_mem 1175 (by decide +kernel) (by decide +kernel)
theorem kJ5_208 : Cond.methodLink RJ5 208 yJ5_putStringAt_47b60 ∈ GW := gw_mem 1228 (by decide +kernel) (by decide +kernel)
theorem kJ5_79 : Cond.fieldLink RJ5 79 "java/lang/AbstractStringBuilder" "count" "I" ∈ GW := gw_mem 1310 (by decide +kernel) (by decide +kernel)
theorem uJ5_append_cf1ce : CBu yJ5_append_cf1ce cJ5_append_cf1ce 3 (some (.object "java/lang/AbstractStringBuilder")) 1 := ⟨gw_mem 1170 (by decide +kernel) (by decide +kernel), gw_mem 1 (by decide +kernel) (by decide +kernel), gw_mem 1169 (by decide +kernel) (by decide +kernel), gw_mem 1418 (by decide +kernel) (by decide +kernel), rfl, ⟨by decide, by decide +kernel⟩, by decide⟩
theorem bJ4_append_15ec4 : CBv yJ4_append_15ec4 cJ4_append_15ec4 2 (some (.object "java/lang/StringBuilder")) 1 := ⟨⟨gw_mem 1166 (by decide +kernel) (by decide +kernel), gw_mem 2 (by decide +kernel) (by decide +kernel), by decide +kernel, by decide⟩, gw_mem 1164 (by decide +kernel) (by decide +kernel), gw_mem 1165 (by decide +kernel) (by decide +kernel)⟩
theorem kJ4_29 : Cond.methodLink RJ4 29 yJ5_append_cf1ce ∈ GW := gw_mem 1167 (by decide +kernel) (by decide +kernel)
theorem bJ6_stringSize_0f7a4 : CBs yJ6_stringSize_0f7a4 cJ6_stringSize_0f7a4 4 (some .int) 1 := ⟨⟨gw_mem 1278 (by decide +kernel) (by decide +kernel), gw_mem 12 (by decide +kernel) (by decide +kernel), by decide +kernel, by decide⟩, gw_mem 1277 (by decide +kernel) (by decide +kernel)⟩
theorem bJ6_getChars_ba4f3 : CBs yJ6_getChars_ba4f3 cJ6_getChars_ba4f3 7 (some .int) 3 := ⟨⟨gw_mem 1281 (by decide +kernel) (by decide +kernel), gw_mem 12 (by decide +kernel) (by decide +kernel), by decide +kernel, by decide⟩, gw_mem 1280 (by decide +kernel) (by decide +kernel)⟩
theorem kJ6_83 : Cond.fieldLink RJ6 83 "java/lang/Integer" "DigitOnes" "[B" ∈ GW := gw_mem 1282 (by decide +kernel) (by decide +kernel)
theorem kJ6_87 : Cond.fieldLink RJ6 87 "java/lang/Integer" "DigitTens" "[B" ∈ GW := gw_mem 1284 (by decide +kernel) (by decide +kernel)
theorem kJ5_245 : Cond.methodLink RJ5 245 yJ6_stringSize_0f7a4 ∈ GW := gw_mem 1276 (by decide +kernel) (by decide +kernel)
theorem kJ5_83 : Cond.methodLink RJ5 83 yJ5_isLatin1_aae02 ∈ GW := gw_mem 1206 (by decide +kernel) (by decide +kernel)
theorem kJ5_248 : Cond.methodLink RJ5 248 yJ6_getChars_ba4f3 ∈ GW := gw_mem 1279 (by decide +kernel) (by decide +kernel)
theorem uJ5_append_c97b9 : CBu yJ5_append_c97b9 cJ5_append_c97b9 4 (some (.object "java/lang/AbstractStringBuilder")) 1 := ⟨gw_mem 1275 (by decide +kernel) (by decide +kernel), gw_mem 1 (by decide +kernel) (by decide +kernel), gw_mem 1274 (by decide +kernel) (by decide +kernel), gw_mem 1425 (by decide +kernel) (by decide +kernel), rfl, ⟨by decide, by decide +kernel⟩, by decide⟩
theorem bJ4_append_bf812 : CBv yJ4_append_bf812 cJ4_append_bf812 2 (some (.object "java/lang/StringBuilder")) 1 := ⟨⟨gw_mem 1272 (by decide +kernel) (by decide +kernel), gw_mem 2 (by decide +kernel) (by decide +kernel), by decide +kernel, by decide⟩, gw_mem 1270 (by decide +kernel) (by decide +kernel), gw_mem 1271 (by decide +kernel) (by decide +kernel)⟩
theorem kJ4_53 : Cond.methodLink RJ4 53 yJ5_append_c97b9 ∈ GW := gw_mem 1273 (by decide +kernel) (by decide +kernel)
/-! append -/
/-- all cells but q and v as they were -/
def KeepQ (lay : List Kd) (q v : Nat) (a a' : Nat → Nat) (x x' : XS) : Prop := (∀ j, j < lay.length → j ≠ v → a' j = a j) ∧ ∀ i, i < lay.length → i ≠ v → i ≠ q → ∀ j, x'.1 i j = x.1 i j ∧ x'.2 i j = x.2 i j
def ApE (lay : List Kd) (a : Nat → Nat) (x : XS) (q v : Nat) (bs ts : List Int32) : Option Value → List Kd → (Nat → Nat) → XS → Prop := fun r lay' a' x' =>
  r = some (.ref (a' q)) ∧ ∃ cap', lay' = lay.set v (.inr (2, cap')) ∧ KeepQ lay q v a a' x x' ∧ SB lay' x' q v cap' (bs ++ ts)
theorem StrR.keep {s : Nat → Nat} {lay : List Kd} {a a1 : Nat → Nat} {x x1 : XS} {q v cap cap1 r : Nat} {bs ts : List Int32} (h : StrR s lay a x r ts) (hO : Own lay q v) (hB : SB lay x q v cap bs) (hK : KeepV lay v a a1 x x1) : StrR s (lay.set v (.inr (2, cap1))) a1 x1 r ts := by
  rcases h with h | ⟨p, w, hD, rfl⟩
  · exact Or.inl h
  · have hpv : p ≠ v := fun e => by
      have := hD.1; rw [e, hB.2.1] at this; cases this
    have hpq : p ≠ q := fun e => by
      have := hD.1; rw [e, hB.1] at this; cases this
    have hwv : w ≠ v := fun e => hO p _ hD.1 hpq (by rw [e]; exact List.mem_cons_self)
    have hpl := at_lt hD.1
    have hwl := at_lt hD.2.1
    refine Or.inr ⟨p, w, ⟨by rw [List.getElem?_set_ne hpv.symm]; exact hD.1, by rw [List.getElem?_set_ne hwv.symm]; exact hD.2.1, by rw [(hK.2 p hpl hpv 1).1]; exact hD.2.2.1, fun j hj => by rw [(hK.2 w hwl hwv j).1]; exact hD.2.2.2 j hj⟩, (hK.1 p hpl hpv).symm⟩
theorem SB.put {lay : List Kd} {x x1 : XS} {q v cap : Nat} {bs ts : List Int32} (h : SB lay x q v cap bs) (hA : Asc ts) (hl : bs.length + ts.length ≤ cap) (hG : GbP x v bs.length ts x1) : SB lay (setI x1 q 3 (nI (bs.length + ts.length))) q v cap (bs ++ ts) := by
  have hqv := h.ne
  obtain ⟨f, rfl, hf⟩ := hG
  have hv : ∀ j, (setI (setF x v f) q 3 (nI (bs.length + ts.length))).1 v j = f j := fun j => by simp [setI, setF, Ne.symm hqv]
  refine ⟨h.1, h.2.1, ?_, ?_, by rw [List.length_append]; exact hl, h.2.2.2.2.2.1, fun j hj => ?_, fun j hj => ?_⟩
  · simp [setI, setF, hqv]; exact h.2.2.1
  · simp [setI, List.length_append]
  · rw [hv, hf]
    by_cases hj2 : bs.length ≤ j ∧ j < bs.length + ts.length
    · rw [if_pos hj2]; exact hA.fit (by omega)
    · rw [if_neg hj2]; exact h.2.2.2.2.2.2.1 j hj
  · rw [List.length_append] at hj
    rw [hv, hf]
    by_cases hj2 : bs.length ≤ j
    · rw [if_pos ⟨hj2, hj⟩, List.getD_eq_getElem?_getD, List.getD_eq_getElem?_getD, List.getElem?_append_right hj2]
    · rw [if_neg (fun z => hj2 z.1), h.2.2.2.2.2.2.2 j (by omega), List.getD_eq_getElem?_getD, List.getD_eq_getElem?_getD, List.getElem?_append_left (by omega)]
theorem KeepV.q {lay : List Kd} {q v : Nat} {a a1 : Nat → Nat} {x x1 x2 : XS} {f : Nat → Int32} {n : Int32} (hqv : q ≠ v) (h : KeepV lay v a a1 x x1) (h2 : x2 = setF x1 v f) : KeepQ lay q v a a1 x (setI x2 q 3 n) := by
  subst h2
  refine ⟨h.1, fun i hi hiv hiq j => ?_⟩
  have := h.2 i hi hiv j
  exact ⟨by simp [setI, setF, hiv, hiq]; exact this.1, by simp [setI, setF]; exact this.2⟩
set_option maxHeartbeats 4000000 in
set_option maxRecDepth 100000 in
theorem c_J5_append_cf1ce {g : Gx} {a : Nat → Nat} {x : XS} {lay : List Kd} {q v cap : Nat} {bs : List Int32} {r : Nat} {ts : List Int32} {T : Nat} (hC : Cl lay) (hO : Own lay q v) (hB : SB lay x q v cap bs) (hS : StrR g.2.2.2.2 lay a x r ts) (hA : Asc ts) (h1 : bs.length + ts.length ≤ T) (h2 : T < 2 ^ 18) : Mz g yJ5_append_cf1ce cJ5_append_cf1ce 3 (some (.object "java/lang/AbstractStringBuilder")) 6 1 (2 * T) lay a x [.ref (a q), .ref r] (ApE lay a x q v bs ts) := by
  refine Mz_of (by decide +kernel) (Nat.le_of_ble_eq_true rfl) ?_
  intro k hk he hg
  subst hg
  have hqv := hB.ne
  have hql := at_lt hB.1
  refine xaload_n hk dJ5_append_cf1ce_0 rfl ?_
  refine xnonnull hk 9 dJ5_append_cf1ce_1 (by decide) ?_
  refine xaload_n hk dJ5_append_cf1ce_9 rfl ?_
  refine xcallStr hk hS (c_lengthR hS) bJ0_length_8abf5 kJ5_32 dJ5_append_cf1ce_10 rfl rfl rfl (by decide) ⟨by omega, by omega⟩ (Nat.le_of_ble_eq_true rfl) (det ?_)
  refine xistore_n hk dJ5_append_cf1ce_13 (by decide) ?_
  refine xaload_n hk dJ5_append_cf1ce_14 rfl ?_
  refine xaload_n hk dJ5_append_cf1ce_15 rfl ?_
  refine xgetI (ci := 11) (f := 3) hk dJ5_append_cf1ce_16 ⟨rfl, by decide, _, hB.1, rfl⟩ kJ5_79 ?_
  rw [hB.2.2.2.1]
  refine xiload_n hk dJ5_append_cf1ce_19 rfl ?_
  refine xiadd hk dJ5_append_cf1ce_20 ?_
  rw [nI_addN]
  refine xcallRZ hk (c_J5_ensureCapacityInternal_d00df hC hO hB h1 h2) bJ5_ensureCapacityInternal_d00df kJ5_100 dJ5_append_cf1ce_21 rfl hB.1 rfl rfl (by decide) ⟨by omega, by omega⟩ (Nat.le_of_ble_eq_true rfl) ?_
  rintro _ _ a1 x1 ⟨rfl, cap1, rfl, hK, hw, hB1⟩
  have hS1 := hS.keep (cap1 := cap1) hO hB hK
  rw [← hK.1 q hql hqv]
  refine xaload_n hk dJ5_append_cf1ce_24 rfl ?_
  refine xaload_n hk dJ5_append_cf1ce_25 rfl ?_
  refine xgetI (ci := 11) (f := 3) hk dJ5_append_cf1ce_26 ⟨rfl, by decide, _, hB1.1, rfl⟩ kJ5_79 ?_
  rw [hB1.2.2.2.1]
  refine xaload_n hk dJ5_append_cf1ce_29 rfl ?_
  refine xcallR hk (c_J5_putStringAt_47b60 hB1 hS1 hA hw) bJ5_putStringAt_47b60 kJ5_208 dJ5_append_cf1ce_30 rfl hB1.1 rfl rfl (by decide) ⟨by omega, by omega⟩ (Nat.le_of_ble_eq_true rfl) (fun v2 x2 h2 => ?_)
  obtain ⟨rfl, hG⟩ := h2
  have hc1 : x2.1 q 3 = nI bs.length := by
    obtain ⟨f, rfl, -⟩ := hG
    show (if q = v then _ else _) = _
    rw [if_neg hqv]; exact hB1.2.2.2.1
  refine xaload_n hk dJ5_append_cf1ce_33 rfl ?_
  refine xdup hk dJ5_append_cf1ce_34 rfl ?_
  refine xgetI (ci := 11) (f := 3) hk dJ5_append_cf1ce_35 ⟨rfl, by decide, _, hB1.1, rfl⟩ kJ5_79 ?_
  rw [hc1]
  refine xiload_n hk dJ5_append_cf1ce_38 rfl ?_
  refine xiadd hk dJ5_append_cf1ce_39 ?_
  rw [nI_addN]
  refine xputI (ci := 11) (f := 3) hk dJ5_append_cf1ce_40 ⟨rfl, by decide, _, hB1.1, rfl⟩ kJ5_79 ⟨rfl, by decide +kernel⟩ ?_
  refine xaload_n hk dJ5_append_cf1ce_43 rfl ?_
  refine xaretZ hk he dJ5_append_cf1ce_44 (Or.inl ⟨_, rfl⟩) ⟨by omega, by omega⟩ ?_
  have hP := hB1.put hA hw hG
  obtain ⟨f, hf, -⟩ := hG
  exact ⟨rfl, cap1, rfl, hK.q hqv hf, hP⟩
set_option maxHeartbeats 4000000 in
set_option maxRecDepth 100000 in
theorem c_J4_append_15ec4 {g : Gx} {a : Nat → Nat} {x : XS} {lay : List Kd} {q v cap : Nat} {bs : List Int32} {r : Nat} {ts : List Int32} {T : Nat} (hC : Cl lay) (hO : Own lay q v) (hB : SB lay x q v cap bs) (hS : StrR g.2.2.2.2 lay a x r ts) (hA : Asc ts) (h1 : bs.length + ts.length ≤ T) (h2 : T < 2 ^ 18) : Mz g yJ4_append_15ec4 cJ4_append_15ec4 2 (some (.object "java/lang/StringBuilder")) 7 1 (2 * T) lay a x [.ref (a q), .ref r] (ApE lay a x q v bs ts) := by
  refine Mz_of (by decide +kernel) (Nat.le_of_ble_eq_true rfl) ?_
  intro k hk he hg
  subst hg
  refine xaload_n hk dJ4_append_15ec4_0 rfl ?_
  refine xaload_n hk dJ4_append_15ec4_1 rfl ?_
  refine xcallUZ hk (c_J5_append_cf1ce hC hO hB hS hA h1 h2) uJ5_append_cf1ce kJ4_29 dJ4_append_15ec4_2 rfl hB.1 rfl (by decide) ⟨by omega, by omega⟩ (Nat.le_of_ble_eq_true rfl) ?_
  rintro _ _ a1 x1 ⟨rfl, cap1, rfl, hK, hB1⟩
  rw [← hK.1 q (at_lt hB.1) hB.ne]
  refine xpop hk dJ4_append_15ec4_5 rfl ?_
  refine xaload_n hk dJ4_append_15ec4_6 rfl ?_
  refine xaretZ hk he dJ4_append_15ec4_7 (Or.inl ⟨_, rfl⟩) ⟨by omega, by omega⟩ ?_
  exact ⟨rfl, cap1, rfl, hK, hB1⟩
/-- a number below 100 as it is written -/
def numB (n : Nat) : List Int32 := if n < 10 then [nI (48 + n)] else [nI (48 + n / 10), nI (48 + n % 10)]
theorem numB_len (n : Nat) : (numB n).length = if n < 10 then 1 else 2 := by
  unfold numB; split <;> rfl
theorem numB_asc {n : Nat} (h : n < 100) : Asc (numB n) := fun b hb => by
  unfold numB at hb
  split at hb
  · rw [List.mem_singleton] at hb; exact ⟨_, by omega, hb⟩
  · rcases List.mem_cons.mp hb with h1 | h1
    · exact ⟨_, by omega, h1⟩
    · rw [List.mem_singleton] at h1; exact ⟨_, by omega, h1⟩
theorem negI {n : Nat} (h : n < 2 ^ 30) : (-nI n).toInt = -(n : Int) := by
  rw [Int32.toInt_neg, nI_toI (by omega)]
  exact Int.bmod_eq_of_le (by omega) (by omega)
theorem neg_le {n b : Nat} (hn : n < 2 ^ 30) (hb : b < 2 ^ 30) : -nI n ≤ -nI b ↔ b ≤ n := by
  rw [Int32.le_iff_toInt_le, negI hn, negI hb]; omega
theorem neg_lt {n b : Nat} (hn : n < 2 ^ 30) (hb : b < 2 ^ 30) : -nI n < -nI b ↔ b < n := by
  rw [Int32.lt_iff_toInt_lt, negI hn, negI hb]; omega
theorem nI_decE {e : Nat} (h : 1 ≤ e) : nI e + Int32.ofInt (-1) = nI (e - 1) := by
  obtain ⟨k, rfl⟩ : ∃ k, e = k + 1 := ⟨e - 1, by omega⟩
  rw [← nI_1, Int32.add_assoc, show (1 : Int32) + Int32.ofInt (-1) = 0 from by decide, Int32.add_zero, Nat.add_sub_cancel]
theorem dig8 : ∀ d, d < 10 → (Int32.ofNat (48 + d)).toInt8.toInt32 = nI (48 + d) := by decide +kernel
theorem setI_F (x : XS) (v i : Nat) (w : Int32) : setI x v i w = setF x v (fun j => if j = i then w else x.1 v j) := by
  unfold setI setF
  refine Prod.ext ?_ rfl
  funext i1 j1
  by_cases h1 : i1 = v
  · subst h1; by_cases h2 : j1 = i <;> simp [h2]
  · simp [h1]
set_option maxHeartbeats 4000000 in
set_option maxRecDepth 100000 in
theorem c_J6_stringSize_0f7a4 {g : Gx} {a : Nat → Nat} {x : XS} {lay : List Kd} {n : Nat} (hn : n < 100) : Mx g yJ6_stringSize_0f7a4 cJ6_stringSize_0f7a4 4 (some .int) 1 0 0 lay a x [.int (nI n)] (pr (some (.int (nI (if n < 10 then 1 else 2)))) x) := by
  refine Mx_of (by decide +kernel) (Nat.le_of_ble_eq_true rfl) ?_
  intro k hk he hg
  subst hg
  refine xiconst (v := 1) hk dJ6_stringSize_0f7a4_0 (by decide) ?_
  refine xistore_n hk dJ6_stringSize_0f7a4_1 (by decide) ?_
  refine xiload_n hk dJ6_stringSize_0f7a4_2 rfl ?_
  refine xif_lt hk 11 dJ6_stringSize_0f7a4_3 (by decide) (fun h3 => ?_) (fun h3 => ?_)
  · exact absurd h3 (nI_pos (by omega))
  · refine xiconst (v := 0) hk dJ6_stringSize_0f7a4_6 (by decide) ?_
    refine xistore_n hk dJ6_stringSize_0f7a4_7 (by decide) ?_
    refine xiload_n hk dJ6_stringSize_0f7a4_8 rfl ?_
    refine xineg hk dJ6_stringSize_0f7a4_9 ?_
    refine xistore_n hk dJ6_stringSize_0f7a4_10 (by decide) ?_
    refine xbipush (v := (-10)) hk dJ6_stringSize_0f7a4_11 (by decide) ?_
    refine xistore_n hk dJ6_stringSize_0f7a4_13 (by decide) ?_
    refine xiconst (v := 1) hk dJ6_stringSize_0f7a4_14 (by decide) ?_
    refine xistore_n hk dJ6_stringSize_0f7a4_15 (by decide) ?_
    refine xiload_n hk dJ6_stringSize_0f7a4_16 rfl ?_
    refine xbipush (v := 10) hk dJ6_stringSize_0f7a4_17 (by decide) ?_
    refine xicmp_ge hk 42 dJ6_stringSize_0f7a4_19 (by decide) (fun h19 => ?_) (fun h19 => ?_)
    · exact absurd h19 (by decide)
    · refine xiload_n hk dJ6_stringSize_0f7a4_22 rfl ?_
      refine xiload_n hk dJ6_stringSize_0f7a4_23 rfl ?_
      refine xicmp_le hk 31 dJ6_stringSize_0f7a4_24 (by decide) (fun h24 => ?_) (fun h24 => ?_)
      · have h10 := (neg_le (b := 10) (by omega) (by decide)).mp h24
        refine xbipush (v := 10) hk dJ6_stringSize_0f7a4_31 (by decide) ?_
        refine xiload_n hk dJ6_stringSize_0f7a4_33 rfl ?_
        refine ximul hk dJ6_stringSize_0f7a4_34 ?_
        refine xistore_n hk dJ6_stringSize_0f7a4_35 (by decide) ?_
        refine xiinc hk dJ6_stringSize_0f7a4_36 rfl (by decide) rfl ?_
        refine xgoto hk 16 dJ6_stringSize_0f7a4_39 (by decide) ?_
        refine xiload_n hk dJ6_stringSize_0f7a4_16 rfl ?_
        refine xbipush (v := 10) hk dJ6_stringSize_0f7a4_17 (by decide) ?_
        refine xicmp_ge hk 42 dJ6_stringSize_0f7a4_19 (by decide) (fun h19 => ?_) (fun h19 => ?_)
        · exact absurd h19 (by decide)
        · refine xiload_n hk dJ6_stringSize_0f7a4_22 rfl ?_
          refine xiload_n hk dJ6_stringSize_0f7a4_23 rfl ?_
          refine xicmp_le hk 31 dJ6_stringSize_0f7a4_24 (by decide) (fun h24 => ?_) (fun h24 => ?_)
          · exact absurd ((neg_le (b := 100) (by omega) (by decide)).mp h24) (by omega)
          · refine xiload_n hk dJ6_stringSize_0f7a4_27 rfl ?_
            refine xiload_n hk dJ6_stringSize_0f7a4_28 rfl ?_
            refine xiadd hk dJ6_stringSize_0f7a4_29 ?_
            refine xiret hk he dJ6_stringSize_0f7a4_30 ⟨by decide, by decide⟩ ?_
            exact ⟨by rw [if_neg (by omega)]; decide, rfl⟩
      · refine xiload_n hk dJ6_stringSize_0f7a4_27 rfl ?_
        refine xiload_n hk dJ6_stringSize_0f7a4_28 rfl ?_
        refine xiadd hk dJ6_stringSize_0f7a4_29 ?_
        refine xiret hk he dJ6_stringSize_0f7a4_30 ⟨by decide, by decide⟩ ?_
        exact ⟨by rw [if_pos (Nat.not_le.mp (fun z => h24 ((neg_le (b := 10) (by omega) (by decide)).mpr z)))]; decide, rfl⟩
set_option maxHeartbeats 4000000 in
set_option maxRecDepth 100000 in
theorem c_J6_getChars_ba4f3 {g : Gx} {a : Nat → Nat} {x : XS} {lay : List Kd} {n d v cap : Nat} (hn : n < 100) (hv : lay[v]? = some (.inr (2, cap))) (hd : d + (numB n).length ≤ cap) (hcap : cap < 2 ^ 20) : Mx g yJ6_getChars_ba4f3 cJ6_getChars_ba4f3 7 (some .int) 1 0 0 lay a x [.int (nI n), .int (nI (d + (numB n).length)), .ref (a v)] (fun r x' => (∃ z, r = some (.int z)) ∧ GbP x v d (numB n) x') := by
  refine Mx_of (by decide +kernel) (Nat.le_of_ble_eq_true rfl) ?_
  intro k hk he hg
  subst hg
  obtain ⟨e, hE⟩ : ∃ e, e = d + (numB n).length := ⟨_, rfl⟩
  rw [← hE] at hd ⊢
  have hnl := numB_len n
  have hnl2 : (numB n).length = 1 ∨ (numB n).length = 2 := by rw [hnl]; split <;> omega
  refine xiload_n hk dJ6_getChars_ba4f3_0 rfl ?_
  refine xistore hk dJ6_getChars_ba4f3_1 (by decide) ?_
  refine xiload_n hk dJ6_getChars_ba4f3_3 rfl ?_
  refine xif_ge hk 11 dJ6_getChars_ba4f3_4 (by decide) (fun h4 => ?_) (fun h4 => ?_)
  · refine xiconst (v := 0) hk dJ6_getChars_ba4f3_11 (by decide) ?_
    refine xistore hk dJ6_getChars_ba4f3_12 (by decide) ?_
    refine xiload hk dJ6_getChars_ba4f3_14 rfl ?_
    refine xif_ne hk 22 dJ6_getChars_ba4f3_16 (by decide) (fun h16 => ?_) (fun h16 => ?_)
    · exact absurd rfl h16
    · refine xiload_n hk dJ6_getChars_ba4f3_19 rfl ?_
      refine xineg hk dJ6_getChars_ba4f3_20 ?_
      refine xistore_n hk dJ6_getChars_ba4f3_21 (by decide) ?_
      refine xiload_n hk dJ6_getChars_ba4f3_22 rfl ?_
      refine xbipush (v := (-100)) hk dJ6_getChars_ba4f3_23 (by decide) ?_
      refine xicmp_gt hk 72 dJ6_getChars_ba4f3_25 (by decide) (fun h25 => ?_) (fun h25 => ?_)
      · refine xaload_n hk dJ6_getChars_ba4f3_72 rfl ?_
        refine xiinc (v := nI (e - 1)) hk dJ6_getChars_ba4f3_73 rfl (by decide) (nI_decE (by omega)) ?_
        refine xiload hk dJ6_getChars_ba4f3_76 rfl ?_
        refine xdigO hk dJ6_getChars_ba4f3_78 kJ6_83 ?_
        refine xiload_n hk dJ6_getChars_ba4f3_81 rfl ?_
        refine xineg hk dJ6_getChars_ba4f3_82 ?_
        rw [Int32.neg_neg]
        refine xdigOg hk dJ6_getChars_ba4f3_83 (vp_in_nI (by omega) (by decide)) ?_
        rw [nI_clamp (by omega)]
        refine xbast hk dJ6_getChars_ba4f3_84 hv (vp_in_nI (by omega) (by omega)) ?_
        rw [nI_clamp (by omega), dig8 _ (Nat.mod_lt _ (by decide))]
        refine xiload_n hk dJ6_getChars_ba4f3_85 rfl ?_
        refine xbipush (v := (-9)) hk dJ6_getChars_ba4f3_86 (by decide) ?_
        refine xicmp_ge hk 104 dJ6_getChars_ba4f3_88 (by decide) (fun h88 => ?_) (fun h88 => ?_)
        · have hn9 := (neg_le (n := 9) (b := n) (by decide) (by omega)).mp h88
          rw [if_pos (by omega)] at hnl
          refine xiload hk dJ6_getChars_ba4f3_104 rfl ?_
          refine xif_eq hk 118 dJ6_getChars_ba4f3_106 (by decide) (fun h106 => ?_) (fun h106 => ?_)
          · refine xiload hk dJ6_getChars_ba4f3_118 rfl ?_
            refine xiret hk he dJ6_getChars_ba4f3_120 ⟨by decide, by decide⟩ ?_
            refine ⟨⟨_, rfl⟩, _, setI_F _ _ _ _, fun j => ?_⟩
            have hb : numB n = [nI (48 + n)] := if_pos (by omega)
            have hb2 : (numB n).length = 1 := by rw [hb]; rfl
            rw [hb2, hb]
            by_cases hj : d ≤ j ∧ j < d + 1
            · rw [if_pos hj, if_pos (by omega), show j - d = 0 by omega, show n % 10 = n by omega]
              rfl
            · rw [if_neg hj, if_neg (by omega)]
          · exact absurd rfl h106
        · have hn10 : 10 ≤ n := Nat.not_lt.mp (fun z => h88 ((neg_le (n := 9) (b := n) (by decide) (by omega)).mpr (by omega)))
          rw [if_neg (by omega)] at hnl
          refine xaload_n hk dJ6_getChars_ba4f3_91 rfl ?_
          refine xiinc (v := nI (e - 1 - 1)) hk dJ6_getChars_ba4f3_92 rfl (by decide) (nI_decE (by omega)) ?_
          refine xiload hk dJ6_getChars_ba4f3_95 rfl ?_
          refine xdigT hk dJ6_getChars_ba4f3_97 kJ6_87 ?_
          refine xiload_n hk dJ6_getChars_ba4f3_100 rfl ?_
          refine xineg hk dJ6_getChars_ba4f3_101 ?_
          rw [Int32.neg_neg]
          refine xdigTg hk dJ6_getChars_ba4f3_102 (vp_in_nI (by omega) (by decide)) ?_
          rw [nI_clamp (by omega)]
          refine xbast hk dJ6_getChars_ba4f3_103 hv (vp_in_nI (by omega) (by omega)) ?_
          rw [nI_clamp (by omega), dig8 _ (by omega)]
          refine xiload hk dJ6_getChars_ba4f3_104 rfl ?_
          refine xif_eq hk 118 dJ6_getChars_ba4f3_106 (by decide) (fun h106 => ?_) (fun h106 => ?_)
          · refine xiload hk dJ6_getChars_ba4f3_118 rfl ?_
            refine xiret hk he dJ6_getChars_ba4f3_120 ⟨by decide, by decide⟩ ?_
            refine ⟨⟨_, rfl⟩, _, by rw [setI_F _ _ (e - 1 - 1), setI_F _ _ (e - 1), setF_F], fun j => ?_⟩
            have hb : numB n = [nI (48 + n / 10), nI (48 + n % 10)] := if_neg (by omega)
            have hb2 : (numB n).length = 2 := by rw [hb]; rfl
            rw [hb2, hb]
            show (if j = e - 1 - 1 then _ else (setF x v _).1 v j) = _
            rw [setF_at]
            by_cases hj : d ≤ j ∧ j < d + 2
            · rw [if_pos hj]
              by_cases hj0 : j = d
              · rw [if_pos (by omega), show j - d = 0 by omega]; rfl
              · rw [if_neg (by omega), if_pos (by omega), show j - d = 1 by omega]; rfl
            · rw [if_neg hj, if_neg (by omega), if_neg (by omega)]
          · exact absurd rfl h106
      · exact absurd ((neg_lt (n := 100) (b := n) (by decide) (by omega)).mpr (by omega)) h25
  · exact absurd (nI_pos' (by omega)) h4
set_option maxHeartbeats 4000000 in
set_option maxRecDepth 100000 in
theorem c_J5_append_c97b9 {g : Gx} {a : Nat → Nat} {x : XS} {lay : List Kd} {q v cap : Nat} {bs : List Int32} {n T : Nat} (hC : Cl lay) (hO : Own lay q v) (hB : SB lay x q v cap bs) (hn : n < 100) (h1 : bs.length + (numB n).length ≤ T) (h2 : T < 2 ^ 18) : Mz g yJ5_append_c97b9 cJ5_append_c97b9 4 (some (.object "java/lang/AbstractStringBuilder")) 6 1 (2 * T) lay a x [.ref (a q), .int (nI n)] (ApE lay a x q v bs (numB n)) := by
  refine Mz_of (by decide +kernel) (Nat.le_of_ble_eq_true rfl) ?_
  intro k hk he hg
  subst hg
  have hqv := hB.ne
  have hql := at_lt hB.1
  have hvl := at_lt hB.2.1
  refine xaload_n hk dJ5_append_c97b9_0 rfl ?_
  refine xgetI (ci := 11) (f := 3) hk dJ5_append_c97b9_1 ⟨rfl, by decide, _, hB.1, rfl⟩ kJ5_79 ?_
  rw [hB.2.2.2.1]
  refine xistore_n hk dJ5_append_c97b9_4 (by decide) ?_
  refine xiload_n hk dJ5_append_c97b9_5 rfl ?_
  refine xiload_n hk dJ5_append_c97b9_6 rfl ?_
  refine xcallS hk (c_J6_stringSize_0f7a4 hn) bJ6_stringSize_0f7a4 kJ5_245 dJ5_append_c97b9_7 rfl rfl (by decide) ⟨by omega, by omega⟩ (Nat.le_of_ble_eq_true rfl) (det ?_)
  refine xiadd hk dJ5_append_c97b9_10 ?_
  rw [← numB_len, nI_addN]
  refine xistore_n hk dJ5_append_c97b9_11 (by decide) ?_
  refine xaload_n hk dJ5_append_c97b9_12 rfl ?_
  refine xiload_n hk dJ5_append_c97b9_13 rfl ?_
  refine xcallRZ hk (c_J5_ensureCapacityInternal_d00df hC hO hB h1 h2) bJ5_ensureCapacityInternal_d00df kJ5_100 dJ5_append_c97b9_14 rfl hB.1 rfl rfl (by decide) ⟨by omega, by omega⟩ (Nat.le_of_ble_eq_true rfl) ?_
  rintro _ _ a1 x1 ⟨rfl, cap1, rfl, hK, hw, hB1⟩
  rw [← hK.1 q hql hqv]
  refine xaload_n hk dJ5_append_c97b9_17 rfl ?_
  refine xcallR hk (c_J5_isLatin1_aae02 hB1) bJ5_isLatin1_aae02 kJ5_83 dJ5_append_c97b9_18 rfl hB1.1 rfl rfl (by decide) ⟨by omega, by omega⟩ (Nat.le_of_ble_eq_true rfl) (det ?_)
  refine xif_eq hk 37 dJ5_append_c97b9_21 (by decide) (fun h21 => ?_) (fun h21 => ?_)
  · exact absurd h21 (by decide)
  · refine xiload_n hk dJ5_append_c97b9_24 rfl ?_
    refine xiload_n hk dJ5_append_c97b9_25 rfl ?_
    refine xaload_n hk dJ5_append_c97b9_26 rfl ?_
    refine xgetR (ci := 11) (f := 0) hk dJ5_append_c97b9_27 ⟨rfl, by decide, _, hB1.1, rfl⟩ kJ5_15 ?_
    refine xcallS hk (c_J6_getChars_ba4f3 hn hB1.2.1 hw hB1.2.2.2.2.2.1) bJ6_getChars_ba4f3 kJ5_248 dJ5_append_c97b9_30 rfl rfl (by decide) ⟨by omega, by omega⟩ (Nat.le_of_ble_eq_true rfl) (fun v2 x2 h2 => ?_)
    obtain ⟨⟨z, rfl⟩, hG⟩ := h2
    refine xpop hk dJ5_append_c97b9_33 rfl ?_
    refine xgoto hk 48 dJ5_append_c97b9_34 (by decide) ?_
    refine xaload_n hk dJ5_append_c97b9_48 rfl ?_
    refine xiload_n hk dJ5_append_c97b9_49 rfl ?_
    refine xputI (ci := 11) (f := 3) hk dJ5_append_c97b9_50 ⟨rfl, by decide, _, hB1.1, rfl⟩ kJ5_79 ⟨rfl, by decide +kernel⟩ ?_
    refine xaload_n hk dJ5_append_c97b9_53 rfl ?_
    refine xaretZ hk he dJ5_append_c97b9_54 (Or.inl ⟨_, rfl⟩) ⟨by omega, by omega⟩ ?_
    have hP := hB1.put (numB_asc hn) hw hG
    obtain ⟨f, hf, -⟩ := hG
    exact ⟨rfl, cap1, rfl, hK.q hqv hf, hP⟩
set_option maxHeartbeats 4000000 in
set_option maxRecDepth 100000 in
theorem c_J4_append_bf812 {g : Gx} {a : Nat → Nat} {x : XS} {lay : List Kd} {q v cap : Nat} {bs : List Int32} {n T : Nat} (hC : Cl lay) (hO : Own lay q v) (hB : SB lay x q v cap bs) (hn : n < 100) (h1 : bs.length + (numB n).length ≤ T) (h2 : T < 2 ^ 18) : Mz g yJ4_append_bf812 cJ4_append_bf812 2 (some (.object "java/lang/StringBuilder")) 7 1 (2 * T) lay a x [.ref (a q), .int (nI n)] (ApE lay a x q v bs (numB n)) := by
  refine Mz_of (by decide +kernel) (Nat.le_of_ble_eq_true rfl) ?_
  intro k hk he hg
  subst hg
  refine xaload_n hk dJ4_append_bf812_0 rfl ?_
  refine xiload_n hk dJ4_append_bf812_1 rfl ?_
  refine xcallUZ hk (c_J5_append_c97b9 hC hO hB hn h1 h2) uJ5_append_c97b9 kJ4_53 dJ4_append_bf812_2 rfl hB.1 rfl (by decide) ⟨by omega, by omega⟩ (Nat.le_of_ble_eq_true rfl) ?_
  rintro _ _ a1 x1 ⟨rfl, cap1, rfl, hK, hB1⟩
  rw [← hK.1 q (at_lt hB.1) hB.ne]
  refine xpop hk dJ4_append_bf812_5 rfl ?_
  refine xaload_n hk dJ4_append_bf812_6 rfl ?_
  refine xaretZ hk he dJ4_append_bf812_7 (Or.inl ⟨_, rfl⟩) ⟨by omega, by omega⟩ ?_
  exact ⟨rfl, cap1, rfl, hK, hB1⟩
