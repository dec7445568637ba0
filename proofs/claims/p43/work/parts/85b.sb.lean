theorem bJ5_isLatin1_aae02 : CBr yJ5_isLatin1_aae02 cJ5_isLatin1_aae02 1 (some .boolean) 0 := ⟨⟨gw_mem 1210 (by decide +kernel) (by decide +kernel), gw_mem 1 (by decide +kernel) (by decide +kernel), by decide +kernel, by decide⟩, gw_mem 1207 (by decide +kernel) (by decide +kernel), .inl (gw_mem 1209 (by decide +kernel) (by decide +kernel))⟩
theorem kJ5_18 : Cond.fieldLink RJ5 18 "java/lang/String" "COMPACT_STRINGS" "Z" ∈ GW := gw_mem 1211 (by decide +kernel) (by decide +kernel)
theorem kJ5_22 : Cond.fieldLink RJ5 22 "java/lang/AbstractStringBuilder" "coder" "B" ∈ GW := gw_mem 1308 (by decide +kernel) (by decide +kernel)
theorem kJ8_194 : Cond.methodLink RJ8 194 Lib.Math.max.name ∈ GW := gw_mem 1186 (by decide +kernel) (by decide +kernel)
theorem kJ8_200 : Cond.constant RJ8 200 (2147483639) ∈ GW := gw_mem 1187 (by decide +kernel) (by decide +kernel)
theorem bJ5_newCapacity_0f7a4 : CBr yJ5_newCapacity_0f7a4 cJ5_newCapacity_0f7a4 6 (some .int) 1 := ⟨⟨gw_mem 1182 (by decide +kernel) (by decide +kernel), gw_mem 1 (by decide +kernel) (by decide +kernel), by decide +kernel, by decide⟩, gw_mem 1181 (by decide +kernel) (by decide +kernel), .inr (nw_mem 1180 (by decide +kernel) rfl)⟩
theorem bJ8_newLength_cabcc : CBs yJ8_newLength_cabcc cJ8_newLength_cabcc 4 (some .int) 3 := ⟨⟨gw_mem 1185 (by decide +kernel) (by decide +kernel), gw_mem 6 (by decide +kernel) (by decide +kernel), by decide +kernel, by decide⟩, gw_mem 1184 (by decide +kernel) (by decide +kernel)⟩
theorem kJ5_15 : Cond.fieldLink RJ5 15 "java/lang/AbstractStringBuilder" "value" "[B" ∈ GW := gw_mem 1307 (by decide +kernel) (by decide +kernel)
theorem kJ5_114 : Cond.methodLink RJ5 114 yJ8_newLength_cabcc ∈ GW := gw_mem 1183 (by decide +kernel) (by decide +kernel)
theorem kJ5_39 : Cond.constant RJ5 39 (2147483647) ∈ GW := gw_mem 1191 (by decide +kernel) (by decide +kernel)
theorem bJ7_copyOf_9075b : CBs yJ7_copyOf_9075b cJ7_copyOf_9075b 3 (some (.array .byte)) 2 := ⟨⟨gw_mem 1194 (by decide +kernel) (by decide +kernel), gw_mem 8 (by decide +kernel) (by decide +kernel), by decide +kernel, by decide⟩, gw_mem 1193 (by decide +kernel) (by decide +kernel)⟩
theorem kJ7_304 : Cond.methodLink RJ7 304 Lib.Math.min.name ∈ GW := gw_mem 1202 (by decide +kernel) (by decide +kernel)
theorem bJ5_ensureCapacityInternal_d00df : CBr yJ5_ensureCapacityInternal_d00df cJ5_ensureCapacityInternal_d00df 3 none 1 := ⟨⟨gw_mem 1178 (by decide +kernel) (by decide +kernel), gw_mem 1 (by decide +kernel) (by decide +kernel), by decide +kernel, by decide⟩, gw_mem 1177 (by decide +kernel) (by decide +kernel), .inr (nw_mem 1176 (by decide +kernel) rfl)⟩
theorem kJ5_104 : Cond.methodLink RJ5 104 yJ5_newCapacity_0f7a4 ∈ GW := gw_mem 1179 (by decide +kernel) (by decide +kernel)
theorem kJ5_108 : Cond.methodLink RJ5 108 yJ7_copyOf_9075b ∈ GW := gw_mem 1192 (by decide +kernel) (by decide +kernel)
/-! A builder's growth -/
theorem nI_subN {a b : Nat} (h : b ≤ a) : nI a - nI b = nI (a - b) := by
  have e : nI a = nI (a - b) + nI b := by rw [nI_addN, Nat.sub_add_cancel h]
  rw [e, Int32.add_sub_cancel]
theorem sh0 {v c : Int32} (h : c = 0) : v <<< (c &&& 31) = v := by rw [h, show (0 : Int32) &&& 31 = 0 from rfl]; simp
theorem shr0 {v c : Int32} (h : c = 0) : v >>> (c &&& 31) = v := by rw [h, show (0 : Int32) &&& 31 = 0 from rfl]; simp
theorem maxI_nI {a b : Nat} (ha : a < 2 ^ 31) (hb : b < 2 ^ 31) : maxI (nI a) (nI b) = nI (max a b) := by
  unfold maxI
  by_cases h : a < b
  · rw [if_pos ((nI_ltI ha hb).mpr h), Nat.max_eq_right (by omega)]
  · rw [if_neg (fun z => h ((nI_ltI ha hb).mp z)), Nat.max_eq_left (by omega)]
theorem minI_nI {a b : Nat} (ha : a < 2 ^ 31) (hb : b < 2 ^ 31) : minI (nI a) (nI b) = nI (min a b) := by
  unfold minI
  by_cases h : b < a
  · rw [if_pos ((nI_ltI hb ha).mpr h), Nat.min_eq_right (by omega)]
  · rw [if_neg (fun z => h ((nI_ltI hb ha).mp z)), Nat.min_eq_left (by omega)]
theorem ne_big {n : Nat} (h : n < 2 ^ 30) : ¬ nI n = 2147483647 := by
  rw [show (2147483647 : Int32) = nI 2147483647 from rfl, nI_inj (by omega) (by decide)]; omega
theorem sb_toInt {a b : Nat} (ha : a < 2 ^ 30) (hb : b < 2 ^ 30) : (nI a - nI b).toInt = (a : Int) - b := by
  rw [Int32.toInt_sub, nI_toI (by omega), nI_toI (by omega)]
  exact Int.bmod_eq_of_le (by omega) (by omega)
theorem sub_le0 {a b : Nat} (ha : a < 2 ^ 30) (hb : b < 2 ^ 30) : nI a - nI b ≤ 0 ↔ a ≤ b := by
  rw [Int32.le_iff_toInt_le, sb_toInt ha hb, show (0 : Int32).toInt = 0 from rfl]
  omega
/-- a builder at q, its bytes at v, cap of them; the text is bs -/
def SB (lay : List Kd) (x : XS) (q v cap : Nat) (bs : List Int32) : Prop := lay[q]? = some (.inl (11, [v + 3, 0, 0, 0])) ∧ lay[v]? = some (.inr (2, cap)) ∧ x.1 q 1 = 0 ∧ x.1 q 3 = nI bs.length ∧ bs.length ≤ cap ∧ cap < 2 ^ 20 ∧ (∀ j, j < cap → fits .byte (.int (x.1 v j)) = true) ∧ ∀ j, j < bs.length → x.1 v j = bs.getD j 0
theorem SB.ne {lay : List Kd} {x : XS} {q v cap : Nat} {bs : List Int32} (h : SB lay x q v cap bs) : q ≠ v := by
  intro e
  have h1 := h.1
  rw [e, h.2.1] at h1
  cases h1
/-- no other cell names v -/
def Own (lay : List Kd) (q v : Nat) : Prop := ∀ (i : Nat) (o : Nat × List Nat), lay[i]? = some (.inl o) → i ≠ q → v + 3 ∉ o.2
def grA (n v : Nat) (b : Nat → Nat) : Nat → Nat := fun j => if j = v then b n else b j
def grX (n v : Nat) (y : XS) : XS := (fun i j => if i = v then y.1 n j else y.1 i j, fun i j => if i = v then y.2 n j else y.2 i j)
theorem fits0 : fits .byte (.int 0) = true := rfl
theorem xgrow {k : Kx} {pc cells slots : Nat} {lay : List Kd} {L : List (Nat × Value)} {stk : List Value} {q v cap n : Nat} {b : Nat → Nat} {y : XS} (hO : Own lay q v) (hq : lay[q]? = some (.inl (11, [v + 3, 0, 0, 0]))) (hv : lay[v]? = some (.inr (2, cap))) (kk : Wx k cells slots (lay.set v (.inr (2, n))) (grA lay.length v b) (grX lay.length v y) pc L stk) : Wx k cells slots ((lay ++ [(.inr (2, n) : Kd)]).set q (.inl (11, [lay.length + 3, 0, 0, 0]))) b y pc L stk := by
  have hqv : q ≠ v := fun e => by rw [e, hv] at hq; cases hq
  have hql := at_lt hq
  have hvl := at_lt hv
  refine xre (fun j => if j = v then lay.length else j) (fun T i kd hi => ?_) (fun i j hi hj h => ?_) kk
  · by_cases h1 : i = v
    · subst h1
      rw [List.getElem?_set_self hvl] at hi
      cases hi
      refine ⟨by simp [grA], .inr (2, n), ?_, ?_⟩
      · simp only [if_pos]
        rw [List.getElem?_set_ne (by omega)]; exact app_n
      · simp [cellOf, grX]
    · rw [List.getElem?_set_ne (fun e => h1 e.symm)] at hi
      have hil := at_lt hi
      refine ⟨by simp [grA, h1], ?_⟩
      simp only [if_neg h1]
      by_cases h2 : i = q
      · subst h2
        rw [hq] at hi
        cases hi
        refine ⟨.inl (11, [lay.length + 3, 0, 0, 0]), by rw [List.getElem?_set_self (by rw [List.length_append]; omega)], ?_⟩
        have e1 : flist (grA lay.length v b) (grX lay.length v y) i [v + 3, 0, 0, 0] = flist b y i [lay.length + 3, 0, 0, 0] := by
          simp [flist, List.range_succ, fval, grA, grX, h1]
        show cellOf T _ _ _ (.inl (11, _)) = cellOf T _ _ _ (.inl (11, _))
        rw [cell_o (by decide), cell_o (by decide), e1]
      · refine ⟨kd, by rw [List.getElem?_set_ne (fun e => h2 e.symm)]; exact app_o hi, ?_⟩
        rw [cell_a (a := b) (a' := grA lay.length v b) (fun o t ho ht h3 => by
          subst ho
          have hn := hO i o hi h2
          have : t - 3 ≠ v := fun e => hn (by rw [← e, Nat.sub_add_cancel h3]; exact ht)
          simp [grA, this])]
        exact cell_other (fun j => by simp [grX, h1]) (fun j => by simp [grX, h1]) kd
  · rw [List.length_set] at hi hj
    by_cases h1 : i = v <;> by_cases h2 : j = v
    · omega
    · simp [h1, h2] at h; omega
    · simp [h1, h2] at h; omega
    · simpa [h1, h2] using h
theorem setF_F (x : XS) (v : Nat) (f h : Nat → Int32) : setF (setF x v f) v h = setF x v h := by
  unfold setF
  refine Prod.ext ?_ rfl
  funext i j
  by_cases h1 : i = v <;> simp [h1]
theorem setF_at (x : XS) (v j : Nat) (f : Nat → Int32) : (setF x v f).1 v j = f j := by simp [setF]
set_option maxHeartbeats 4000000 in
set_option maxRecDepth 100000 in
theorem c_J5_isLatin1_aae02 {g : Gx} {a : Nat → Nat} {x : XS} {lay : List Kd} {q v cap : Nat} {bs : List Int32} (hB : SB lay x q v cap bs) : Mx g yJ5_isLatin1_aae02 cJ5_isLatin1_aae02 1 (some .boolean) 1 0 0 lay a x [.ref (a q)] (pr (some (.int 1)) x) := by
  refine Mx_of (by decide +kernel) (Nat.le_of_ble_eq_true rfl) ?_
  intro k hk he hg
  subst hg
  refine xcompact hk dJ5_isLatin1_aae02_0 kJ5_18 ?_
  refine xif_eq hk 17 dJ5_isLatin1_aae02_3 (by decide) (fun h3 => ?_) (fun h3 => ?_)
  · exact absurd h3 (by decide)
  · refine xaload_n hk dJ5_isLatin1_aae02_6 rfl ?_
    refine xgetI (ci := 11) (f := 1) hk dJ5_isLatin1_aae02_7 ⟨rfl, by decide, _, hB.1, rfl⟩ kJ5_22 ?_
    refine xif_ne hk 17 dJ5_isLatin1_aae02_10 (by decide) (fun h10 => ?_) (fun h10 => ?_)
    · exact absurd hB.2.2.1 h10
    · refine xiconst (v := 1) hk dJ5_isLatin1_aae02_13 (by decide) ?_
      refine xgoto hk 18 dJ5_isLatin1_aae02_14 (by decide) ?_
      refine xzret hk he dJ5_isLatin1_aae02_18 ⟨by decide, by decide⟩ (by first | with_reducible exact nar_b _ | rfl) ?_
      exact ⟨rfl, rfl⟩
set_option maxHeartbeats 4000000 in
set_option maxRecDepth 100000 in
theorem c_J8_newLength_cabcc {g : Gx} {a : Nat → Nat} {x : XS} {lay : List Kd} {u w z : Nat} (h0 : 0 < u + max w z) (h1 : u + max w z < 2 ^ 30) : Mx g yJ8_newLength_cabcc cJ8_newLength_cabcc 4 (some .int) 2 0 0 lay a x [.int (nI u), .int (nI w), .int (nI z)] (pr (some (.int (nI (u + max w z)))) x) := by
  refine Mx_of (by decide +kernel) (Nat.le_of_ble_eq_true rfl) ?_
  intro k hk he hg
  subst hg
  refine xiload_n hk dJ8_newLength_cabcc_0 rfl ?_
  refine xiload_n hk dJ8_newLength_cabcc_1 rfl ?_
  refine xiload_n hk dJ8_newLength_cabcc_2 rfl ?_
  refine xmmax hk dJ8_newLength_cabcc_3 kJ8_194 mw_max (by decide) ⟨by decide, by decide⟩ (Nat.le_of_ble_eq_true rfl) ?_
  rw [maxI_nI (by omega) (by omega)]
  refine xiadd hk dJ8_newLength_cabcc_6 ?_
  rw [nI_addN]
  refine xistore_n hk dJ8_newLength_cabcc_7 (by decide) ?_
  refine xiconst (v := 0) hk dJ8_newLength_cabcc_8 (by decide) ?_
  refine xiload_n hk dJ8_newLength_cabcc_9 rfl ?_
  refine xicmp_ge hk 21 dJ8_newLength_cabcc_10 (by decide) (fun h10 => ?_) (fun h10 => ?_)
  · exact absurd ((nI_leq (b := 0) (by omega) (by decide)).mp h10) (by omega)
  · refine xiload_n hk dJ8_newLength_cabcc_13 rfl ?_
    refine xldc hk (2147483639) dJ8_newLength_cabcc_14 kJ8_200 ?_
    refine xicmp_gt hk 21 dJ8_newLength_cabcc_16 (by decide) (fun h16 => ?_) (fun h16 => ?_)
    · exact absurd ((nI_ltI (a := 2147483639) (by decide) (by omega)).mp h16) (by omega)
    · refine xiload_n hk dJ8_newLength_cabcc_19 rfl ?_
      refine xiret hk he dJ8_newLength_cabcc_20 ⟨by decide, by decide⟩ ?_
      exact ⟨rfl, rfl⟩
set_option maxHeartbeats 4000000 in
set_option maxRecDepth 100000 in
theorem c_J5_newCapacity_0f7a4 {g : Gx} {a : Nat → Nat} {x : XS} {lay : List Kd} {q v cap : Nat} {bs : List Int32} {w : Nat} (hB : SB lay x q v cap bs) (h1 : cap < w) (h2 : w < 2 ^ 20) : Mx g yJ5_newCapacity_0f7a4 cJ5_newCapacity_0f7a4 6 (some .int) 3 0 0 lay a x [.ref (a q), .int (nI w)] (pr (some (.int (nI (cap + max (w - cap) (cap + 2))))) x) := by
  refine Mx_of (by decide +kernel) (Nat.le_of_ble_eq_true rfl) ?_
  intro k hk he hg
  subst hg
  refine xaload_n hk dJ5_newCapacity_0f7a4_0 rfl ?_
  refine xgetR (ci := 11) (f := 0) hk dJ5_newCapacity_0f7a4_1 ⟨rfl, by decide, _, hB.1, rfl⟩ kJ5_15 ?_
  refine xalen (v := nI cap) hk dJ5_newCapacity_0f7a4_4 hB.2.1 (by decide) rfl ?_
  refine xistore_n hk dJ5_newCapacity_0f7a4_5 (by decide) ?_
  refine xiload_n hk dJ5_newCapacity_0f7a4_6 rfl ?_
  refine xaload_n hk dJ5_newCapacity_0f7a4_7 rfl ?_
  refine xgetI (ci := 11) (f := 1) hk dJ5_newCapacity_0f7a4_8 ⟨rfl, by decide, _, hB.1, rfl⟩ kJ5_22 ?_
  refine xishl hk dJ5_newCapacity_0f7a4_11 ?_
  rw [sh0 hB.2.2.1]
  refine xistore_n hk dJ5_newCapacity_0f7a4_12 (by decide) ?_
  refine xiload_n hk dJ5_newCapacity_0f7a4_13 rfl ?_
  refine xiload_n hk dJ5_newCapacity_0f7a4_14 rfl ?_
  refine xisub hk dJ5_newCapacity_0f7a4_15 ?_
  rw [nI_subN (by omega)]
  refine xistore hk dJ5_newCapacity_0f7a4_16 (by decide) ?_
  refine xiload_n hk dJ5_newCapacity_0f7a4_18 rfl ?_
  refine xiload hk dJ5_newCapacity_0f7a4_19 rfl ?_
  refine xiload_n hk dJ5_newCapacity_0f7a4_21 rfl ?_
  refine xiconst (v := 2) hk dJ5_newCapacity_0f7a4_22 (by decide) ?_
  refine xaload_n hk dJ5_newCapacity_0f7a4_23 rfl ?_
  refine xgetI (ci := 11) (f := 1) hk dJ5_newCapacity_0f7a4_24 ⟨rfl, by decide, _, hB.1, rfl⟩ kJ5_22 ?_
  refine xishl hk dJ5_newCapacity_0f7a4_27 ?_
  rw [sh0 hB.2.2.1]
  refine xiadd hk dJ5_newCapacity_0f7a4_28 ?_
  rw [show (2 : Int32) = nI 2 from rfl, nI_addN]
  refine xcallS hk (c_J8_newLength_cabcc (by omega) (by omega)) bJ8_newLength_cabcc kJ5_114 dJ5_newCapacity_0f7a4_29 rfl rfl (by decide) ⟨by decide, by decide⟩ (Nat.le_of_ble_eq_true rfl) (det ?_)
  refine xistore hk dJ5_newCapacity_0f7a4_32 (by decide) ?_
  refine xiload hk dJ5_newCapacity_0f7a4_34 rfl ?_
  refine xldc hk (2147483647) dJ5_newCapacity_0f7a4_36 kJ5_39 ?_
  refine xicmp_ne hk 51 dJ5_newCapacity_0f7a4_38 (by decide) (fun h38 => ?_) (fun h38 => ?_)
  · refine xiload hk dJ5_newCapacity_0f7a4_51 rfl ?_
    refine xaload_n hk dJ5_newCapacity_0f7a4_53 rfl ?_
    refine xgetI (ci := 11) (f := 1) hk dJ5_newCapacity_0f7a4_54 ⟨rfl, by decide, _, hB.1, rfl⟩ kJ5_22 ?_
    refine xishr hk dJ5_newCapacity_0f7a4_57 ?_
    rw [shr0 hB.2.2.1]
    refine xiret hk he dJ5_newCapacity_0f7a4_58 ⟨by decide, by decide⟩ ?_
    exact ⟨rfl, rfl⟩
  · exact absurd h38 (ne_big (by omega))
/-- a longer copy of the bytes at v -/
def CpE (lay : List Kd) (a : Nat → Nat) (x : XS) (v cap n : Nat) : Option Value → List Kd → (Nat → Nat) → XS → Prop := fun w lay' a' x' =>
  w = some (.ref (a' lay.length)) ∧ lay' = lay ++ [.inr (2, n)] ∧ Keep lay a a' x x' (fun _ => False) ∧ ∀ j, x'.1 lay.length j = if j < cap then x.1 v j else 0
set_option maxHeartbeats 4000000 in
set_option maxRecDepth 100000 in
theorem c_J7_copyOf_9075b {g : Gx} {a : Nat → Nat} {x : XS} {lay : List Kd} {v cap n : Nat} (hC : Cl lay) (hv : lay[v]? = some (.inr (2, cap))) (hf : ∀ j, j < cap → fits .byte (.int (x.1 v j)) = true) (h1 : cap < n) (h2 : n < 2 ^ 20) : Mz g yJ7_copyOf_9075b cJ7_copyOf_9075b 3 (some (.array .byte)) 2 1 n lay a x [.ref (a v), .int (nI n)] (CpE lay a x v cap n) := by
  refine Mz_of (by decide +kernel) (Nat.le_of_ble_eq_true rfl) ?_
  intro k hk he hg
  subst hg
  have hvl := at_lt hv
  have hvn : v ≠ lay.length := Nat.ne_of_lt hvl
  refine xiload_n hk dJ7_copyOf_9075b_0 rfl ?_
  refine xaload_n hk dJ7_copyOf_9075b_1 rfl ?_
  refine xalen (v := nI cap) hk dJ7_copyOf_9075b_2 hv (by decide) rfl ?_
  refine xicmp_ne hk 14 dJ7_copyOf_9075b_3 (by decide) (fun h3 => ?_) (fun h3 => ?_)
  · refine xiload_n hk dJ7_copyOf_9075b_14 rfl ?_
    refine xnewB (N := n) hk dJ7_copyOf_9075b_15 (nI_pos (by omega)) (nI_clamp (by omega)) (by show n * 1 ≤ _; omega) (by omega) (by omega) (okR_new hC) (fun a1 ha1 => ?_)
    rw [← ha1 v hvn]
    refine xastore_n hk dJ7_copyOf_9075b_17 (by decide) ?_
    refine xaload_n hk dJ7_copyOf_9075b_18 rfl ?_
    refine xiconst (v := 0) hk dJ7_copyOf_9075b_19 (by decide) ?_
    refine xaload_n hk dJ7_copyOf_9075b_20 rfl ?_
    refine xiconst (v := 0) hk dJ7_copyOf_9075b_21 (by decide) ?_
    refine xaload_n hk dJ7_copyOf_9075b_22 rfl ?_
    refine xalen (v := nI cap) hk dJ7_copyOf_9075b_23 (app_o hv) (by decide) rfl ?_
    refine xiload_n hk dJ7_copyOf_9075b_24 rfl ?_
    refine xmmin hk dJ7_copyOf_9075b_25 kJ7_304 mw_min (by decide) ⟨by omega, by omega⟩ (Nat.le_of_ble_eq_true rfl) ?_
    rw [minI_nI (by omega) (by omega), Nat.min_eq_left (by omega)]
    refine xcopyB hk dJ7_copyOf_9075b_28 w_ac150 (app_o hv) app_n (by decide) (by decide) (nI_pos (by omega)) ?_ ?_ ?_ (by decide) (by decide) ?_
    · rw [nI_clamp (by omega)]; show 0 + cap ≤ cap; omega
    · rw [nI_clamp (by omega)]; show 0 + cap ≤ n; omega
    · intro i hi
      rw [nI_clamp (by omega)] at hi
      show fits .byte (.int ((clr x lay.length).1 v (0 + i))) = true
      rw [Nat.zero_add, (clr_o (x := x) v hvl i).1]
      exact hf i hi
    refine xaload_n hk dJ7_copyOf_9075b_31 rfl ?_
    refine xaretZ hk he dJ7_copyOf_9075b_32 (Or.inr ⟨_, rfl⟩) ⟨by omega, by omega⟩ ?_
    refine ⟨rfl, rfl, ⟨fun j hj => ha1 j (Nat.ne_of_lt hj), fun i hi _ j => ?_⟩, fun j => ?_⟩
    · have hi2 : i ≠ lay.length := Nat.ne_of_lt hi
      simp [setF, hi2, clr]
    · rw [nI_clamp (by omega)]
      rw [setF_at]
      simp only [va_cpy]
      by_cases hj : j < cap
      · rw [if_pos ⟨Nat.zero_le _, by show j < 0 + cap; omega⟩, if_pos hj, (clr_o (x := x) v hvl _).1]
        show x.1 v (0 + (j - 0)) = _
        rw [Nat.zero_add, Nat.sub_zero]
      · rw [if_neg (fun z => hj (by have := z.2; rw [show (0 : Int32).toNatClampNeg = 0 from rfl] at this; omega)), if_neg hj]
        simp [clr]
  · exact absurd ((nI_inj (by omega) (by omega)).mp h3) (by omega)
theorem SB.cl {lay : List Kd} {x : XS} {q v cap : Nat} {bs : List Int32} (h : SB lay x q v cap bs) : q < lay.length ∧ v < lay.length := ⟨at_lt h.1, at_lt h.2.1⟩
/-- all cells but v and what q counts are as they were; v may lie elsewhere -/
def KeepV (lay : List Kd) (v : Nat) (a a' : Nat → Nat) (x x' : XS) : Prop := (∀ j, j < lay.length → j ≠ v → a' j = a j) ∧ ∀ i, i < lay.length → i ≠ v → ∀ j, x'.1 i j = x.1 i j ∧ x'.2 i j = x.2 i j
def EnE (lay : List Kd) (a : Nat → Nat) (x : XS) (q v w : Nat) (bs : List Int32) : Option Value → List Kd → (Nat → Nat) → XS → Prop := fun r lay' a' x' =>
  r = none ∧ ∃ cap', lay' = lay.set v (.inr (2, cap')) ∧ KeepV lay v a a' x x' ∧ w ≤ cap' ∧ SB lay' x' q v cap' bs
theorem set_same {lay : List Kd} {v : Nat} {kd : Kd} (h : lay[v]? = some kd) : lay.set v kd = lay := by
  obtain ⟨hl, e⟩ := List.getElem?_eq_some_iff.mp h
  rw [← e]; exact List.set_getElem_self hl
theorem SB.grow {lay : List Kd} {a a1 : Nat → Nat} {x x1 : XS} {q v cap n : Nat} {bs : List Int32} (h : SB lay x q v cap bs) (hK : Keep lay a a1 x x1 (fun _ => False)) (hc : ∀ j, x1.1 lay.length j = if j < cap then x.1 v j else 0) (h1 : cap ≤ n) (h2 : n < 2 ^ 20) : SB (lay.set v (.inr (2, n))) (grX lay.length v x1) q v n bs := by
  have hqv := h.ne
  have hql := at_lt h.1
  have hvl := at_lt h.2.1
  refine ⟨by rw [List.getElem?_set_ne hqv.symm]; exact h.1, List.getElem?_set_self hvl, ?_, ?_, Nat.le_trans h.2.2.2.2.1 h1, h2, fun j _ => ?_, fun j hj => ?_⟩
  · simp only [grX, if_neg hqv]; rw [(hK.2 q hql id 1).1]; exact h.2.2.1
  · simp only [grX, if_neg hqv]; rw [(hK.2 q hql id 3).1]; exact h.2.2.2.1
  · simp only [grX, if_pos]; rw [hc]
    by_cases hj : j < cap
    · rw [if_pos hj]; exact h.2.2.2.2.2.2.1 j hj
    · rw [if_neg hj]; exact fits0
  · simp only [grX, if_pos]; rw [hc, if_pos (Nat.lt_of_lt_of_le hj h.2.2.2.2.1)]; exact h.2.2.2.2.2.2.2 j hj
set_option maxHeartbeats 4000000 in
set_option maxRecDepth 100000 in
theorem c_J5_ensureCapacityInternal_d00df {g : Gx} {a : Nat → Nat} {x : XS} {lay : List Kd} {q v cap : Nat} {bs : List Int32} {w T : Nat} (hC : Cl lay) (hO : Own lay q v) (hB : SB lay x q v cap bs) (h1 : w ≤ T) (h2 : T < 2 ^ 18) : Mz g yJ5_ensureCapacityInternal_d00df cJ5_ensureCapacityInternal_d00df 3 none 5 1 (2 * T) lay a x [.ref (a q), .int (nI w)] (EnE lay a x q v w bs) := by
  refine Mz_of (by decide +kernel) (Nat.le_of_ble_eq_true rfl) ?_
  intro k hk he hg
  subst hg
  have hqv := hB.ne
  have hql := at_lt hB.1
  have hvl := at_lt hB.2.1
  have hcap := hB.2.2.2.2.2.1
  refine xaload_n hk dJ5_ensureCapacityInternal_d00df_0 rfl ?_
  refine xgetR (ci := 11) (f := 0) hk dJ5_ensureCapacityInternal_d00df_1 ⟨rfl, by decide, _, hB.1, rfl⟩ kJ5_15 ?_
  refine xalen (v := nI cap) hk dJ5_ensureCapacityInternal_d00df_4 hB.2.1 (by decide) rfl ?_
  refine xaload_n hk dJ5_ensureCapacityInternal_d00df_5 rfl ?_
  refine xgetI (ci := 11) (f := 1) hk dJ5_ensureCapacityInternal_d00df_6 ⟨rfl, by decide, _, hB.1, rfl⟩ kJ5_22 ?_
  refine xishr hk dJ5_ensureCapacityInternal_d00df_9 ?_
  rw [shr0 hB.2.2.1]
  refine xistore_n hk dJ5_ensureCapacityInternal_d00df_10 (by decide) ?_
  refine xiload_n hk dJ5_ensureCapacityInternal_d00df_11 rfl ?_
  refine xiload_n hk dJ5_ensureCapacityInternal_d00df_12 rfl ?_
  refine xisub hk dJ5_ensureCapacityInternal_d00df_13 ?_
  refine xif_le hk 38 dJ5_ensureCapacityInternal_d00df_14 (by decide) (fun h14 => ?_) (fun h14 => ?_)
  · have hwc : w ≤ cap := (sub_le0 (by omega) (by omega)).mp h14
    refine xvretZ hk he dJ5_ensureCapacityInternal_d00df_38 ⟨by omega, by omega⟩ ?_
    exact ⟨rfl, cap, (set_same hB.2.1).symm, ⟨fun _ _ _ => rfl, fun _ _ _ _ => ⟨rfl, rfl⟩⟩, hwc, hB⟩
  · refine xaload_n hk dJ5_ensureCapacityInternal_d00df_17 rfl ?_
    refine xaload_n hk dJ5_ensureCapacityInternal_d00df_18 rfl ?_
    refine xgetR (ci := 11) (f := 0) hk dJ5_ensureCapacityInternal_d00df_19 ⟨rfl, by decide, _, hB.1, rfl⟩ kJ5_15 ?_
    refine xaload_n hk dJ5_ensureCapacityInternal_d00df_22 rfl ?_
    refine xiload_n hk dJ5_ensureCapacityInternal_d00df_23 rfl ?_
    obtain ⟨n, hn⟩ : ∃ n, n = cap + max (w - cap) (cap + 2) := ⟨_, rfl⟩
    have hcw : cap < w := Nat.not_le.mp (fun z => h14 ((sub_le0 (by omega) (by omega)).mpr z))
    refine xcallR hk (c_J5_newCapacity_0f7a4 hB hcw (by omega)) bJ5_newCapacity_0f7a4 kJ5_104 dJ5_ensureCapacityInternal_d00df_24 rfl hB.1 rfl rfl (by decide) ⟨by omega, by omega⟩ (Nat.le_of_ble_eq_true rfl) (det ?_)
    rw [← hn]
    refine xaload_n hk dJ5_ensureCapacityInternal_d00df_27 rfl ?_
    refine xgetI (ci := 11) (f := 1) hk dJ5_ensureCapacityInternal_d00df_28 ⟨rfl, by decide, _, hB.1, rfl⟩ kJ5_22 ?_
    refine xishl hk dJ5_ensureCapacityInternal_d00df_31 ?_
    rw [sh0 hB.2.2.1]
    refine xcallSZ hk (c_J7_copyOf_9075b hC hB.2.1 hB.2.2.2.2.2.2.1 (n := n) (by omega) (by omega)) bJ7_copyOf_9075b kJ5_108 dJ5_ensureCapacityInternal_d00df_32 rfl rfl (by decide) ⟨by omega, by omega⟩ (Nat.le_of_ble_eq_true rfl) ?_
    rintro _ _ a1 x1 ⟨rfl, rfl, hK, hc⟩
    rw [← hK.1 q hql]
    refine xputK (ci := 11) (f := 0) (j := lay.length) hk dJ5_ensureCapacityInternal_d00df_35 rfl (by decide) (app_o hB.1) (by show 0 < 4; decide) kJ5_15 rfl (tyJ4_ok 0 (by decide)) (fun _ => ⟨rfl, rfl⟩) ?_
    refine xlay (lay' := (lay ++ [(.inr (2, n) : Kd)]).set q (.inl (11, [lay.length + 3, 0, 0, 0]))) rfl ?_
    refine xgrow hO hB.1 hB.2.1 ?_
    refine xvretZ hk he dJ5_ensureCapacityInternal_d00df_38 ⟨by omega, by omega⟩ ?_
    refine ⟨rfl, n, rfl, ⟨fun j hj hjv => ?_, fun i hi hiv j => ?_⟩, by omega, hB.grow hK hc (by omega) (by omega)⟩
    · simp only [grA, if_neg hjv]; exact hK.1 j hj
    · simp only [grX, if_neg hiv]; exact hK.2 i hi id j
