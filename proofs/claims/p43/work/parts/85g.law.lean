theorem bL_claim : CBs yL_claim cL_claim 1 (some (.object "java/lang/String")) 1 := ⟨⟨gw_mem 1382 (by decide +kernel) (by decide +kernel), gw_mem 0 (by decide +kernel) (by decide +kernel), by decide +kernel, by decide⟩, gw_mem 1381 (by decide +kernel) (by decide +kernel)⟩
theorem kL_60 : Cond.methodLink RL 60 yL_claim ∈ GW := gw_mem 1380 (by decide +kernel) (by decide +kernel)
theorem bL_told : CBs yL_told cL_told 3 (some (.object "java/lang/String")) 2 := ⟨⟨gw_mem 1297 (by decide +kernel) (by decide +kernel), gw_mem 0 (by decide +kernel) (by decide +kernel), by decide +kernel, by decide⟩, gw_mem 1296 (by decide +kernel) (by decide +kernel)⟩
/-! The law's texts: claims, statements, tests -/
theorem txl_0 : (txB 0).length = 1 := by decide +kernel
theorem txl_1 : (txB 1).length = 6 := by decide +kernel
theorem txl_2 : (txB 2).length = 6 := by decide +kernel
theorem txl_3 : (txB 3).length = 2 := by decide +kernel
theorem txl_4 : (txB 4).length = 1 := by decide +kernel
theorem txl_5 : (txB 5).length = 7 := by decide +kernel
theorem txl_6 : (txB 6).length = 3 := by decide +kernel
theorem txl_7 : (txB 7).length = 6 := by decide +kernel
theorem txl_8 : (txB 8).length = 4 := by decide +kernel
theorem txl_9 : (txB 9).length = 7 := by decide +kernel
theorem txl_10 : (txB 10).length = 4 := by decide +kernel
theorem txl_11 : (txB 11).length = 4 := by decide +kernel
theorem txl_12 : (txB 12).length = 6 := by decide +kernel
theorem txl_13 : (txB 13).length = 4 := by decide +kernel
theorem txl_14 : (txB 14).length = 0 := by decide +kernel
theorem txl_15 : (txB 15).length = 18 := by decide +kernel
theorem txl_16 : (txB 16).length = 15 := by decide +kernel
theorem txl_17 : (txB 17).length = 18 := by decide +kernel
theorem txl_18 : (txB 18).length = 13 := by decide +kernel
theorem txl_19 : (txB 19).length = 14 := by decide +kernel
theorem txl_20 : (txB 20).length = 6 := by decide +kernel
theorem txl_21 : (txB 21).length = 11 := by decide +kernel
theorem txl_22 : (txB 22).length = 17 := by decide +kernel
theorem txl_23 : (txB 23).length = 1 := by decide +kernel
theorem txl_24 : (txB 24).length = 8 := by decide +kernel
theorem txl_25 : (txB 25).length = 1 := by decide +kernel
theorem txl_26 : (txB 26).length = 2 := by decide +kernel
theorem txl_27 : (txB 27).length = 7 := by decide +kernel
theorem txl_28 : (txB 28).length = 7 := by decide +kernel
theorem numB_le (n : Nat) : (numB n).length ≤ 2 := by rw [numB_len]; split <;> omega
def claimB (c : Nat) : List Int32 := txB 0 ++ numB (c / 2) ++ (if c % 2 = 0 then txB 1 else txB 2)
theorem claimB_le (c : Nat) : (claimB c).length ≤ 9 := by
  have := numB_le (c / 2)
  unfold claimB
  split <;> simp only [List.length_append, txl_0, txl_1, txl_2] <;> omega
theorem claimB_asc {c : Nat} (h : c < 200) : Asc (claimB c) := by
  unfold claimB
  refine ((asc_tx (by decide)).app (numB_asc (by omega))).app ?_
  split
  · exact asc_tx (by decide)
  · exact asc_tx (by decide)
set_option maxHeartbeats 4000000 in
set_option maxRecDepth 100000 in
theorem c_L_claim {g : Gx} {a : Nat → Nat} {x : XS} {lay : List Kd} {c : Nat} (hC : Cl lay) (hc : c < 200) : Mz g yL_claim cL_claim 1 (some (.object "java/lang/String")) 8 7 136 lay a x [.int (nI c)] (TsE lay a x (claimB c)) := by
  refine Mz_of (by decide +kernel) (Nat.le_of_ble_eq_true rfl) ?_
  intro k hk he hg
  subst hg
  have hn := numB_le (c / 2)
  refine xnewSB hk dL_claim_0 dL_claim_3 dL_claim_4 hC (by decide) ⟨by omega, by omega⟩ (Nat.le_of_ble_eq_true rfl) (fun a2 x2 hB => ?_)
  
  
  refine xappL (i := 0) (T := 16) hk dL_claim_7 dL_claim_9 (by decide) ⟨rfl, rfl⟩ hC (okl_nil _) hB (by simp only [List.length_append, List.length_nil, txl_0, txl_1, txl_2, txl_3, txl_4, txl_5, txl_6, txl_7, txl_8, txl_9, txl_10, txl_11, txl_12, txl_13, txl_15, txl_16, txl_17, txl_18, txl_19, txl_20, txl_21, txl_22, txl_23]; omega) (by decide) (by decide) ⟨by omega, by omega⟩ (Nat.le_of_ble_eq_true rfl) (fun c2 a2 x2 hB => ?_)
  
  refine xiload_n hk dL_claim_12 rfl ?_
  refine xiconst (v := 2) hk dL_claim_13 (by decide) ?_
  refine xidiv hk dL_claim_14 (by decide) ?_
  rw [show (2 : Int32) = nI 2 from rfl, div_nI (by omega) (by decide) (by decide)]
  refine xappI (T := 16) hk dL_claim_15 hC (okl_nil _) hB (by omega) (by simp only [List.length_append, List.length_nil, txl_0, txl_1, txl_2, txl_3, txl_4, txl_5, txl_6, txl_7, txl_8, txl_9, txl_10, txl_11, txl_12, txl_13, txl_15, txl_16, txl_17, txl_18, txl_19, txl_20, txl_21, txl_22, txl_23]; omega) (by decide) (by decide) ⟨by omega, by omega⟩ (Nat.le_of_ble_eq_true rfl) (fun c2 a2 x2 hB => ?_)
  refine xiload_n hk dL_claim_18 rfl ?_
  refine xiconst (v := 2) hk dL_claim_19 (by decide) ?_
  refine xirem hk dL_claim_20 (by decide) ?_
  rw [show (2 : Int32) = nI 2 from rfl, rem_nI (by omega) (by decide) (by decide)]
  refine xif_ne hk 29 dL_claim_21 (by decide) (fun h21 => ?_) (fun h21 => ?_)
  · have h2 : ¬ c % 2 = 0 := fun z => h21 (by rw [z]; rfl)
    refine xldcT (i := 2) hk dL_claim_29 ⟨rfl, rfl⟩ (by decide) ?_
    refine xappS (T := 16) hk dL_claim_31 hC (okl_nil _) hB (Or.inl ⟨2, by decide, rfl, rfl⟩) (asc_tx (by decide)) (by simp only [List.length_append, List.length_nil, txl_0, txl_1, txl_2, txl_3, txl_4, txl_5, txl_6, txl_7, txl_8, txl_9, txl_10, txl_11, txl_12, txl_13, txl_15, txl_16, txl_17, txl_18, txl_19, txl_20, txl_21, txl_22, txl_23]; omega) (by decide) (by decide) ⟨by omega, by omega⟩ (Nat.le_of_ble_eq_true rfl) (fun c2 a2 x2 hB => ?_)
    refine xtoS (T := 16) hk dL_claim_34 hC hB (by simp only [List.length_append, List.length_nil, txl_0, txl_1, txl_2, txl_3, txl_4, txl_5, txl_6, txl_7, txl_8, txl_9, txl_10, txl_11, txl_12, txl_13, txl_15, txl_16, txl_17, txl_18, txl_19, txl_20, txl_21, txl_22, txl_23]; omega) (by decide) ⟨by omega, by omega⟩ (Nat.le_of_ble_eq_true rfl) (fun a2 x2 hE => ?_)
    refine xaretZ hk he dL_claim_37 (Or.inl ⟨_, rfl⟩) ⟨by omega, by omega⟩ ?_
    rw [show claimB c = [] ++ txB 0 ++ numB (c / 2) ++ txB 2 by rw [claimB, if_neg h2, List.nil_append]]
    exact hE
  · have h2 : c % 2 = 0 := (nI_inj (by omega) (by decide)).mp (h21 : nI (c % 2) = nI 0)
    refine xldcT (i := 1) hk dL_claim_24 ⟨rfl, rfl⟩ (by decide) ?_
    refine xgoto hk 31 dL_claim_26 (by decide) ?_
    refine xappS (T := 16) hk dL_claim_31 hC (okl_nil _) hB (Or.inl ⟨1, by decide, rfl, rfl⟩) (asc_tx (by decide)) (by simp only [List.length_append, List.length_nil, txl_0, txl_1, txl_2, txl_3, txl_4, txl_5, txl_6, txl_7, txl_8, txl_9, txl_10, txl_11, txl_12, txl_13, txl_15, txl_16, txl_17, txl_18, txl_19, txl_20, txl_21, txl_22, txl_23]; omega) (by decide) (by decide) ⟨by omega, by omega⟩ (Nat.le_of_ble_eq_true rfl) (fun c2 a2 x2 hB => ?_)
    refine xtoS (T := 16) hk dL_claim_34 hC hB (by simp only [List.length_append, List.length_nil, txl_0, txl_1, txl_2, txl_3, txl_4, txl_5, txl_6, txl_7, txl_8, txl_9, txl_10, txl_11, txl_12, txl_13, txl_15, txl_16, txl_17, txl_18, txl_19, txl_20, txl_21, txl_22, txl_23]; omega) (by decide) ⟨by omega, by omega⟩ (Nat.le_of_ble_eq_true rfl) (fun a2 x2 hE => ?_)
    refine xaretZ hk he dL_claim_37 (Or.inl ⟨_, rfl⟩) ⟨by omega, by omega⟩ ?_
    rw [show claimB c = [] ++ txB 0 ++ numB (c / 2) ++ txB 1 by rw [claimB, if_pos h2, List.nil_append]]
    exact hE
def toldB (k c d n : Nat) : List Int32 :=
  let name := txB 3 ++ numB n ++ txB 4
  if k = 0 then txB 5 ++ name ++ txB 6 ++ claimB c ++ txB 7 ++ claimB d
  else if k = 1 then txB 8 ++ name ++ txB 9 ++ claimB c ++ txB 10 ++ claimB d
  else if k = 2 then txB 11 ++ name ++ claimB c ++ txB 12 ++ claimB d
  else txB 13 ++ name ++ claimB c
theorem cl_str {lay : List Kd} {n : Nat} (hC : Cl lay) : Cl ((lay ++ [(.inl (10, [lay.length + 4, 0, 0, 0]) : Kd)]) ++ [.inr (2, n)]) := by
  intro i o hi t ht h3
  rw [List.length_append, List.length_append, List.length_singleton, List.length_singleton]
  by_cases h1 : i < lay.length
  · rw [List.getElem?_append_left (by rw [List.length_append]; omega), List.getElem?_append_left h1] at hi
    have := hC i o hi t ht h3; omega
  · have hl := at_lt hi
    rw [List.length_append, List.length_append, List.length_singleton, List.length_singleton] at hl
    by_cases h2 : i = lay.length
    · subst h2
      rw [List.getElem?_append_left (by rw [List.length_append, List.length_singleton]; omega), app_n] at hi
      have e : o = (10, [lay.length + 4, 0, 0, 0]) := (Sum.inl.inj (Option.some.inj hi)).symm
      rw [e] at ht
      simp at ht
      omega
    · rw [List.getElem?_append_right (by rw [List.length_append, List.length_singleton]; omega), List.length_append, List.length_singleton, show i - (lay.length + 1) = 0 by omega] at hi
      cases hi
theorem nmR {s : Nat → Nat} {base l : List Kd} {a0 a : Nat → Nat} {x0 x : XS} {cap p w : Nat} {bs ts : List Int32} (hB : Bu base l a0 x0 a x cap bs) (hD : StrD base x0 p w ts) : StrR s (bdr base cap l) a x (a0 p) ts := by
  have hp := at_lt hD.1
  have hw := at_lt hD.2.1
  exact Or.inr ⟨p, w, ⟨bdr_at hD.1, bdr_at hD.2.1, by rw [(hB.1.2 p hp id 1).1]; exact hD.2.2.1, fun j hj => by rw [(hB.1.2 w hw id j).1]; exact hD.2.2.2 j hj⟩, (hB.1.1 p hp).symm⟩
set_option maxHeartbeats 4000000 in
set_option maxRecDepth 100000 in
theorem c_L_told {g : Gx} {a : Nat → Nat} {x : XS} {lay : List Kd} {k1 c d n qd w : Nat} (hC : Cl lay) (hq : lay[qd]? = some (.inr (0, w))) (hw : 3 ≤ w ∧ w < 100) (hx0 : x.1 qd 0 = nI k1) (hx1 : x.1 qd 1 = nI c) (hx2 : x.1 qd 2 = nI d) (hk1 : k1 < 4) (hc : c < 200) (hd : d < 200) (hn : n < 100) : Mz g yL_told cL_told 3 (some (.object "java/lang/String")) 9 35 2000 lay a x [.ref (a qd), .int (nI n)] (TsE lay a x (toldB k1 c d n)) := by
  refine Mz_of (by decide +kernel) (Nat.le_of_ble_eq_true rfl) ?_
  intro k hk he hg
  subst hg
  have hnb := numB_le n
  have hcb := claimB_le c
  have hdb := claimB_le d
  have hql := at_lt hq
  refine xnewSB hk dL_told_0 dL_told_3 dL_told_4 hC (by decide) ⟨by omega, by omega⟩ (Nat.le_of_ble_eq_true rfl) (fun a2 x2 hB => ?_)
  
  
  refine xappL (i := 3) (T := 16) hk dL_told_7 dL_told_9 (by decide) ⟨rfl, rfl⟩ hC (okl_nil _) hB (by simp only [List.length_append, List.length_nil, txl_0, txl_1, txl_2, txl_3, txl_4, txl_5, txl_6, txl_7, txl_8, txl_9, txl_10, txl_11, txl_12, txl_13, txl_15, txl_16, txl_17, txl_18, txl_19, txl_20, txl_21, txl_22, txl_23]; omega) (by decide) (by decide) ⟨by omega, by omega⟩ (Nat.le_of_ble_eq_true rfl) (fun c2 a2 x2 hB => ?_)
  
  refine xiload_n hk dL_told_12 rfl ?_
  refine xappI (T := 16) hk dL_told_13 hC (okl_nil _) hB (by omega) (by simp only [List.length_append, List.length_nil, txl_0, txl_1, txl_2, txl_3, txl_4, txl_5, txl_6, txl_7, txl_8, txl_9, txl_10, txl_11, txl_12, txl_13, txl_15, txl_16, txl_17, txl_18, txl_19, txl_20, txl_21, txl_22, txl_23]; omega) (by decide) (by decide) ⟨by omega, by omega⟩ (Nat.le_of_ble_eq_true rfl) (fun c2 a2 x2 hB => ?_)
  refine xappL (i := 4) (T := 16) hk dL_told_16 dL_told_18 (by decide) ⟨rfl, rfl⟩ hC (okl_nil _) hB (by simp only [List.length_append, List.length_nil, txl_0, txl_1, txl_2, txl_3, txl_4, txl_5, txl_6, txl_7, txl_8, txl_9, txl_10, txl_11, txl_12, txl_13, txl_15, txl_16, txl_17, txl_18, txl_19, txl_20, txl_21, txl_22, txl_23]; omega) (by decide) (by decide) ⟨by omega, by omega⟩ (Nat.le_of_ble_eq_true rfl) (fun c2 a2 x2 hB => ?_)
  
  refine xtoS (T := 16) hk dL_told_21 hC hB (by simp only [List.length_append, List.length_nil, txl_0, txl_1, txl_2, txl_3, txl_4, txl_5, txl_6, txl_7, txl_8, txl_9, txl_10, txl_11, txl_12, txl_13, txl_15, txl_16, txl_17, txl_18, txl_19, txl_20, txl_21, txl_22, txl_23]; omega) (by decide) ⟨by omega, by omega⟩ (Nat.le_of_ble_eq_true rfl) (fun a2 x2 hE => ?_)
  obtain ⟨-, -, hK1, hs0, hsb⟩ := hE
  obtain ⟨nm, hnm⟩ : ∃ nm, nm = [] ++ txB 3 ++ numB n ++ txB 4 := ⟨_, rfl⟩
  have hnl : nm.length ≤ 5 := by rw [hnm]; simp only [List.length_append, List.length_nil, txl_3, txl_4]; omega
  have hna : Asc nm := by rw [hnm, List.nil_append]; exact ((asc_tx (by decide)).app (numB_asc hn)).app (asc_tx (by decide))
  rw [← hnm] at hsb ⊢
  obtain ⟨base, hbase⟩ : ∃ base, base = lay ++ [.inl (10, [lay.length + 4, 0, 0, 0]), .inr (2, nm.length)] := ⟨_, rfl⟩
  rw [← hbase]
  have hCb : Cl base := by
    rw [hbase, show lay ++ [(.inl (10, [lay.length + 4, 0, 0, 0]) : Kd), .inr (2, nm.length)] = (lay ++ [.inl (10, [lay.length + 4, 0, 0, 0])]) ++ [.inr (2, nm.length)] by simp]
    exact cl_str hC
  have hbl : base.length = lay.length + 2 := by rw [hbase]; simp
  have hD : StrD base x2 lay.length (lay.length + 1) nm := by
    rw [hbase]
    exact ⟨by rw [List.getElem?_append_right (Nat.le_refl _), Nat.sub_self]; rfl, by rw [List.getElem?_append_right (by omega), Nat.add_sub_cancel_left]; rfl, hs0, hsb⟩
  have hq1 : base[qd]? = some (.inr (0, w)) := by rw [hbase]; exact app_o hq
  have hqb : qd < base.length := by omega
  have hy0 : x2.1 qd 0 = nI k1 := ((hK1.2 qd hql id 0).1).trans hx0
  have hy1 : x2.1 qd 1 = nI c := ((hK1.2 qd hql id 1).1).trans hx1
  have hy2 : x2.1 qd 2 = nI d := ((hK1.2 qd hql id 2).1).trans hx2
  rw [← hK1.1 qd hql]
  generalize a2 = a1 at *
  generalize x2 = x1 at *
  refine xastore_n hk dL_told_24 (by decide) ?_
  refine xaload_n hk dL_told_25 rfl ?_
  refine xiconst (v := 0) hk dL_told_26 (by decide) ?_
  refine xiald hk dL_told_27 hq1 (show vp_in (nI 0) w from vp_in_nI (by omega) (by omega)) ?_
  rw [show x1.1 qd (Int32.toNatClampNeg 0) = nI k1 from hy0]
  refine xif_ne hk 81 dL_told_28 (by decide) (fun h28 => ?_) (fun h28 => ?_)
  · have hk0 : ¬ k1 = 0 := fun z => h28 (by rw [z]; rfl)
    refine xaload_n hk dL_told_81 rfl ?_
    refine xiconst (v := 0) hk dL_told_82 (by decide) ?_
    refine xiald hk dL_told_83 hq1 (show vp_in (nI 0) w from vp_in_nI (by omega) (by omega)) ?_
    rw [show x1.1 qd (Int32.toNatClampNeg 0) = nI k1 from hy0]
    refine xiconst (v := 1) hk dL_told_84 (by decide) ?_
    refine xicmp_ne hk 138 dL_told_85 (by decide) (fun h85 => ?_) (fun h85 => ?_)
    · have hk2 : ¬ k1 = 1 := fun z => h85 (by rw [z]; rfl)
      refine xaload_n hk dL_told_138 rfl ?_
      refine xiconst (v := 0) hk dL_told_139 (by decide) ?_
      refine xiald hk dL_told_140 hq1 (show vp_in (nI 0) w from vp_in_nI (by omega) (by omega)) ?_
      rw [show x1.1 qd (Int32.toNatClampNeg 0) = nI k1 from hy0]
      refine xiconst (v := 2) hk dL_told_141 (by decide) ?_
      refine xicmp_ne hk 190 dL_told_142 (by decide) (fun h142 => ?_) (fun h142 => ?_)
      · have hk3 : ¬ k1 = 2 := fun z => h142 (by rw [z]; rfl)
        refine xnewSB hk dL_told_190 dL_told_193 dL_told_194 hCb (by decide) ⟨by omega, by omega⟩ (Nat.le_of_ble_eq_true rfl) (fun a2 x2 hB => ?_)
        
        
        refine xappL (i := 13) (T := 64) hk dL_told_197 dL_told_199 (by decide) ⟨rfl, rfl⟩ hCb (okl_nil _) hB (by simp only [List.length_append, List.length_nil, txl_0, txl_1, txl_2, txl_3, txl_4, txl_5, txl_6, txl_7, txl_8, txl_9, txl_10, txl_11, txl_12, txl_13, txl_15, txl_16, txl_17, txl_18, txl_19, txl_20, txl_21, txl_22, txl_23]; omega) (by decide) (by decide) ⟨by omega, by omega⟩ (Nat.le_of_ble_eq_true rfl) (fun c2 a2 x2 hB => ?_)
        
        refine xaload_n hk dL_told_202 rfl ?_
        refine xappS (T := 64) hk dL_told_203 hCb (okl_nil _) hB (nmR hB hD) hna (by simp only [List.length_append, List.length_nil, txl_0, txl_1, txl_2, txl_3, txl_4, txl_5, txl_6, txl_7, txl_8, txl_9, txl_10, txl_11, txl_12, txl_13, txl_15, txl_16, txl_17, txl_18, txl_19, txl_20, txl_21, txl_22, txl_23]; omega) (by decide) (by decide) ⟨by omega, by omega⟩ (Nat.le_of_ble_eq_true rfl) (fun c2 a2 x2 hB => ?_)
        refine xaload_n hk dL_told_206 rfl ?_
        refine xiconst (v := 1) hk dL_told_207 (by decide) ?_
        rw [← hB.1.1 qd hqb]
        refine xiald hk dL_told_208 (bdr_at hq1) (show vp_in (nI 1) w from vp_in_nI (by omega) (by omega)) ?_
        rw [hB.1.1 qd hqb, show x2.1 qd (Int32.toNatClampNeg 1) = nI c from ((hB.1.2 qd hqb id 1).1).trans hy1]
        refine xcallSZ hk (c_L_claim (c := c) (bdr_cl hCb (okl_nil _) _) (by omega)) bL_claim kL_60 dL_told_209 rfl rfl (by decide) ⟨by omega, by omega⟩ (Nat.le_of_ble_eq_true rfl) (fun v3 lay3 a3 x3 hE3 => ?_)
        refine xappF (T := 64) hk dL_told_212 hCb hB hE3 (claimB_asc (by omega)) (by simp only [List.length_append, List.length_nil, txl_0, txl_1, txl_2, txl_3, txl_4, txl_5, txl_6, txl_7, txl_8, txl_9, txl_10, txl_11, txl_12, txl_13, txl_15, txl_16, txl_17, txl_18, txl_19, txl_20, txl_21, txl_22, txl_23]; omega) (by decide) (by decide) ⟨by omega, by omega⟩ (Nat.le_of_ble_eq_true rfl) (fun c2 a2 x2 hB => ?_)
        refine xtoS (T := 64) hk dL_told_215 hCb hB (by simp only [List.length_append, List.length_nil, txl_0, txl_1, txl_2, txl_3, txl_4, txl_5, txl_6, txl_7, txl_8, txl_9, txl_10, txl_11, txl_12, txl_13, txl_15, txl_16, txl_17, txl_18, txl_19, txl_20, txl_21, txl_22, txl_23]; omega) (by decide) ⟨by omega, by omega⟩ (Nat.le_of_ble_eq_true rfl) (fun a2 x2 hE => ?_)
        obtain ⟨-, -, hK2, ht0, htb⟩ := hE
        refine xlay (lay' := lay ++ [.inl (10, [lay.length + 4, 0, 0, 0]), .inr (2, nm.length), .inl (10, [lay.length + 6, 0, 0, 0]), .inr (2, (toldB k1 c d n).length)]) (by rw [hbl, hbase, List.append_assoc, show toldB k1 c d n = _ from (if_neg hk0).trans ((if_neg hk2).trans (if_neg hk3)), hnm]; rfl) ?_
        refine xcut2 hC ?_
        show Wx _ _ _ _ _ _ _ _ [.ref (a2 base.length)]
        rw [hbl, show a2 (lay.length + 2) = cutA lay.length a2 lay.length by simp [cutA]]
        refine xaretZ hk he dL_told_218 (Or.inl ⟨_, rfl⟩) ⟨by omega, by omega⟩ ?_
        have hK3 : Keep lay a1 a2 x1 x2 (fun _ => False) := ⟨fun j hj => hK2.1 j (by omega), fun i hi _ j => hK2.2 i (by omega) id j⟩
        refine ⟨rfl, rfl, (hK1.tr0 hK3).tr0 (cut_keep lay a2 x2), ?_, fun j hj => ?_⟩
        · show (if lay.length < lay.length then _ else x2.1 (lay.length + 2) 1) = 0
          rw [if_neg (Nat.lt_irrefl _), ← hbl]; exact ht0
        · show (if lay.length + 1 < lay.length then _ else x2.1 (lay.length + 1 + 2) j) = _
          rw [if_neg (by omega), show lay.length + 1 + 2 = base.length + 1 by omega, show toldB k1 c d n = _ from (if_neg hk0).trans ((if_neg hk2).trans (if_neg hk3)), ← List.nil_append (txB _)]
          refine (htb j ?_).trans ?_
          · rw [show toldB k1 c d n = _ from (if_neg hk0).trans ((if_neg hk2).trans (if_neg hk3))] at hj
            rw [hnm]
            simpa using hj
          · rw [hnm]; simp
      · have hk3 : k1 = 2 := (nI_inj (by omega) (by decide)).mp (h142 : nI k1 = nI 2)
        refine xnewSB hk dL_told_145 dL_told_148 dL_told_149 hCb (by decide) ⟨by omega, by omega⟩ (Nat.le_of_ble_eq_true rfl) (fun a2 x2 hB => ?_)
        
        
        refine xappL (i := 11) (T := 64) hk dL_told_152 dL_told_154 (by decide) ⟨rfl, rfl⟩ hCb (okl_nil _) hB (by simp only [List.length_append, List.length_nil, txl_0, txl_1, txl_2, txl_3, txl_4, txl_5, txl_6, txl_7, txl_8, txl_9, txl_10, txl_11, txl_12, txl_13, txl_15, txl_16, txl_17, txl_18, txl_19, txl_20, txl_21, txl_22, txl_23]; omega) (by decide) (by decide) ⟨by omega, by omega⟩ (Nat.le_of_ble_eq_true rfl) (fun c2 a2 x2 hB => ?_)
        
        refine xaload_n hk dL_told_157 rfl ?_
        refine xappS (T := 64) hk dL_told_158 hCb (okl_nil _) hB (nmR hB hD) hna (by simp only [List.length_append, List.length_nil, txl_0, txl_1, txl_2, txl_3, txl_4, txl_5, txl_6, txl_7, txl_8, txl_9, txl_10, txl_11, txl_12, txl_13, txl_15, txl_16, txl_17, txl_18, txl_19, txl_20, txl_21, txl_22, txl_23]; omega) (by decide) (by decide) ⟨by omega, by omega⟩ (Nat.le_of_ble_eq_true rfl) (fun c2 a2 x2 hB => ?_)
        refine xaload_n hk dL_told_161 rfl ?_
        refine xiconst (v := 1) hk dL_told_162 (by decide) ?_
        rw [← hB.1.1 qd hqb]
        refine xiald hk dL_told_163 (bdr_at hq1) (show vp_in (nI 1) w from vp_in_nI (by omega) (by omega)) ?_
        rw [hB.1.1 qd hqb, show x2.1 qd (Int32.toNatClampNeg 1) = nI c from ((hB.1.2 qd hqb id 1).1).trans hy1]
        refine xcallSZ hk (c_L_claim (c := c) (bdr_cl hCb (okl_nil _) _) (by omega)) bL_claim kL_60 dL_told_164 rfl rfl (by decide) ⟨by omega, by omega⟩ (Nat.le_of_ble_eq_true rfl) (fun v3 lay3 a3 x3 hE3 => ?_)
        refine xappF (T := 64) hk dL_told_167 hCb hB hE3 (claimB_asc (by omega)) (by simp only [List.length_append, List.length_nil, txl_0, txl_1, txl_2, txl_3, txl_4, txl_5, txl_6, txl_7, txl_8, txl_9, txl_10, txl_11, txl_12, txl_13, txl_15, txl_16, txl_17, txl_18, txl_19, txl_20, txl_21, txl_22, txl_23]; omega) (by decide) (by decide) ⟨by omega, by omega⟩ (Nat.le_of_ble_eq_true rfl) (fun c2 a2 x2 hB => ?_)
        refine xappL (i := 12) (T := 64) hk dL_told_170 dL_told_172 (by decide) ⟨rfl, rfl⟩ hCb (okl_nil _) hB (by simp only [List.length_append, List.length_nil, txl_0, txl_1, txl_2, txl_3, txl_4, txl_5, txl_6, txl_7, txl_8, txl_9, txl_10, txl_11, txl_12, txl_13, txl_15, txl_16, txl_17, txl_18, txl_19, txl_20, txl_21, txl_22, txl_23]; omega) (by decide) (by decide) ⟨by omega, by omega⟩ (Nat.le_of_ble_eq_true rfl) (fun c2 a2 x2 hB => ?_)
        
        refine xaload_n hk dL_told_175 rfl ?_
        refine xiconst (v := 2) hk dL_told_176 (by decide) ?_
        rw [← hB.1.1 qd hqb]
        refine xiald hk dL_told_177 (bdr_at hq1) (show vp_in (nI 2) w from vp_in_nI (by omega) (by omega)) ?_
        rw [hB.1.1 qd hqb, show x2.1 qd (Int32.toNatClampNeg 2) = nI d from ((hB.1.2 qd hqb id 2).1).trans hy2]
        refine xcallSZ hk (c_L_claim (c := d) (bdr_cl hCb (okl_nil _) _) (by omega)) bL_claim kL_60 dL_told_178 rfl rfl (by decide) ⟨by omega, by omega⟩ (Nat.le_of_ble_eq_true rfl) (fun v3 lay3 a3 x3 hE3 => ?_)
        refine xappF (T := 64) hk dL_told_181 hCb hB hE3 (claimB_asc (by omega)) (by simp only [List.length_append, List.length_nil, txl_0, txl_1, txl_2, txl_3, txl_4, txl_5, txl_6, txl_7, txl_8, txl_9, txl_10, txl_11, txl_12, txl_13, txl_15, txl_16, txl_17, txl_18, txl_19, txl_20, txl_21, txl_22, txl_23]; omega) (by decide) (by decide) ⟨by omega, by omega⟩ (Nat.le_of_ble_eq_true rfl) (fun c2 a2 x2 hB => ?_)
        refine xtoS (T := 64) hk dL_told_184 hCb hB (by simp only [List.length_append, List.length_nil, txl_0, txl_1, txl_2, txl_3, txl_4, txl_5, txl_6, txl_7, txl_8, txl_9, txl_10, txl_11, txl_12, txl_13, txl_15, txl_16, txl_17, txl_18, txl_19, txl_20, txl_21, txl_22, txl_23]; omega) (by decide) ⟨by omega, by omega⟩ (Nat.le_of_ble_eq_true rfl) (fun a2 x2 hE => ?_)
        refine xgoto hk 218 dL_told_187 (by decide) ?_
        obtain ⟨-, -, hK2, ht0, htb⟩ := hE
        refine xlay (lay' := lay ++ [.inl (10, [lay.length + 4, 0, 0, 0]), .inr (2, nm.length), .inl (10, [lay.length + 6, 0, 0, 0]), .inr (2, (toldB k1 c d n).length)]) (by rw [hbl, hbase, List.append_assoc, show toldB k1 c d n = _ from (if_neg hk0).trans ((if_neg hk2).trans (if_pos hk3)), hnm]; rfl) ?_
        refine xcut2 hC ?_
        show Wx _ _ _ _ _ _ _ _ [.ref (a2 base.length)]
        rw [hbl, show a2 (lay.length + 2) = cutA lay.length a2 lay.length by simp [cutA]]
        refine xaretZ hk he dL_told_218 (Or.inl ⟨_, rfl⟩) ⟨by omega, by omega⟩ ?_
        have hK3 : Keep lay a1 a2 x1 x2 (fun _ => False) := ⟨fun j hj => hK2.1 j (by omega), fun i hi _ j => hK2.2 i (by omega) id j⟩
        refine ⟨rfl, rfl, (hK1.tr0 hK3).tr0 (cut_keep lay a2 x2), ?_, fun j hj => ?_⟩
        · show (if lay.length < lay.length then _ else x2.1 (lay.length + 2) 1) = 0
          rw [if_neg (Nat.lt_irrefl _), ← hbl]; exact ht0
        · show (if lay.length + 1 < lay.length then _ else x2.1 (lay.length + 1 + 2) j) = _
          rw [if_neg (by omega), show lay.length + 1 + 2 = base.length + 1 by omega, show toldB k1 c d n = _ from (if_neg hk0).trans ((if_neg hk2).trans (if_pos hk3)), ← List.nil_append (txB _)]
          refine (htb j ?_).trans ?_
          · rw [show toldB k1 c d n = _ from (if_neg hk0).trans ((if_neg hk2).trans (if_pos hk3))] at hj
            rw [hnm]
            simpa using hj
          · rw [hnm]; simp
    · have hk2 : k1 = 1 := (nI_inj (by omega) (by decide)).mp (h85 : nI k1 = nI 1)
      refine xnewSB hk dL_told_88 dL_told_91 dL_told_92 hCb (by decide) ⟨by omega, by omega⟩ (Nat.le_of_ble_eq_true rfl) (fun a2 x2 hB => ?_)
      
      
      refine xappL (i := 8) (T := 64) hk dL_told_95 dL_told_97 (by decide) ⟨rfl, rfl⟩ hCb (okl_nil _) hB (by simp only [List.length_append, List.length_nil, txl_0, txl_1, txl_2, txl_3, txl_4, txl_5, txl_6, txl_7, txl_8, txl_9, txl_10, txl_11, txl_12, txl_13, txl_15, txl_16, txl_17, txl_18, txl_19, txl_20, txl_21, txl_22, txl_23]; omega) (by decide) (by decide) ⟨by omega, by omega⟩ (Nat.le_of_ble_eq_true rfl) (fun c2 a2 x2 hB => ?_)
      
      refine xaload_n hk dL_told_100 rfl ?_
      refine xappS (T := 64) hk dL_told_101 hCb (okl_nil _) hB (nmR hB hD) hna (by simp only [List.length_append, List.length_nil, txl_0, txl_1, txl_2, txl_3, txl_4, txl_5, txl_6, txl_7, txl_8, txl_9, txl_10, txl_11, txl_12, txl_13, txl_15, txl_16, txl_17, txl_18, txl_19, txl_20, txl_21, txl_22, txl_23]; omega) (by decide) (by decide) ⟨by omega, by omega⟩ (Nat.le_of_ble_eq_true rfl) (fun c2 a2 x2 hB => ?_)
      refine xappL (i := 9) (T := 64) hk dL_told_104 dL_told_106 (by decide) ⟨rfl, rfl⟩ hCb (okl_nil _) hB (by simp only [List.length_append, List.length_nil, txl_0, txl_1, txl_2, txl_3, txl_4, txl_5, txl_6, txl_7, txl_8, txl_9, txl_10, txl_11, txl_12, txl_13, txl_15, txl_16, txl_17, txl_18, txl_19, txl_20, txl_21, txl_22, txl_23]; omega) (by decide) (by decide) ⟨by omega, by omega⟩ (Nat.le_of_ble_eq_true rfl) (fun c2 a2 x2 hB => ?_)
      
      refine xaload_n hk dL_told_109 rfl ?_
      refine xiconst (v := 1) hk dL_told_110 (by decide) ?_
      rw [← hB.1.1 qd hqb]
      refine xiald hk dL_told_111 (bdr_at hq1) (show vp_in (nI 1) w from vp_in_nI (by omega) (by omega)) ?_
      rw [hB.1.1 qd hqb, show x2.1 qd (Int32.toNatClampNeg 1) = nI c from ((hB.1.2 qd hqb id 1).1).trans hy1]
      refine xcallSZ hk (c_L_claim (c := c) (bdr_cl hCb (okl_nil _) _) (by omega)) bL_claim kL_60 dL_told_112 rfl rfl (by decide) ⟨by omega, by omega⟩ (Nat.le_of_ble_eq_true rfl) (fun v3 lay3 a3 x3 hE3 => ?_)
      refine xappF (T := 64) hk dL_told_115 hCb hB hE3 (claimB_asc (by omega)) (by simp only [List.length_append, List.length_nil, txl_0, txl_1, txl_2, txl_3, txl_4, txl_5, txl_6, txl_7, txl_8, txl_9, txl_10, txl_11, txl_12, txl_13, txl_15, txl_16, txl_17, txl_18, txl_19, txl_20, txl_21, txl_22, txl_23]; omega) (by decide) (by decide) ⟨by omega, by omega⟩ (Nat.le_of_ble_eq_true rfl) (fun c2 a2 x2 hB => ?_)
      refine xappL (i := 10) (T := 64) hk dL_told_118 dL_told_120 (by decide) ⟨rfl, rfl⟩ hCb (okl_nil _) hB (by simp only [List.length_append, List.length_nil, txl_0, txl_1, txl_2, txl_3, txl_4, txl_5, txl_6, txl_7, txl_8, txl_9, txl_10, txl_11, txl_12, txl_13, txl_15, txl_16, txl_17, txl_18, txl_19, txl_20, txl_21, txl_22, txl_23]; omega) (by decide) (by decide) ⟨by omega, by omega⟩ (Nat.le_of_ble_eq_true rfl) (fun c2 a2 x2 hB => ?_)
      
      refine xaload_n hk dL_told_123 rfl ?_
      refine xiconst (v := 2) hk dL_told_124 (by decide) ?_
      rw [← hB.1.1 qd hqb]
      refine xiald hk dL_told_125 (bdr_at hq1) (show vp_in (nI 2) w from vp_in_nI (by omega) (by omega)) ?_
      rw [hB.1.1 qd hqb, show x2.1 qd (Int32.toNatClampNeg 2) = nI d from ((hB.1.2 qd hqb id 2).1).trans hy2]
      refine xcallSZ hk (c_L_claim (c := d) (bdr_cl hCb (okl_nil _) _) (by omega)) bL_claim kL_60 dL_told_126 rfl rfl (by decide) ⟨by omega, by omega⟩ (Nat.le_of_ble_eq_true rfl) (fun v3 lay3 a3 x3 hE3 => ?_)
      refine xappF (T := 64) hk dL_told_129 hCb hB hE3 (claimB_asc (by omega)) (by simp only [List.length_append, List.length_nil, txl_0, txl_1, txl_2, txl_3, txl_4, txl_5, txl_6, txl_7, txl_8, txl_9, txl_10, txl_11, txl_12, txl_13, txl_15, txl_16, txl_17, txl_18, txl_19, txl_20, txl_21, txl_22, txl_23]; omega) (by decide) (by decide) ⟨by omega, by omega⟩ (Nat.le_of_ble_eq_true rfl) (fun c2 a2 x2 hB => ?_)
      refine xtoS (T := 64) hk dL_told_132 hCb hB (by simp only [List.length_append, List.length_nil, txl_0, txl_1, txl_2, txl_3, txl_4, txl_5, txl_6, txl_7, txl_8, txl_9, txl_10, txl_11, txl_12, txl_13, txl_15, txl_16, txl_17, txl_18, txl_19, txl_20, txl_21, txl_22, txl_23]; omega) (by decide) ⟨by omega, by omega⟩ (Nat.le_of_ble_eq_true rfl) (fun a2 x2 hE => ?_)
      refine xgoto hk 218 dL_told_135 (by decide) ?_
      obtain ⟨-, -, hK2, ht0, htb⟩ := hE
      refine xlay (lay' := lay ++ [.inl (10, [lay.length + 4, 0, 0, 0]), .inr (2, nm.length), .inl (10, [lay.length + 6, 0, 0, 0]), .inr (2, (toldB k1 c d n).length)]) (by rw [hbl, hbase, List.append_assoc, show toldB k1 c d n = _ from (if_neg hk0).trans (if_pos hk2), hnm]; rfl) ?_
      refine xcut2 hC ?_
      show Wx _ _ _ _ _ _ _ _ [.ref (a2 base.length)]
      rw [hbl, show a2 (lay.length + 2) = cutA lay.length a2 lay.length by simp [cutA]]
      refine xaretZ hk he dL_told_218 (Or.inl ⟨_, rfl⟩) ⟨by omega, by omega⟩ ?_
      have hK3 : Keep lay a1 a2 x1 x2 (fun _ => False) := ⟨fun j hj => hK2.1 j (by omega), fun i hi _ j => hK2.2 i (by omega) id j⟩
      refine ⟨rfl, rfl, (hK1.tr0 hK3).tr0 (cut_keep lay a2 x2), ?_, fun j hj => ?_⟩
      · show (if lay.length < lay.length then _ else x2.1 (lay.length + 2) 1) = 0
        rw [if_neg (Nat.lt_irrefl _), ← hbl]; exact ht0
      · show (if lay.length + 1 < lay.length then _ else x2.1 (lay.length + 1 + 2) j) = _
        rw [if_neg (by omega), show lay.length + 1 + 2 = base.length + 1 by omega, show toldB k1 c d n = _ from (if_neg hk0).trans (if_pos hk2), ← List.nil_append (txB _)]
        refine (htb j ?_).trans ?_
        · rw [show toldB k1 c d n = _ from (if_neg hk0).trans (if_pos hk2)] at hj
          rw [hnm]
          simpa using hj
        · rw [hnm]; simp
  · have hk0 : k1 = 0 := (nI_inj (by omega) (by decide)).mp (h28 : nI k1 = nI 0)
    refine xnewSB hk dL_told_31 dL_told_34 dL_told_35 hCb (by decide) ⟨by omega, by omega⟩ (Nat.le_of_ble_eq_true rfl) (fun a2 x2 hB => ?_)
    
    
    refine xappL (i := 5) (T := 64) hk dL_told_38 dL_told_40 (by decide) ⟨rfl, rfl⟩ hCb (okl_nil _) hB (by simp only [List.length_append, List.length_nil, txl_0, txl_1, txl_2, txl_3, txl_4, txl_5, txl_6, txl_7, txl_8, txl_9, txl_10, txl_11, txl_12, txl_13, txl_15, txl_16, txl_17, txl_18, txl_19, txl_20, txl_21, txl_22, txl_23]; omega) (by decide) (by decide) ⟨by omega, by omega⟩ (Nat.le_of_ble_eq_true rfl) (fun c2 a2 x2 hB => ?_)
    
    refine xaload_n hk dL_told_43 rfl ?_
    refine xappS (T := 64) hk dL_told_44 hCb (okl_nil _) hB (nmR hB hD) hna (by simp only [List.length_append, List.length_nil, txl_0, txl_1, txl_2, txl_3, txl_4, txl_5, txl_6, txl_7, txl_8, txl_9, txl_10, txl_11, txl_12, txl_13, txl_15, txl_16, txl_17, txl_18, txl_19, txl_20, txl_21, txl_22, txl_23]; omega) (by decide) (by decide) ⟨by omega, by omega⟩ (Nat.le_of_ble_eq_true rfl) (fun c2 a2 x2 hB => ?_)
    refine xappL (i := 6) (T := 64) hk dL_told_47 dL_told_49 (by decide) ⟨rfl, rfl⟩ hCb (okl_nil _) hB (by simp only [List.length_append, List.length_nil, txl_0, txl_1, txl_2, txl_3, txl_4, txl_5, txl_6, txl_7, txl_8, txl_9, txl_10, txl_11, txl_12, txl_13, txl_15, txl_16, txl_17, txl_18, txl_19, txl_20, txl_21, txl_22, txl_23]; omega) (by decide) (by decide) ⟨by omega, by omega⟩ (Nat.le_of_ble_eq_true rfl) (fun c2 a2 x2 hB => ?_)
    
    refine xaload_n hk dL_told_52 rfl ?_
    refine xiconst (v := 1) hk dL_told_53 (by decide) ?_
    rw [← hB.1.1 qd hqb]
    refine xiald hk dL_told_54 (bdr_at hq1) (show vp_in (nI 1) w from vp_in_nI (by omega) (by omega)) ?_
    rw [hB.1.1 qd hqb, show x2.1 qd (Int32.toNatClampNeg 1) = nI c from ((hB.1.2 qd hqb id 1).1).trans hy1]
    refine xcallSZ hk (c_L_claim (c := c) (bdr_cl hCb (okl_nil _) _) (by omega)) bL_claim kL_60 dL_told_55 rfl rfl (by decide) ⟨by omega, by omega⟩ (Nat.le_of_ble_eq_true rfl) (fun v3 lay3 a3 x3 hE3 => ?_)
    refine xappF (T := 64) hk dL_told_58 hCb hB hE3 (claimB_asc (by omega)) (by simp only [List.length_append, List.length_nil, txl_0, txl_1, txl_2, txl_3, txl_4, txl_5, txl_6, txl_7, txl_8, txl_9, txl_10, txl_11, txl_12, txl_13, txl_15, txl_16, txl_17, txl_18, txl_19, txl_20, txl_21, txl_22, txl_23]; omega) (by decide) (by decide) ⟨by omega, by omega⟩ (Nat.le_of_ble_eq_true rfl) (fun c2 a2 x2 hB => ?_)
    refine xappL (i := 7) (T := 64) hk dL_told_61 dL_told_63 (by decide) ⟨rfl, rfl⟩ hCb (okl_nil _) hB (by simp only [List.length_append, List.length_nil, txl_0, txl_1, txl_2, txl_3, txl_4, txl_5, txl_6, txl_7, txl_8, txl_9, txl_10, txl_11, txl_12, txl_13, txl_15, txl_16, txl_17, txl_18, txl_19, txl_20, txl_21, txl_22, txl_23]; omega) (by decide) (by decide) ⟨by omega, by omega⟩ (Nat.le_of_ble_eq_true rfl) (fun c2 a2 x2 hB => ?_)
    
    refine xaload_n hk dL_told_66 rfl ?_
    refine xiconst (v := 2) hk dL_told_67 (by decide) ?_
    rw [← hB.1.1 qd hqb]
    refine xiald hk dL_told_68 (bdr_at hq1) (show vp_in (nI 2) w from vp_in_nI (by omega) (by omega)) ?_
    rw [hB.1.1 qd hqb, show x2.1 qd (Int32.toNatClampNeg 2) = nI d from ((hB.1.2 qd hqb id 2).1).trans hy2]
    refine xcallSZ hk (c_L_claim (c := d) (bdr_cl hCb (okl_nil _) _) (by omega)) bL_claim kL_60 dL_told_69 rfl rfl (by decide) ⟨by omega, by omega⟩ (Nat.le_of_ble_eq_true rfl) (fun v3 lay3 a3 x3 hE3 => ?_)
    refine xappF (T := 64) hk dL_told_72 hCb hB hE3 (claimB_asc (by omega)) (by simp only [List.length_append, List.length_nil, txl_0, txl_1, txl_2, txl_3, txl_4, txl_5, txl_6, txl_7, txl_8, txl_9, txl_10, txl_11, txl_12, txl_13, txl_15, txl_16, txl_17, txl_18, txl_19, txl_20, txl_21, txl_22, txl_23]; omega) (by decide) (by decide) ⟨by omega, by omega⟩ (Nat.le_of_ble_eq_true rfl) (fun c2 a2 x2 hB => ?_)
    refine xtoS (T := 64) hk dL_told_75 hCb hB (by simp only [List.length_append, List.length_nil, txl_0, txl_1, txl_2, txl_3, txl_4, txl_5, txl_6, txl_7, txl_8, txl_9, txl_10, txl_11, txl_12, txl_13, txl_15, txl_16, txl_17, txl_18, txl_19, txl_20, txl_21, txl_22, txl_23]; omega) (by decide) ⟨by omega, by omega⟩ (Nat.le_of_ble_eq_true rfl) (fun a2 x2 hE => ?_)
    refine xgoto hk 218 dL_told_78 (by decide) ?_
    obtain ⟨-, -, hK2, ht0, htb⟩ := hE
    refine xlay (lay' := lay ++ [.inl (10, [lay.length + 4, 0, 0, 0]), .inr (2, nm.length), .inl (10, [lay.length + 6, 0, 0, 0]), .inr (2, (toldB k1 c d n).length)]) (by rw [hbl, hbase, List.append_assoc, show toldB k1 c d n = _ from if_pos hk0, hnm]; rfl) ?_
    refine xcut2 hC ?_
    show Wx _ _ _ _ _ _ _ _ [.ref (a2 base.length)]
    rw [hbl, show a2 (lay.length + 2) = cutA lay.length a2 lay.length by simp [cutA]]
    refine xaretZ hk he dL_told_218 (Or.inl ⟨_, rfl⟩) ⟨by omega, by omega⟩ ?_
    have hK3 : Keep lay a1 a2 x1 x2 (fun _ => False) := ⟨fun j hj => hK2.1 j (by omega), fun i hi _ j => hK2.2 i (by omega) id j⟩
    refine ⟨rfl, rfl, (hK1.tr0 hK3).tr0 (cut_keep lay a2 x2), ?_, fun j hj => ?_⟩
    · show (if lay.length < lay.length then _ else x2.1 (lay.length + 2) 1) = 0
      rw [if_neg (Nat.lt_irrefl _), ← hbl]; exact ht0
    · show (if lay.length + 1 < lay.length then _ else x2.1 (lay.length + 1 + 2) j) = _
      rw [if_neg (by omega), show lay.length + 1 + 2 = base.length + 1 by omega, show toldB k1 c d n = _ from if_pos hk0, ← List.nil_append (txB _)]
      refine (htb j ?_).trans ?_
      · rw [show toldB k1 c d n = _ from if_pos hk0] at hj
        rw [hnm]
        simpa using hj
      · rw [hnm]; simp
