theorem bL_test : CBs yL_test cL_test 3 (some (.object "java/lang/String")) 2 := ⟨⟨gw_mem 1401 (by decide +kernel) (by decide +kernel), gw_mem 0 (by decide +kernel) (by decide +kernel), by decide +kernel, by decide⟩, gw_mem 1400 (by decide +kernel) (by decide +kernel)⟩
/-! an order's test as text -/
def testB : Nat → Nat → Nat → Nat → Nat → List Int32
  | 0, _, _, _, _ => txB 14
  | 1, d, _, _, _ => txB 15 ++ numB (d % 3)
  | 2, d, _, _, N => txB 16 ++ claimB (d % (2 * N))
  | 3, d, e, _, _ => txB 17 ++ numB e ++ txB 18 ++ numB d
  | 4, d, e, f, N => txB 19 ++ claimB (d % (2 * N)) ++ txB 20 ++ claimB (e % (2 * N)) ++ txB 21 ++ numB f
  | _, d, _, _, _ => txB 22 ++ numB d ++ txB 23
def TtE (s : Nat → Nat) (lay : List Kd) (a : Nat → Nat) (x : XS) (ts : List Int32) : Option Value → List Kd → (Nat → Nat) → XS → Prop := fun v lay' a' x' =>
  ∃ r l, v = some (.ref r) ∧ lay' = lay ++ l ∧ (l = [] ∨ l = [.inl (10, [lay.length + 4, 0, 0, 0]), .inr (2, ts.length)]) ∧ Keep lay a a' x x' (fun _ => False) ∧ StrR s lay' a' x' r ts
theorem TsE.tt {s : Nat → Nat} {lay : List Kd} {a : Nat → Nat} {x : XS} {ts : List Int32} {v : Option Value} {lay' : List Kd} {a' : Nat → Nat} {x' : XS} (h : TsE lay a x ts v lay' a' x') : TtE s lay a x ts v lay' a' x' := by
  obtain ⟨rfl, rfl, hK, h0, hb⟩ := h
  refine ⟨_, _, rfl, rfl, Or.inr rfl, hK, Or.inr ⟨lay.length, lay.length + 1, ⟨?_, ?_, h0, hb⟩, rfl⟩⟩
  · rw [List.getElem?_append_right (Nat.le_refl _), Nat.sub_self]; rfl
  · rw [List.getElem?_append_right (by omega), Nat.add_sub_cancel_left]; rfl
set_option maxHeartbeats 4000000 in
set_option maxRecDepth 100000 in
theorem c_L_test {g : Gx} {a : Nat → Nat} {x : XS} {lay : List Kd} {kk d e f N qd w : Nat} (hC : Cl lay) (hq : lay[qd]? = some (.inr (0, w))) (hw : 6 ≤ w ∧ w < 100) (hx2 : x.1 qd 2 = nI kk) (hx3 : x.1 qd 3 = nI d) (hx4 : x.1 qd 4 = nI e) (hx5 : x.1 qd 5 = nI f) (hk1 : kk < 6) (hd : d < 100) (he1 : e < 100) (hf : f < 100) (hN : 1 ≤ N ∧ N < 20) : Mz g yL_test cL_test 3 (some (.object "java/lang/String")) 9 35 2000 lay a x [.ref (a qd), .int (nI N)] (TtE g.2.2.2.2 lay a x (testB kk d e f N)) := by
  refine Mz_of (by decide +kernel) (Nat.le_of_ble_eq_true rfl) ?_
  intro k hk he hg
  subst hg
  have h3b := numB_le (d % 3)
  have hdn := numB_le d
  have hen := numB_le e
  have hfn := numB_le f
  have hcb := claimB_le (d % (2 * N))
  have hdb := claimB_le (e % (2 * N))
  have hdm := Nat.mod_lt d (show 0 < 2 * N by omega)
  have hem := Nat.mod_lt e (show 0 < 2 * N by omega)
  have hql := at_lt hq
  refine xaload_n hk dL_test_0 rfl ?_
  refine xiconst (v := 3) hk dL_test_1 (by decide) ?_
  refine xiald hk dL_test_2 hq (show vp_in (nI 3) w from vp_in_nI (by omega) (by omega)) ?_
  rw [show x.1 qd (Int32.toNatClampNeg 3) = nI d from hx3]
  refine xistore_n hk dL_test_3 (by decide) ?_
  refine xaload_n hk dL_test_4 rfl ?_
  refine xiconst (v := 2) hk dL_test_5 (by decide) ?_
  refine xiald hk dL_test_6 hq (show vp_in (nI 2) w from vp_in_nI (by omega) (by omega)) ?_
  rw [show x.1 qd (Int32.toNatClampNeg 2) = nI kk from hx2]
  by_cases hs7_0 : (nI kk) = 0
  · refine xtableIn hk 40 dL_test_7 (by rw [hs7_0]; decide +kernel) (by rw [hs7_0]; decide +kernel) (off := 33) (by rw [hs7_0]; decide +kernel) (by decide) ?_
    refine xldcT (i := 14) hk dL_test_40 ⟨rfl, rfl⟩ (by decide) ?_
    have hkk : kk = 0 := (nI_inj (by omega) (by decide)).mp (hs7_0 : nI kk = nI 0)
    subst hkk
    refine xaretZ hk he dL_test_42 (Or.inl ⟨_, rfl⟩) ⟨by omega, by omega⟩ ?_
    exact ⟨_, [], rfl, (List.append_nil _).symm, Or.inl rfl, Keep.refl _ _ _ _, Or.inl ⟨14, by decide, rfl, rfl⟩⟩
  by_cases hs7_1 : (nI kk) = 1
  · refine xtableIn hk 43 dL_test_7 (by rw [hs7_1]; decide +kernel) (by rw [hs7_1]; decide +kernel) (off := 36) (by rw [hs7_1]; decide +kernel) (by decide) ?_
    refine xnewSB hk dL_test_43 dL_test_46 dL_test_47 hC (by decide) ⟨by omega, by omega⟩ (Nat.le_of_ble_eq_true rfl) (fun a2 x2 hB => ?_)
    
    
    refine xappL (i := 15) (T := 64) hk dL_test_50 dL_test_52 (by decide) ⟨rfl, rfl⟩ hC (okl_nil _) hB (by simp only [List.length_append, List.length_nil, txl_0, txl_1, txl_2, txl_3, txl_4, txl_5, txl_6, txl_7, txl_8, txl_9, txl_10, txl_11, txl_12, txl_13, txl_15, txl_16, txl_17, txl_18, txl_19, txl_20, txl_21, txl_22, txl_23]; omega) (by decide) (by decide) ⟨by omega, by omega⟩ (Nat.le_of_ble_eq_true rfl) (fun c2 a2 x2 hB => ?_)
    
    refine xiload_n hk dL_test_55 rfl ?_
    refine xiconst (v := 3) hk dL_test_56 (by decide) ?_
    refine xirem hk dL_test_57 (by decide) ?_
    rw [show (3 : Int32) = nI 3 from rfl, rem_nI (by omega) (by decide) (by decide)]
    refine xappI (T := 64) hk dL_test_58 hC (okl_nil _) hB (by omega) (by simp only [List.length_append, List.length_nil, txl_0, txl_1, txl_2, txl_3, txl_4, txl_5, txl_6, txl_7, txl_8, txl_9, txl_10, txl_11, txl_12, txl_13, txl_15, txl_16, txl_17, txl_18, txl_19, txl_20, txl_21, txl_22, txl_23]; omega) (by decide) (by decide) ⟨by omega, by omega⟩ (Nat.le_of_ble_eq_true rfl) (fun c2 a2 x2 hB => ?_)
    refine xtoS (T := 64) hk dL_test_61 hC hB (by simp only [List.length_append, List.length_nil, txl_0, txl_1, txl_2, txl_3, txl_4, txl_5, txl_6, txl_7, txl_8, txl_9, txl_10, txl_11, txl_12, txl_13, txl_15, txl_16, txl_17, txl_18, txl_19, txl_20, txl_21, txl_22, txl_23]; omega) (by decide) ⟨by omega, by omega⟩ (Nat.le_of_ble_eq_true rfl) (fun a2 x2 hE => ?_)
    have hkk : kk = 1 := (nI_inj (by omega) (by decide)).mp (hs7_1 : nI kk = nI 1)
    subst hkk
    refine xaretZ hk he dL_test_64 (Or.inl ⟨_, rfl⟩) ⟨by omega, by omega⟩ ?_
    rw [List.nil_append] at hE
    exact hE.tt
  by_cases hs7_2 : (nI kk) = 2
  · refine xtableIn hk 65 dL_test_7 (by rw [hs7_2]; decide +kernel) (by rw [hs7_2]; decide +kernel) (off := 58) (by rw [hs7_2]; decide +kernel) (by decide) ?_
    refine xnewSB hk dL_test_65 dL_test_68 dL_test_69 hC (by decide) ⟨by omega, by omega⟩ (Nat.le_of_ble_eq_true rfl) (fun a2 x2 hB => ?_)
    
    
    refine xappL (i := 16) (T := 64) hk dL_test_72 dL_test_74 (by decide) ⟨rfl, rfl⟩ hC (okl_nil _) hB (by simp only [List.length_append, List.length_nil, txl_0, txl_1, txl_2, txl_3, txl_4, txl_5, txl_6, txl_7, txl_8, txl_9, txl_10, txl_11, txl_12, txl_13, txl_15, txl_16, txl_17, txl_18, txl_19, txl_20, txl_21, txl_22, txl_23]; omega) (by decide) (by decide) ⟨by omega, by omega⟩ (Nat.le_of_ble_eq_true rfl) (fun c2 a2 x2 hB => ?_)
    
    refine xiload_n hk dL_test_77 rfl ?_
    refine xiconst (v := 2) hk dL_test_78 (by decide) ?_
    refine xiload_n hk dL_test_79 rfl ?_
    refine ximul hk dL_test_80 ?_
    rw [show (2 : Int32) = nI 2 from rfl, mul_nI]
    refine xirem hk dL_test_81 (fun z => by have := (nI_inj (b := 0) (by omega) (by decide)).mp z; omega) ?_
    rw [rem_nI (by omega) (by omega) (by omega)]
    refine xcallSZ hk (c_L_claim (c := d % (2 * N)) (bdr_cl hC (okl_nil _) _) (by omega)) bL_claim kL_60 dL_test_82 rfl rfl (by decide) ⟨by omega, by omega⟩ (Nat.le_of_ble_eq_true rfl) (fun v3 lay3 a3 x3 hE3 => ?_)
    refine xappF (T := 64) hk dL_test_85 hC hB hE3 (claimB_asc (by omega)) (by simp only [List.length_append, List.length_nil, txl_0, txl_1, txl_2, txl_3, txl_4, txl_5, txl_6, txl_7, txl_8, txl_9, txl_10, txl_11, txl_12, txl_13, txl_15, txl_16, txl_17, txl_18, txl_19, txl_20, txl_21, txl_22, txl_23]; omega) (by decide) (by decide) ⟨by omega, by omega⟩ (Nat.le_of_ble_eq_true rfl) (fun c2 a2 x2 hB => ?_)
    refine xtoS (T := 64) hk dL_test_88 hC hB (by simp only [List.length_append, List.length_nil, txl_0, txl_1, txl_2, txl_3, txl_4, txl_5, txl_6, txl_7, txl_8, txl_9, txl_10, txl_11, txl_12, txl_13, txl_15, txl_16, txl_17, txl_18, txl_19, txl_20, txl_21, txl_22, txl_23]; omega) (by decide) ⟨by omega, by omega⟩ (Nat.le_of_ble_eq_true rfl) (fun a2 x2 hE => ?_)
    have hkk : kk = 2 := (nI_inj (by omega) (by decide)).mp (hs7_2 : nI kk = nI 2)
    subst hkk
    refine xaretZ hk he dL_test_91 (Or.inl ⟨_, rfl⟩) ⟨by omega, by omega⟩ ?_
    rw [List.nil_append] at hE
    exact hE.tt
  by_cases hs7_3 : (nI kk) = 3
  · refine xtableIn hk 92 dL_test_7 (by rw [hs7_3]; decide +kernel) (by rw [hs7_3]; decide +kernel) (off := 85) (by rw [hs7_3]; decide +kernel) (by decide) ?_
    refine xnewSB hk dL_test_92 dL_test_95 dL_test_96 hC (by decide) ⟨by omega, by omega⟩ (Nat.le_of_ble_eq_true rfl) (fun a2 x2 hB => ?_)
    
    
    refine xappL (i := 17) (T := 64) hk dL_test_99 dL_test_101 (by decide) ⟨rfl, rfl⟩ hC (okl_nil _) hB (by simp only [List.length_append, List.length_nil, txl_0, txl_1, txl_2, txl_3, txl_4, txl_5, txl_6, txl_7, txl_8, txl_9, txl_10, txl_11, txl_12, txl_13, txl_15, txl_16, txl_17, txl_18, txl_19, txl_20, txl_21, txl_22, txl_23]; omega) (by decide) (by decide) ⟨by omega, by omega⟩ (Nat.le_of_ble_eq_true rfl) (fun c2 a2 x2 hB => ?_)
    
    refine xaload_n hk dL_test_104 rfl ?_
    refine xiconst (v := 4) hk dL_test_105 (by decide) ?_
    rw [← hB.1.1 qd hql]
    refine xiald hk dL_test_106 (bdr_at hq) (show vp_in (nI 4) w from vp_in_nI (by omega) (by omega)) ?_
    rw [hB.1.1 qd hql, show x2.1 qd (Int32.toNatClampNeg 4) = nI e from ((hB.1.2 qd hql id 4).1).trans hx4]
    refine xappI (T := 64) hk dL_test_107 hC (okl_nil _) hB (by omega) (by simp only [List.length_append, List.length_nil, txl_0, txl_1, txl_2, txl_3, txl_4, txl_5, txl_6, txl_7, txl_8, txl_9, txl_10, txl_11, txl_12, txl_13, txl_15, txl_16, txl_17, txl_18, txl_19, txl_20, txl_21, txl_22, txl_23]; omega) (by decide) (by decide) ⟨by omega, by omega⟩ (Nat.le_of_ble_eq_true rfl) (fun c2 a2 x2 hB => ?_)
    refine xappL (i := 18) (T := 64) hk dL_test_110 dL_test_112 (by decide) ⟨rfl, rfl⟩ hC (okl_nil _) hB (by simp only [List.length_append, List.length_nil, txl_0, txl_1, txl_2, txl_3, txl_4, txl_5, txl_6, txl_7, txl_8, txl_9, txl_10, txl_11, txl_12, txl_13, txl_15, txl_16, txl_17, txl_18, txl_19, txl_20, txl_21, txl_22, txl_23]; omega) (by decide) (by decide) ⟨by omega, by omega⟩ (Nat.le_of_ble_eq_true rfl) (fun c2 a2 x2 hB => ?_)
    
    refine xiload_n hk dL_test_115 rfl ?_
    refine xappI (T := 64) hk dL_test_116 hC (okl_nil _) hB (by omega) (by simp only [List.length_append, List.length_nil, txl_0, txl_1, txl_2, txl_3, txl_4, txl_5, txl_6, txl_7, txl_8, txl_9, txl_10, txl_11, txl_12, txl_13, txl_15, txl_16, txl_17, txl_18, txl_19, txl_20, txl_21, txl_22, txl_23]; omega) (by decide) (by decide) ⟨by omega, by omega⟩ (Nat.le_of_ble_eq_true rfl) (fun c2 a2 x2 hB => ?_)
    refine xtoS (T := 64) hk dL_test_119 hC hB (by simp only [List.length_append, List.length_nil, txl_0, txl_1, txl_2, txl_3, txl_4, txl_5, txl_6, txl_7, txl_8, txl_9, txl_10, txl_11, txl_12, txl_13, txl_15, txl_16, txl_17, txl_18, txl_19, txl_20, txl_21, txl_22, txl_23]; omega) (by decide) ⟨by omega, by omega⟩ (Nat.le_of_ble_eq_true rfl) (fun a2 x2 hE => ?_)
    have hkk : kk = 3 := (nI_inj (by omega) (by decide)).mp (hs7_3 : nI kk = nI 3)
    subst hkk
    refine xaretZ hk he dL_test_122 (Or.inl ⟨_, rfl⟩) ⟨by omega, by omega⟩ ?_
    rw [List.nil_append] at hE
    exact hE.tt
  by_cases hs7_4 : (nI kk) = 4
  · refine xtableIn hk 123 dL_test_7 (by rw [hs7_4]; decide +kernel) (by rw [hs7_4]; decide +kernel) (off := 116) (by rw [hs7_4]; decide +kernel) (by decide) ?_
    refine xnewSB hk dL_test_123 dL_test_126 dL_test_127 hC (by decide) ⟨by omega, by omega⟩ (Nat.le_of_ble_eq_true rfl) (fun a2 x2 hB => ?_)
    
    
    refine xappL (i := 19) (T := 64) hk dL_test_130 dL_test_132 (by decide) ⟨rfl, rfl⟩ hC (okl_nil _) hB (by simp only [List.length_append, List.length_nil, txl_0, txl_1, txl_2, txl_3, txl_4, txl_5, txl_6, txl_7, txl_8, txl_9, txl_10, txl_11, txl_12, txl_13, txl_15, txl_16, txl_17, txl_18, txl_19, txl_20, txl_21, txl_22, txl_23]; omega) (by decide) (by decide) ⟨by omega, by omega⟩ (Nat.le_of_ble_eq_true rfl) (fun c2 a2 x2 hB => ?_)
    
    refine xiload_n hk dL_test_135 rfl ?_
    refine xiconst (v := 2) hk dL_test_136 (by decide) ?_
    refine xiload_n hk dL_test_137 rfl ?_
    refine ximul hk dL_test_138 ?_
    rw [show (2 : Int32) = nI 2 from rfl, mul_nI]
    refine xirem hk dL_test_139 (fun z => by have := (nI_inj (b := 0) (by omega) (by decide)).mp z; omega) ?_
    rw [rem_nI (by omega) (by omega) (by omega)]
    refine xcallSZ hk (c_L_claim (c := d % (2 * N)) (bdr_cl hC (okl_nil _) _) (by omega)) bL_claim kL_60 dL_test_140 rfl rfl (by decide) ⟨by omega, by omega⟩ (Nat.le_of_ble_eq_true rfl) (fun v3 lay3 a3 x3 hE3 => ?_)
    refine xappF (T := 64) hk dL_test_143 hC hB hE3 (claimB_asc (by omega)) (by simp only [List.length_append, List.length_nil, txl_0, txl_1, txl_2, txl_3, txl_4, txl_5, txl_6, txl_7, txl_8, txl_9, txl_10, txl_11, txl_12, txl_13, txl_15, txl_16, txl_17, txl_18, txl_19, txl_20, txl_21, txl_22, txl_23]; omega) (by decide) (by decide) ⟨by omega, by omega⟩ (Nat.le_of_ble_eq_true rfl) (fun c2 a2 x2 hB => ?_)
    refine xappL (i := 20) (T := 64) hk dL_test_146 dL_test_148 (by decide) ⟨rfl, rfl⟩ hC (okl_nil _) hB (by simp only [List.length_append, List.length_nil, txl_0, txl_1, txl_2, txl_3, txl_4, txl_5, txl_6, txl_7, txl_8, txl_9, txl_10, txl_11, txl_12, txl_13, txl_15, txl_16, txl_17, txl_18, txl_19, txl_20, txl_21, txl_22, txl_23]; omega) (by decide) (by decide) ⟨by omega, by omega⟩ (Nat.le_of_ble_eq_true rfl) (fun c2 a2 x2 hB => ?_)
    
    refine xaload_n hk dL_test_151 rfl ?_
    refine xiconst (v := 4) hk dL_test_152 (by decide) ?_
    rw [← hB.1.1 qd hql]
    refine xiald hk dL_test_153 (bdr_at hq) (show vp_in (nI 4) w from vp_in_nI (by omega) (by omega)) ?_
    rw [hB.1.1 qd hql, show x2.1 qd (Int32.toNatClampNeg 4) = nI e from ((hB.1.2 qd hql id 4).1).trans hx4]
    refine xiconst (v := 2) hk dL_test_154 (by decide) ?_
    refine xiload_n hk dL_test_155 rfl ?_
    refine ximul hk dL_test_156 ?_
    rw [show (2 : Int32) = nI 2 from rfl, mul_nI]
    refine xirem hk dL_test_157 (fun z => by have := (nI_inj (b := 0) (by omega) (by decide)).mp z; omega) ?_
    rw [rem_nI (by omega) (by omega) (by omega)]
    refine xcallSZ hk (c_L_claim (c := e % (2 * N)) (bdr_cl hC (okl_nil _) _) (by omega)) bL_claim kL_60 dL_test_158 rfl rfl (by decide) ⟨by omega, by omega⟩ (Nat.le_of_ble_eq_true rfl) (fun v3 lay3 a3 x3 hE3 => ?_)
    refine xappF (T := 64) hk dL_test_161 hC hB hE3 (claimB_asc (by omega)) (by simp only [List.length_append, List.length_nil, txl_0, txl_1, txl_2, txl_3, txl_4, txl_5, txl_6, txl_7, txl_8, txl_9, txl_10, txl_11, txl_12, txl_13, txl_15, txl_16, txl_17, txl_18, txl_19, txl_20, txl_21, txl_22, txl_23]; omega) (by decide) (by decide) ⟨by omega, by omega⟩ (Nat.le_of_ble_eq_true rfl) (fun c2 a2 x2 hB => ?_)
    refine xappL (i := 21) (T := 64) hk dL_test_164 dL_test_166 (by decide) ⟨rfl, rfl⟩ hC (okl_nil _) hB (by simp only [List.length_append, List.length_nil, txl_0, txl_1, txl_2, txl_3, txl_4, txl_5, txl_6, txl_7, txl_8, txl_9, txl_10, txl_11, txl_12, txl_13, txl_15, txl_16, txl_17, txl_18, txl_19, txl_20, txl_21, txl_22, txl_23]; omega) (by decide) (by decide) ⟨by omega, by omega⟩ (Nat.le_of_ble_eq_true rfl) (fun c2 a2 x2 hB => ?_)
    
    refine xaload_n hk dL_test_169 rfl ?_
    refine xiconst (v := 5) hk dL_test_170 (by decide) ?_
    rw [← hB.1.1 qd hql]
    refine xiald hk dL_test_171 (bdr_at hq) (show vp_in (nI 5) w from vp_in_nI (by omega) (by omega)) ?_
    rw [hB.1.1 qd hql, show x2.1 qd (Int32.toNatClampNeg 5) = nI f from ((hB.1.2 qd hql id 5).1).trans hx5]
    refine xappI (T := 64) hk dL_test_172 hC (okl_nil _) hB (by omega) (by simp only [List.length_append, List.length_nil, txl_0, txl_1, txl_2, txl_3, txl_4, txl_5, txl_6, txl_7, txl_8, txl_9, txl_10, txl_11, txl_12, txl_13, txl_15, txl_16, txl_17, txl_18, txl_19, txl_20, txl_21, txl_22, txl_23]; omega) (by decide) (by decide) ⟨by omega, by omega⟩ (Nat.le_of_ble_eq_true rfl) (fun c2 a2 x2 hB => ?_)
    refine xtoS (T := 64) hk dL_test_175 hC hB (by simp only [List.length_append, List.length_nil, txl_0, txl_1, txl_2, txl_3, txl_4, txl_5, txl_6, txl_7, txl_8, txl_9, txl_10, txl_11, txl_12, txl_13, txl_15, txl_16, txl_17, txl_18, txl_19, txl_20, txl_21, txl_22, txl_23]; omega) (by decide) ⟨by omega, by omega⟩ (Nat.le_of_ble_eq_true rfl) (fun a2 x2 hE => ?_)
    have hkk : kk = 4 := (nI_inj (by omega) (by decide)).mp (hs7_4 : nI kk = nI 4)
    subst hkk
    refine xaretZ hk he dL_test_178 (Or.inl ⟨_, rfl⟩) ⟨by omega, by omega⟩ ?_
    rw [List.nil_append] at hE
    exact hE.tt
  by_cases ht7 : (Int32.toInt (nI kk)) < 0 ∨ 4 < (Int32.toInt (nI kk))
  · refine xtableOut hk 179 dL_test_7 ht7 (by decide) ?_
    refine xnewSB hk dL_test_179 dL_test_182 dL_test_183 hC (by decide) ⟨by omega, by omega⟩ (Nat.le_of_ble_eq_true rfl) (fun a2 x2 hB => ?_)
    
    
    refine xappL (i := 22) (T := 64) hk dL_test_186 dL_test_188 (by decide) ⟨rfl, rfl⟩ hC (okl_nil _) hB (by simp only [List.length_append, List.length_nil, txl_0, txl_1, txl_2, txl_3, txl_4, txl_5, txl_6, txl_7, txl_8, txl_9, txl_10, txl_11, txl_12, txl_13, txl_15, txl_16, txl_17, txl_18, txl_19, txl_20, txl_21, txl_22, txl_23]; omega) (by decide) (by decide) ⟨by omega, by omega⟩ (Nat.le_of_ble_eq_true rfl) (fun c2 a2 x2 hB => ?_)
    
    refine xiload_n hk dL_test_191 rfl ?_
    refine xappI (T := 64) hk dL_test_192 hC (okl_nil _) hB (by omega) (by simp only [List.length_append, List.length_nil, txl_0, txl_1, txl_2, txl_3, txl_4, txl_5, txl_6, txl_7, txl_8, txl_9, txl_10, txl_11, txl_12, txl_13, txl_15, txl_16, txl_17, txl_18, txl_19, txl_20, txl_21, txl_22, txl_23]; omega) (by decide) (by decide) ⟨by omega, by omega⟩ (Nat.le_of_ble_eq_true rfl) (fun c2 a2 x2 hB => ?_)
    refine xappL (i := 23) (T := 64) hk dL_test_195 dL_test_197 (by decide) ⟨rfl, rfl⟩ hC (okl_nil _) hB (by simp only [List.length_append, List.length_nil, txl_0, txl_1, txl_2, txl_3, txl_4, txl_5, txl_6, txl_7, txl_8, txl_9, txl_10, txl_11, txl_12, txl_13, txl_15, txl_16, txl_17, txl_18, txl_19, txl_20, txl_21, txl_22, txl_23]; omega) (by decide) (by decide) ⟨by omega, by omega⟩ (Nat.le_of_ble_eq_true rfl) (fun c2 a2 x2 hB => ?_)
    
    refine xtoS (T := 64) hk dL_test_200 hC hB (by simp only [List.length_append, List.length_nil, txl_0, txl_1, txl_2, txl_3, txl_4, txl_5, txl_6, txl_7, txl_8, txl_9, txl_10, txl_11, txl_12, txl_13, txl_15, txl_16, txl_17, txl_18, txl_19, txl_20, txl_21, txl_22, txl_23]; omega) (by decide) ⟨by omega, by omega⟩ (Nat.le_of_ble_eq_true rfl) (fun a2 x2 hE => ?_)
    have hkk : kk = 5 := by have n0 : kk ≠ 0 := fun z => hs7_0 (by rw [z]; rfl); have n1 : kk ≠ 1 := fun z => hs7_1 (by rw [z]; rfl); have n2 : kk ≠ 2 := fun z => hs7_2 (by rw [z]; rfl); have n3 : kk ≠ 3 := fun z => hs7_3 (by rw [z]; rfl); have n4 : kk ≠ 4 := fun z => hs7_4 (by rw [z]; rfl); omega
    subst hkk
    refine xaretZ hk he dL_test_203 (Or.inl ⟨_, rfl⟩) ⟨by omega, by omega⟩ ?_
    rw [List.nil_append] at hE
    exact hE.tt
  refine xtableIn hk 179 dL_test_7 (fun z => ht7 (Or.inl z)) (fun z => ht7 (Or.inr z)) (off := 172) (tsw (n := 5) ht7 (by decide) [0, 1, 2, 3, 4] (List.forall_mem_cons.mpr ⟨lv_neT hs7_0 (by decide), (List.forall_mem_cons.mpr ⟨lv_neT hs7_1 (by decide), (List.forall_mem_cons.mpr ⟨lv_neT hs7_2 (by decide), (List.forall_mem_cons.mpr ⟨lv_neT hs7_3 (by decide), (List.forall_mem_cons.mpr ⟨lv_neT hs7_4 (by decide), (fun _ h => absurd h List.not_mem_nil)⟩)⟩)⟩)⟩)⟩) (by decide +kernel)) (by decide) ?_
  refine xnewSB hk dL_test_179 dL_test_182 dL_test_183 hC (by decide) ⟨by omega, by omega⟩ (Nat.le_of_ble_eq_true rfl) (fun a2 x2 hB => ?_)
  
  
  refine xappL (i := 22) (T := 64) hk dL_test_186 dL_test_188 (by decide) ⟨rfl, rfl⟩ hC (okl_nil _) hB (by simp only [List.length_append, List.length_nil, txl_0, txl_1, txl_2, txl_3, txl_4, txl_5, txl_6, txl_7, txl_8, txl_9, txl_10, txl_11, txl_12, txl_13, txl_15, txl_16, txl_17, txl_18, txl_19, txl_20, txl_21, txl_22, txl_23]; omega) (by decide) (by decide) ⟨by omega, by omega⟩ (Nat.le_of_ble_eq_true rfl) (fun c2 a2 x2 hB => ?_)
  
  refine xiload_n hk dL_test_191 rfl ?_
  refine xappI (T := 64) hk dL_test_192 hC (okl_nil _) hB (by omega) (by simp only [List.length_append, List.length_nil, txl_0, txl_1, txl_2, txl_3, txl_4, txl_5, txl_6, txl_7, txl_8, txl_9, txl_10, txl_11, txl_12, txl_13, txl_15, txl_16, txl_17, txl_18, txl_19, txl_20, txl_21, txl_22, txl_23]; omega) (by decide) (by decide) ⟨by omega, by omega⟩ (Nat.le_of_ble_eq_true rfl) (fun c2 a2 x2 hB => ?_)
  refine xappL (i := 23) (T := 64) hk dL_test_195 dL_test_197 (by decide) ⟨rfl, rfl⟩ hC (okl_nil _) hB (by simp only [List.length_append, List.length_nil, txl_0, txl_1, txl_2, txl_3, txl_4, txl_5, txl_6, txl_7, txl_8, txl_9, txl_10, txl_11, txl_12, txl_13, txl_15, txl_16, txl_17, txl_18, txl_19, txl_20, txl_21, txl_22, txl_23]; omega) (by decide) (by decide) ⟨by omega, by omega⟩ (Nat.le_of_ble_eq_true rfl) (fun c2 a2 x2 hB => ?_)
  
  refine xtoS (T := 64) hk dL_test_200 hC hB (by simp only [List.length_append, List.length_nil, txl_0, txl_1, txl_2, txl_3, txl_4, txl_5, txl_6, txl_7, txl_8, txl_9, txl_10, txl_11, txl_12, txl_13, txl_15, txl_16, txl_17, txl_18, txl_19, txl_20, txl_21, txl_22, txl_23]; omega) (by decide) ⟨by omega, by omega⟩ (Nat.le_of_ble_eq_true rfl) (fun a2 x2 hE => ?_)
  have hkk : kk = 5 := by have n0 : kk ≠ 0 := fun z => hs7_0 (by rw [z]; rfl); have n1 : kk ≠ 1 := fun z => hs7_1 (by rw [z]; rfl); have n2 : kk ≠ 2 := fun z => hs7_2 (by rw [z]; rfl); have n3 : kk ≠ 3 := fun z => hs7_3 (by rw [z]; rfl); have n4 : kk ≠ 4 := fun z => hs7_4 (by rw [z]; rfl); omega
  subst hkk
  refine xaretZ hk he dL_test_203 (Or.inl ⟨_, rfl⟩) ⟨by omega, by omega⟩ ?_
  rw [List.nil_append] at hE
  exact hE.tt
