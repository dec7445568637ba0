theorem kX6_85 : Cond.methodLink RX6 85 yX6_readSymbol ∈ GW := gw_mem 993 (by decide +kernel) (by decide +kernel)
theorem bX6_readSymbol : CBv yX6_readSymbol cX6_readSymbol 3 (some .int) 2 := ⟨⟨gw_mem 996 (by decide +kernel) (by decide +kernel), gw_mem 15 (by decide +kernel) (by decide +kernel), by decide +kernel, by decide⟩, gw_mem 995 (by decide +kernel) (by decide +kernel), gw_sel 30 (by decide +kernel) (by decide +kernel)⟩
theorem kX6_82 : Cond.methodLink RX6 82 yX6_readNumber ∈ GW := gw_mem 988 (by decide +kernel) (by decide +kernel)
theorem bX6_readNumber : CBv yX6_readNumber cX6_readNumber 3 (some .int) 1 := ⟨⟨gw_mem 991 (by decide +kernel) (by decide +kernel), gw_mem 15 (by decide +kernel) (by decide +kernel), by decide +kernel, by decide⟩, gw_mem 990 (by decide +kernel) (by decide +kernel), gw_sel 29 (by decide +kernel) (by decide +kernel)⟩
theorem kX6_79 : Cond.methodLink RX6 79 yX6_readWord ∈ GW := gw_mem 984 (by decide +kernel) (by decide +kernel)
theorem bX6_readWord : CBv yX6_readWord cX6_readWord 4 (some .int) 1 := ⟨⟨gw_mem 987 (by decide +kernel) (by decide +kernel), gw_mem 15 (by decide +kernel) (by decide +kernel), by decide +kernel, by decide⟩, gw_mem 986 (by decide +kernel) (by decide +kernel), gw_sel 28 (by decide +kernel) (by decide +kernel)⟩
theorem kX6_56 : Cond.methodLink RX6 56 yX6_skipBlanks ∈ GW := gw_mem 969 (by decide +kernel) (by decide +kernel)
theorem bX6_skipBlanks : CBv yX6_skipBlanks cX6_skipBlanks 2 none 1 := ⟨⟨gw_mem 972 (by decide +kernel) (by decide +kernel), gw_mem 15 (by decide +kernel) (by decide +kernel), by decide +kernel, by decide⟩, gw_mem 971 (by decide +kernel) (by decide +kernel), gw_sel 26 (by decide +kernel) (by decide +kernel)⟩
theorem kX6_64 : Cond.methodLink RX6 64 yX6_readToken ∈ GW := gw_mem 977 (by decide +kernel) (by decide +kernel)
theorem bX6_readToken : CBv yX6_readToken cX6_readToken 3 (some .int) 1 := ⟨⟨gw_mem 980 (by decide +kernel) (by decide +kernel), gw_mem 15 (by decide +kernel) (by decide +kernel), by decide +kernel, by decide⟩, gw_mem 979 (by decide +kernel) (by decide +kernel), gw_sel 27 (by decide +kernel) (by decide +kernel)⟩
set_option maxHeartbeats 4000000 in
set_option maxRecDepth 100000 in
theorem c_X6_readSymbol {g : Gx} {a : Nat → Nat} {x : XS} {s : Int32} : Mx g yX6_readSymbol cX6_readSymbol 3 (some .int) 3 0 0 LF a x [.ref (a 3), .ref (a 1), .int s] (pr (some (.int (symU x s).1)) (symU x s).2) := by
  refine Mx_of (by decide +kernel) (Nat.le_of_ble_eq_true rfl) ?_
  intro k hk he hg
  subst hg

  refine xaload_n hk dX6_readSymbol_0 rfl ?_
  refine xdup hk dX6_readSymbol_1 rfl ?_
  refine xgetI (ci := 6) (f := 5) hk dX6_readSymbol_2 ⟨rfl, by decide, _, rfl, rfl⟩ kX6_53 ?_
  refine xiconst (v := 1) hk dX6_readSymbol_5 (by decide) ?_
  refine xiadd hk dX6_readSymbol_6 ?_
  refine xputI (ci := 6) (f := 5) hk dX6_readSymbol_7 ⟨rfl, by decide, _, rfl, rfl⟩ kX6_53 ⟨rfl, by decide +kernel⟩ ?_
  refine xiload_n hk dX6_readSymbol_10 rfl ?_
  by_cases ht1 : s.toInt < 40
  · have hsy : symO s = 272 := by rw [symO, if_pos ht1]
    refine xtableOut hk 283 dX6_readSymbol_11 (Or.inl ht1) (by decide) ?_
    refine xsipush (v := 261) hk dX6_readSymbol_283 (by decide) ?_
    refine xiret hk he dX6_readSymbol_286 ⟨by decide, by decide⟩ ?_
    exact ⟨by simp [symU, hsy], by simp [symU, hsy]⟩
  by_cases ht2 : 93 < s.toInt
  · have hsy : symO s = 272 := by rw [symO, if_neg ht1, if_pos ht2]
    refine xtableOut hk 283 dX6_readSymbol_11 (Or.inr ht2) (by decide) ?_
    refine xsipush (v := 261) hk dX6_readSymbol_283 (by decide) ?_
    refine xiret hk he dX6_readSymbol_286 ⟨by decide, by decide⟩ ?_
    exact ⟨by simp [symU, hsy], by simp [symU, hsy]⟩
  rcases sym_cases (s.toInt - 40).toNat (by omega) with h | h | h
  · have hsy := symO_of ht1 ht2 h
    refine xtableIn hk 281 dX6_readSymbol_11 ht1 ht2 h (by decide) ?_
    refine xiload_n hk dX6_readSymbol_281 rfl ?_
    refine xiret hk he dX6_readSymbol_282 ⟨by decide, by decide⟩ ?_
    exact ⟨by simp [symU, hsy], by simp [symU, hsy]⟩
  · have hsy := symO_of ht1 ht2 h
    refine xtableIn hk 240 dX6_readSymbol_11 ht1 ht2 h (by decide) ?_
    refine xaload_n hk dX6_readSymbol_240 rfl ?_
    refine xaload_n hk dX6_readSymbol_241 rfl ?_
    refine xgetI (ci := 6) (f := 5) hk dX6_readSymbol_242 ⟨rfl, by decide, _, rfl, rfl⟩ kX6_53 ?_
    refine xcallV hk c_X5_at bX5_at kX6_72 dX6_readSymbol_245 rfl ⟨_, _, _, _, rfl, rfl⟩ rfl (by decide) ⟨by decide, by decide⟩ (Nat.le_of_ble_eq_true rfl) (det ?_)
    refine xbipush (v := 61) hk dX6_readSymbol_248 (by decide) ?_
    refine xicmp_eq hk 255 dX6_readSymbol_250 (by decide) (fun h250 => ?_) (fun h250 => ?_)
    · refine xaload_n hk dX6_readSymbol_255 rfl ?_
      refine xdup hk dX6_readSymbol_256 rfl ?_
      refine xgetI (ci := 6) (f := 5) hk dX6_readSymbol_257 ⟨rfl, by decide, _, rfl, rfl⟩ kX6_53 ?_
      refine xiconst (v := 1) hk dX6_readSymbol_260 (by decide) ?_
      refine xiadd hk dX6_readSymbol_261 ?_
      refine xputI (ci := 6) (f := 5) hk dX6_readSymbol_262 ⟨rfl, by decide, _, rfl, rfl⟩ kX6_53 ⟨rfl, by decide +kernel⟩ ?_
      refine xiload_n hk dX6_readSymbol_265 rfl ?_
      refine xbipush (v := 60) hk dX6_readSymbol_266 (by decide) ?_
      refine xicmp_ne hk 277 dX6_readSymbol_268 (by decide) (fun h268 => ?_) (fun h268 => ?_)
      · refine xsipush (v := 257) hk dX6_readSymbol_277 (by decide) ?_
        refine xiret hk he dX6_readSymbol_280 ⟨by decide, by decide⟩ ?_
        exact ⟨by simp only [symU, hsy]; first | simp [h250, h268]; done | simp [h250], by simp only [symU, hsy]; first | simp [h250, h268]; done | simp [h250]⟩
      · refine xsipush (v := 256) hk dX6_readSymbol_271 (by decide) ?_
        refine xgoto hk 280 dX6_readSymbol_274 (by decide) ?_
        refine xiret hk he dX6_readSymbol_280 ⟨by decide, by decide⟩ ?_
        exact ⟨by simp only [symU, hsy]; first | simp [h250, h268]; done | simp [h250], by simp only [symU, hsy]; first | simp [h250, h268]; done | simp [h250]⟩
    · refine xiload_n hk dX6_readSymbol_253 rfl ?_
      refine xiret hk he dX6_readSymbol_254 ⟨by decide, by decide⟩ ?_
      exact ⟨by simp only [symU, hsy]; first | simp [h250, h268]; done | simp [h250], by simp only [symU, hsy]; first | simp [h250, h268]; done | simp [h250]⟩
  · have hsy := symO_of ht1 ht2 h
    refine xtableIn hk 283 dX6_readSymbol_11 ht1 ht2 h (by decide) ?_
    refine xsipush (v := 261) hk dX6_readSymbol_283 (by decide) ?_
    refine xiret hk he dX6_readSymbol_286 ⟨by decide, by decide⟩ ?_
    exact ⟨by simp [symU, hsy], by simp [symU, hsy]⟩
set_option maxHeartbeats 4000000 in
set_option maxRecDepth 100000 in
theorem c_X6_readToken {g : Gx} {a : Nat → Nat} {x : XS}  : Mx g yX6_readToken cX6_readToken 3 (some .int) 4 0 0 LF a x [.ref (a 3), .ref (a 1)] (pr (some (.int (tokU x).1)) (tokU x).2) := by
  refine Mx_of (by decide +kernel) (Nat.le_of_ble_eq_true rfl) ?_
  intro k hk he hg
  subst hg

  refine xaload_n hk dX6_readToken_0 rfl ?_
  refine xaload_n hk dX6_readToken_1 rfl ?_
  refine xgetI (ci := 6) (f := 5) hk dX6_readToken_2 ⟨rfl, by decide, _, rfl, rfl⟩ kX6_53 ?_
  refine xcallV hk c_X5_at bX5_at kX6_72 dX6_readToken_5 rfl ⟨_, _, _, _, rfl, rfl⟩ rfl (by decide) ⟨by decide, by decide⟩ (Nat.le_of_ble_eq_true rfl) (det ?_)
  refine xistore_n hk dX6_readToken_8 (by decide) ?_
  refine xiload_n hk dX6_readToken_9 rfl ?_
  refine xif_ge hk 17 dX6_readToken_10 (by decide) (fun h10 => ?_) (fun h10 => ?_)
  · have h10 : ¬ atF x (x.1 3 5) < 0 := Int32.not_lt.mpr h10
    refine xaload_n hk dX6_readToken_17 rfl ?_
    refine xgetI (ci := 6) (f := 4) hk dX6_readToken_18 ⟨rfl, by decide, _, rfl, rfl⟩ kX6_49 ?_
    refine xsipush (v := 400) hk dX6_readToken_21 (by decide) ?_
    refine xicmp_lt hk 31 dX6_readToken_24 (by decide) (fun h24 => ?_) (fun h24 => ?_)
    · have h24 : ¬ 400 ≤ x.1 3 4 := Int32.not_le.mpr h24
      refine xiload_n hk dX6_readToken_31 rfl ?_
      refine xcallS hk c_X6_isLetter bX6_isLetter kX6_76 dX6_readToken_32 rfl rfl (by decide) ⟨by decide, by decide⟩ (Nat.le_of_ble_eq_true rfl) (det ?_)
      refine xif_eq hk 44 dX6_readToken_35 (by decide) (fun h35 => ?_) (fun h35 => ?_)
      · rw [b2i_0] at h35
        refine xiload_n hk dX6_readToken_44 rfl ?_
        refine xcallS hk c_X6_isDigit bX6_isDigit kX6_45 dX6_readToken_45 rfl rfl (by decide) ⟨by decide, by decide⟩ (Nat.le_of_ble_eq_true rfl) (det ?_)
        refine xif_eq hk 57 dX6_readToken_48 (by decide) (fun h48 => ?_) (fun h48 => ?_)
        · rw [b2i_0] at h48
          refine xaload_n hk dX6_readToken_57 rfl ?_
          refine xaload_n hk dX6_readToken_58 rfl ?_
          refine xiload_n hk dX6_readToken_59 rfl ?_
          refine xcallV hk c_X6_readSymbol bX6_readSymbol kX6_85 dX6_readToken_60 rfl ⟨_, _, _, _, rfl, rfl⟩ rfl (by decide) ⟨by decide, by decide⟩ (Nat.le_of_ble_eq_true rfl) (det ?_)
          refine xiret hk he dX6_readToken_63 ⟨by decide, by decide⟩ ?_
          exact ⟨by simp only [tokU, h10, h24, h35, h48, if_true, if_false, Bool.false_eq_true], by simp only [tokU, h10, h24, h35, h48, if_true, if_false, Bool.false_eq_true]⟩
        · rw [b2i_t] at h48
          refine xaload_n hk dX6_readToken_51 rfl ?_
          refine xaload_n hk dX6_readToken_52 rfl ?_
          refine xcallV hk c_X6_readNumber bX6_readNumber kX6_82 dX6_readToken_53 rfl ⟨_, _, _, _, rfl, rfl⟩ rfl (by decide) ⟨by decide, by decide⟩ (Nat.le_of_ble_eq_true rfl) (det ?_)
          refine xiret hk he dX6_readToken_56 ⟨by decide, by decide⟩ ?_
          exact ⟨by simp only [tokU, h10, h24, h35, h48, if_true, if_false, Bool.false_eq_true], by simp only [tokU, h10, h24, h35, h48, if_true, if_false, Bool.false_eq_true]⟩
      · rw [b2i_t] at h35
        refine xaload_n hk dX6_readToken_38 rfl ?_
        refine xaload_n hk dX6_readToken_39 rfl ?_
        refine xcallV hk c_X6_readWord bX6_readWord kX6_79 dX6_readToken_40 rfl ⟨_, _, _, _, rfl, rfl⟩ rfl (by decide) ⟨by decide, by decide⟩ (Nat.le_of_ble_eq_true rfl) (det ?_)
        refine xiret hk he dX6_readToken_43 ⟨by decide, by decide⟩ ?_
        exact ⟨by simp only [tokU, h10, h24, h35, if_true, if_false], by simp only [tokU, h10, h24, h35, if_true, if_false]⟩
    · have h24 : 400 ≤ x.1 3 4 := Int32.not_lt.mp h24
      refine xsipush (v := 261) hk dX6_readToken_27 (by decide) ?_
      refine xiret hk he dX6_readToken_30 ⟨by decide, by decide⟩ ?_
      exact ⟨by simp only [tokU, h10, h24, if_true, if_false], by simp only [tokU, h10, h24, if_true, if_false]⟩
  · have h10 : atF x (x.1 3 5) < 0 := Int32.not_le.mp h10
    refine xsipush (v := 260) hk dX6_readToken_13 (by decide) ?_
    refine xiret hk he dX6_readToken_16 ⟨by decide, by decide⟩ ?_
    exact ⟨by simp only [tokU, h10, if_true, if_false], by simp only [tokU, h10, if_true, if_false]⟩
theorem rdq {x : XS} {q k q' k' : Nat} {v : Int32} (h : q' ≠ q) : (setI x q k v).1 q' k' = x.1 q' k' := by rw [rdI, if_neg (fun z => h z.1)]
theorem setL_1 (x : XS) (q k : Nat) (v : Int64) : (setL x q k v).1 = x.1 := rfl
theorem skip_1 {q k : Nat} (h : ¬ (q = 3 ∧ k = 5)) : ∀ (n : Nat) (x : XS), (skipL n x).1 q k = x.1 q k
  | 0, _ => rfl
  | n + 1, x => by
    rw [skipL]
    repeat' split
    · rfl
    · rw [skip_1 h n, rdI, if_neg h]
    · rw [skip_1 h n, rdI, if_neg h]
    · rfl
theorem skip_2 : ∀ (n : Nat) (x : XS), (skipL n x).2 = x.2
  | 0, _ => rfl
  | n + 1, x => by
    rw [skipL]
    repeat' split
    · rfl
    · rw [skip_2 n]; rfl
    · rw [skip_2 n]; rfl
    · rfl
theorem num_1 {q k : Nat} (h : ¬ (q = 3 ∧ k = 5)) : ∀ (n : Nat) (x : XS), (numL n x).1 q k = x.1 q k
  | 0, _ => rfl
  | n + 1, x => by
    rw [numL]
    repeat' split
    · rfl
    · rw [num_1 h n, rdI, if_neg h]; rfl
    · rfl
theorem word_1 {q k : Nat} (h : ¬ (q = 3 ∧ k = 5)) : ∀ (n : Nat) (x : XS), (wordL n x).1 q k = x.1 q k
  | 0, _ => rfl
  | n + 1, x => by
    rw [wordL]
    repeat' split
    · rfl
    · rw [word_1 h n, rdI, if_neg h]; rfl
    · rfl
theorem tok_1 {x : XS} {q k : Nat} (h : ¬ (q = 3 ∧ k = 5)) : (tokU x).2.1 q k = x.1 q k := by
  unfold tokU
  simp only []
  repeat' split
  · rfl
  · rfl
  · exact word_1 h _ _
  · exact num_1 h _ _
  · unfold symU
    simp only []
    repeat' split
    all_goals simp only [rdI, h, if_false]

set_option maxHeartbeats 4000000 in
set_option maxRecDepth 100000 in
theorem c_X6_scan {g : Gx} {a : Nat → Nat} {x : XS}  : Mx g yX6_scan cX6_scan 3 none 5 0 0 LF a x [.ref (a 3), .ref (a 1)] (pr none (scanF x)) := by
  refine Mx_of (by decide +kernel) (Nat.le_of_ble_eq_true rfl) ?_
  intro k hk he hg
  subst hg

  have loop : ∀ (n r j : Nat) (kd : Int32) (y : XS), r < n → y.1 3 4 = nI j → r + j = 402 → scanL r kd y = scanF x → Wx k 0 0 LF a y 14 [(0, .ref (a 3)), (1, .ref (a 1)), (2, .int kd)] [] := by
    intro n
    induction n with
    | zero => intros; omega
    | succ n ih =>
      intro r j kd y hn hj hr hI
      obtain ⟨r, rfl⟩ | rfl : (∃ r2, r = r2 + 1) ∨ r = 0 := by cases r with | zero => exact Or.inr rfl | succ r => exact Or.inl ⟨r, rfl⟩
      rotate_left
      · have hbig : nI 401 ≤ y.1 3 4 := by rw [hj, nI_leI (by decide) (by omega)]; omega
        refine xaload_n hk dX6_scan_14 rfl ?_
        refine xgetI (ci := 6) (f := 4) hk dX6_scan_15 ⟨rfl, by decide, _, rfl, rfl⟩ kX6_49 ?_
        refine xaload_n hk dX6_scan_18 rfl ?_
        refine xgetR (ci := 6) (f := 1) hk dX6_scan_19 ⟨rfl, by decide, _, rfl, rfl⟩ kX6_19 ?_
        refine xalen (v := nI _) hk dX6_scan_22 rfl (by decide) rfl ?_
        refine xicmp_ge hk 105 dX6_scan_23 (by decide) (fun h23 => ?_) (fun h23 => ?_)
        · refine xvret hk he dX6_scan_105 ⟨by decide, by decide⟩ ?_
          exact ⟨rfl, hI⟩
        · exact absurd hbig h23
      rw [scanL] at hI
      refine xaload_n hk dX6_scan_14 rfl ?_
      refine xgetI (ci := 6) (f := 4) hk dX6_scan_15 ⟨rfl, by decide, _, rfl, rfl⟩ kX6_49 ?_
      refine xaload_n hk dX6_scan_18 rfl ?_
      refine xgetR (ci := 6) (f := 1) hk dX6_scan_19 ⟨rfl, by decide, _, rfl, rfl⟩ kX6_19 ?_
      refine xalen (v := nI _) hk dX6_scan_22 rfl (by decide) rfl ?_
      refine xicmp_ge hk 105 dX6_scan_23 (by decide) (fun h23 => ?_) (fun h23 => ?_)
      · rw [if_pos h23] at hI
        refine xvret hk he dX6_scan_105 ⟨by decide, by decide⟩ ?_
        exact ⟨rfl, hI⟩
      · rw [if_neg h23] at hI
        have hj4 : j < 401 := by rw [hj, nI_leI (by decide) (by omega)] at h23; omega
        refine xiload_n hk dX6_scan_26 rfl ?_
        refine xsipush (v := 260) hk dX6_scan_27 (by decide) ?_
        refine xicmp_eq hk 105 dX6_scan_30 (by decide) (fun h30 => ?_) (fun h30 => ?_)
        · rw [if_pos h30] at hI
          refine xvret hk he dX6_scan_105 ⟨by decide, by decide⟩ ?_
          exact ⟨rfl, hI⟩
        · rw [if_neg h30] at hI
          refine xiload_n hk dX6_scan_33 rfl ?_
          refine xsipush (v := 261) hk dX6_scan_34 (by decide) ?_
          refine xicmp_eq hk 105 dX6_scan_37 (by decide) (fun h37 => ?_) (fun h37 => ?_)
          · rw [if_pos h37] at hI
            refine xvret hk he dX6_scan_105 ⟨by decide, by decide⟩ ?_
            exact ⟨rfl, hI⟩
          · rw [if_neg h37] at hI
            have hs4 : (skipF y).1 3 4 = nI j := by rw [skipF, skip_1 (by decide), hj]
            refine xaload_n hk dX6_scan_40 rfl ?_
            refine xaload_n hk dX6_scan_41 rfl ?_
            refine xcallV hk c_X6_skipBlanks bX6_skipBlanks kX6_56 dX6_scan_42 rfl ⟨_, _, _, _, rfl, rfl⟩ rfl (by decide) ⟨by decide, by decide⟩ (Nat.le_of_ble_eq_true rfl) (det ?_)
            refine xaload_n hk dX6_scan_45 rfl ?_
            refine xgetR (ci := 6) (f := 2) hk dX6_scan_46 ⟨rfl, by decide, _, rfl, rfl⟩ kX6_23 ?_
            refine xaload_n hk dX6_scan_49 rfl ?_
            refine xgetI (ci := 6) (f := 4) hk dX6_scan_50 ⟨rfl, by decide, _, rfl, rfl⟩ kX6_49 ?_
            refine xaload_n hk dX6_scan_53 rfl ?_
            refine xgetI (ci := 6) (f := 5) hk dX6_scan_54 ⟨rfl, by decide, _, rfl, rfl⟩ kX6_53 ?_
            refine xiast hk dX6_scan_57 rfl (by rw [hs4]; exact vp_in_nI (by omega) (by decide)) ?_
            refine xaload_n hk dX6_scan_58 rfl ?_
            refine xlconst (v := 0) hk dX6_scan_59 (by decide) ?_
            refine xputL (ci := 6) (f := 6) hk dX6_scan_60 ⟨rfl, by decide, _, rfl, rfl⟩ kX6_60 ⟨rfl, by decide +kernel⟩ ?_
            refine xaload_n hk dX6_scan_63 rfl ?_
            refine xaload_n hk dX6_scan_64 rfl ?_
            refine xcallV hk c_X6_readToken bX6_readToken kX6_64 dX6_scan_65 rfl ⟨_, _, _, _, rfl, rfl⟩ rfl (by decide) ⟨by decide, by decide⟩ (Nat.le_of_ble_eq_true rfl) (det ?_)
            refine xistore_n hk dX6_scan_68 (by decide) ?_
            refine xaload_n hk dX6_scan_69 rfl ?_
            refine xgetR (ci := 6) (f := 1) hk dX6_scan_70 ⟨rfl, by decide, _, rfl, rfl⟩ kX6_19 ?_
            refine xaload_n hk dX6_scan_73 rfl ?_
            refine xgetI (ci := 6) (f := 4) hk dX6_scan_74 ⟨rfl, by decide, _, rfl, rfl⟩ kX6_49 ?_
            refine xiload_n hk dX6_scan_77 rfl ?_
            refine xiast hk dX6_scan_78 rfl (by rw [tok_1 (by decide), setL_1, rdq (by decide), hs4]; exact vp_in_nI (by omega) (by decide)) ?_
            refine xaload_n hk dX6_scan_79 rfl ?_
            refine xgetR (ci := 6) (f := 3) hk dX6_scan_80 ⟨rfl, by decide, _, rfl, rfl⟩ kX6_26 ?_
            refine xaload_n hk dX6_scan_83 rfl ?_
            refine xgetI (ci := 6) (f := 4) hk dX6_scan_84 ⟨rfl, by decide, _, rfl, rfl⟩ kX6_49 ?_
            refine xaload_n hk dX6_scan_87 rfl ?_
            refine xgetL (ci := 6) (f := 6) hk dX6_scan_88 ⟨rfl, by decide, _, rfl, rfl⟩ kX6_60 ?_
            refine xlast hk dX6_scan_91 rfl (by rw [rdq (by decide), tok_1 (by decide), setL_1, rdq (by decide), hs4]; exact vp_in_nI (by omega) (by decide)) ?_
            refine xaload_n hk dX6_scan_92 rfl ?_
            refine xdup hk dX6_scan_93 rfl ?_
            refine xgetI (ci := 6) (f := 4) hk dX6_scan_94 ⟨rfl, by decide, _, rfl, rfl⟩ kX6_49 ?_
            refine xiconst (v := 1) hk dX6_scan_97 (by decide) ?_
            refine xiadd hk dX6_scan_98 ?_
            refine xputI (ci := 6) (f := 4) hk dX6_scan_99 ⟨rfl, by decide, _, rfl, rfl⟩ kX6_49 ⟨rfl, by decide +kernel⟩ ?_
            refine xgoto hk 14 dX6_scan_102 (by decide) ?_
            refine ih r (j + 1) _ _ (by omega) ?_ (by omega) hI
            rw [rdI, if_pos ⟨rfl, rfl⟩, setL_1, rdq (by decide), tok_1 (by decide), setL_1, rdq (by decide), hs4]
            exact nI_1 j
  refine xaload_n hk dX6_scan_0 rfl ?_
  refine xiconst (v := 0) hk dX6_scan_1 (by decide) ?_
  refine xputI (ci := 6) (f := 4) hk dX6_scan_2 ⟨rfl, by decide, _, rfl, rfl⟩ kX6_49 ⟨rfl, by decide +kernel⟩ ?_
  refine xaload_n hk dX6_scan_5 rfl ?_
  refine xiconst (v := 0) hk dX6_scan_6 (by decide) ?_
  refine xputI (ci := 6) (f := 5) hk dX6_scan_7 ⟨rfl, by decide, _, rfl, rfl⟩ kX6_53 ⟨rfl, by decide +kernel⟩ ?_
  refine xsipush (v := 263) hk dX6_scan_10 (by decide) ?_
  refine xistore_n hk dX6_scan_13 (by decide) ?_
  exact loop 403 402 0 _ _ (by omega) rfl (by omega) rfl
