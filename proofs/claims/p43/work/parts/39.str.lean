theorem kJ0_38 : Cond.fieldLink RJ0 38 "java/lang/String" "COMPACT_STRINGS" "Z" ∈ GW := gw_mem 71 (by decide +kernel) (by decide +kernel)
theorem kJ0_15 : Cond.fieldLink RJ0 15 "java/lang/String" "coder" "B" ∈ GW := gw_mem 1368 (by decide +kernel) (by decide +kernel)
theorem kJ0_9 : Cond.fieldLink RJ0 9 "java/lang/String" "value" "[B" ∈ GW := gw_mem 1367 (by decide +kernel) (by decide +kernel)
theorem kJ0_335 : Cond.methodLink RJ0 335 yJ0_coder_7d493 ∈ GW := gw_mem 67 (by decide +kernel) (by decide +kernel)
theorem bJ0_coder_7d493 : CBv yJ0_coder_7d493 cJ0_coder_7d493 1 (some .byte) 0 := ⟨⟨gw_mem 70 (by decide +kernel) (by decide +kernel), gw_mem 3 (by decide +kernel) (by decide +kernel), by decide +kernel, by decide⟩, gw_mem 68 (by decide +kernel) (by decide +kernel), gw_mem 69 (by decide +kernel) (by decide +kernel)⟩
theorem kJ0_1053 : Cond.fieldLink RJ0 1053 "jdk/internal/util/Preconditions" "SIOOBE_FORMATTER" "Ljava/util/function/BiFunction;" ∈ GW := gw_mem 87 (by decide +kernel) (by decide +kernel)
theorem kJ0_1059 : Cond.methodLink RJ0 1059 yJ3_checkIndex_8e157 ∈ GW := gw_mem 89 (by decide +kernel) (by decide +kernel)
theorem bJ3_checkIndex_8e157 : CBs yJ3_checkIndex_8e157 cJ3_checkIndex_8e157 3 (some .int) 3 := ⟨⟨gw_mem 91 (by decide +kernel) (by decide +kernel), gw_mem 10 (by decide +kernel) (by decide +kernel), by decide +kernel, by decide⟩, gw_mem 90 (by decide +kernel) (by decide +kernel)⟩
theorem kJ1_9 : Cond.methodLink RJ1 9 yJ0_checkIndex_df160 ∈ GW := gw_mem 84 (by decide +kernel) (by decide +kernel)
theorem bJ0_checkIndex_df160 : CBs yJ0_checkIndex_df160 cJ0_checkIndex_df160 2 none 2 := ⟨⟨gw_mem 86 (by decide +kernel) (by decide +kernel), gw_mem 3 (by decide +kernel) (by decide +kernel), by decide +kernel, by decide⟩, gw_mem 85 (by decide +kernel) (by decide +kernel)⟩
theorem kJ0_492 : Cond.methodLink RJ0 492 yJ0_isLatin1_aae02 ∈ GW := gw_mem 77 (by decide +kernel) (by decide +kernel)
theorem bJ0_isLatin1_aae02 : CBv yJ0_isLatin1_aae02 cJ0_isLatin1_aae02 1 (some .boolean) 0 := ⟨⟨gw_mem 80 (by decide +kernel) (by decide +kernel), gw_mem 3 (by decide +kernel) (by decide +kernel), by decide +kernel, by decide⟩, gw_mem 78 (by decide +kernel) (by decide +kernel), gw_mem 79 (by decide +kernel) (by decide +kernel)⟩
theorem kJ0_495 : Cond.methodLink RJ0 495 yJ1_charAt_3b067 ∈ GW := gw_mem 81 (by decide +kernel) (by decide +kernel)
theorem bJ1_charAt_3b067 : CBs yJ1_charAt_3b067 cJ1_charAt_3b067 2 (some .char) 2 := ⟨⟨gw_mem 83 (by decide +kernel) (by decide +kernel), gw_mem 11 (by decide +kernel) (by decide +kernel), by decide +kernel, by decide⟩, gw_mem 82 (by decide +kernel) (by decide +kernel)⟩
/-! Texts and the static array of words -/
theorem xnret {k : Kx} {cc : ByteArray} {nL rk mc ms pc cells slots : Nat} {own nm : String} {ty : FieldType} {lay : List Kd} {a : Nat → Nat} {x : XS} {L : List (Nat × Value)} {post : Option Value → XS → Prop} (hk : Fok k cc nL own (some ty) nm rk mc ms) (he : Ends k lay a post mc ms) {v : Int32} (d : decode cc pc = .ok (.ireturn, 1)) (hc : cells ≤ mc ∧ slots ≤ ms) (hv : narrow ty (.int v) = .int v) (hp : post (some (.int v)) x) : Wx k cells slots lay a x pc L [.int v] := by
  rcases k with ⟨p, e, s, m, args, below, meth, c, Q, A, R, g⟩
  obtain ⟨hx, hb, hml, hown, hts, hr, hlk, hK, hA, hA0, hR, hSg, hnm, hb0⟩ := hk
  obtain ⟨rfl, rfl⟩ := he
  intro H locs ls hP hD hS hl
  refine W.widen hc.1 hc.2 ?_
  exact W.zret hx hb hr hv (fun t ht hW => ⟨⟨_, x, rfl, hp, by rw [ht]; exact hP⟩, hS.F ht⟩) hS.2.2 d hlk
section WT
variable {k : Kx} {cc : ByteArray} {nL rk mc ms pc cells slots : Nat} {own nm : String} {ret : Option FieldType} {lay : List Kd} {a : Nat → Nat} {x : XS} {L : List (Nat × Value)} {stk st0 : List Value} {post : Option Value → XS → Prop}
def sa (k : Kx) : Nat → Nat := (kg k).2.2.2.2
theorem inB_lt {i : Int32} {n : Nat} (h : inB i n = true) (hn : n < 2 ^ 31) : i.toNatClampNeg < n := by
  obtain ⟨c, hc, rfl⟩ := vp_in_of (inB_v h) hn
  rw [nI_clamp (by omega)]; exact hc
theorem xldcT (hk : Fok k cc nL own ret nm rk mc ms) {i idx : Nat} (d : decode cc pc = .ok (.ldc idx, 2)) (hi : (txt i).1 = own ∧ (txt i).2.1 = idx) (h41 : i < 42) (kk : Wx k cells slots lay a x (pc + 2) L (.ref (sa k (10 + i)) :: stk)) : Wx k cells slots lay a x pc L stk := by
  rcases k with ⟨p, e, s, m, args, below, meth, c, Q, A, R, g⟩
  obtain ⟨hx, hb, hml, hown, hts, hr, hlk, hK, hA, hA0, hR, hSg, hnm, hb0⟩ := hk
  obtain ⟨rfl, rfl⟩ := hi
  intro H locs ls hP hD hS hl
  exact va_ldcS hx hb hown (hSg.2.2.2.1.2.2.1 i h41) d (kk H locs ls hP hD hS hl)
theorem xcompact (hk : Fok k cc nL own ret nm rk mc ms) {idx : Nat} (d : decode cc pc = .ok (.getstatic idx, 3)) (hw : Cond.fieldLink own idx "java/lang/String" "COMPACT_STRINGS" "Z" ∈ GW) (kk : Wx k cells slots lay a x (pc + 3) L (.int 1 :: stk)) : Wx k cells slots lay a x pc L stk := by
  rcases k with ⟨p, e, s, m, args, below, meth, c, Q, A, R, g⟩
  obtain ⟨hx, hb, hml, hown, hts, hr, hlk, hK, hA, hA0, hR, hSg, hnm, hb0⟩ := hk
  intro H locs ls hP hD hS hl
  exact va_gets hx hb (hSg.2.2.2.1.1.2.2.1.narrow hA0) hS hown (hts _ hw) (fun _ h => h) d (kk H locs ls hP hD hS hl)
theorem xformatter (hk : Fok k cc nL own ret nm rk mc ms) {idx : Nat} (d : decode cc pc = .ok (.getstatic idx, 3)) (hw : Cond.fieldLink own idx "jdk/internal/util/Preconditions" "SIOOBE_FORMATTER" "Ljava/util/function/BiFunction;" ∈ GW) (kk : ∀ v : Value, (v = .null ∨ ∃ t : Nat, v = .ref t) → Wx k cells slots lay a x (pc + 3) L (v :: stk)) : Wx k cells slots lay a x pc L stk := by
  rcases k with ⟨p, e, s, m, args, below, meth, c, Q, A, R, g⟩
  obtain ⟨hx, hb, hml, hown, hts, hr, hlk, hK, hA, hA0, hR, hSg, hnm, hb0⟩ := hk
  intro H locs ls hP hD hS hl
  rcases hSg.2.2.2.1.1.2.2.2.narrow hA0 with hz | ⟨t, hz⟩
  · exact va_gets hx hb hz hS hown (hts _ hw) (fun _ h => h) d (kk _ (Or.inl rfl) H locs ls hP hD hS hl)
  · exact va_gets hx hb hz hS hown (hts _ hw) (fun _ h => h) d (kk _ (Or.inr ⟨t, rfl⟩) H locs ls hP hD hS hl)
theorem xtxtCoder (hk : Fok k cc nL own ret nm rk mc ms) {i idx : Nat} (hi : i < 30) (d : decode cc pc = .ok (.getfield idx, 3)) (hw : Cond.fieldLink own idx "java/lang/String" "coder" "B" ∈ GW) (kk : Wx k cells slots lay a x (pc + 3) L (.int 0 :: stk)) : Wx k cells slots lay a x pc L (.ref (sa k (10 + i)) :: stk) := by
  rcases k with ⟨p, e, s, m, args, below, meth, c, Q, A, R, g⟩
  obtain ⟨hx, hb, hml, hown, hts, hr, hlk, hK, hA, hA0, hR, hSg, hnm, hb0⟩ := hk
  intro H locs ls hP hD hS hl
  exact vk_getf hx hb (((hSg.2.2.2.1.2.1 i hi).narrow hA0).2.1) hS hown (hts _ hw) (fun _ h => h) d (kk H locs ls hP hD hS hl)
theorem xtxtValue (hk : Fok k cc nL own ret nm rk mc ms) {i idx : Nat} (hi : i < 30) (d : decode cc pc = .ok (.getfield idx, 3)) (hw : Cond.fieldLink own idx "java/lang/String" "value" "[B" ∈ GW) (kk : Wx k cells slots lay a x (pc + 3) L (.ref (sa k (60 + i)) :: stk)) : Wx k cells slots lay a x pc L (.ref (sa k (10 + i)) :: stk) := by
  rcases k with ⟨p, e, s, m, args, below, meth, c, Q, A, R, g⟩
  obtain ⟨hx, hb, hml, hown, hts, hr, hlk, hK, hA, hA0, hR, hSg, hnm, hb0⟩ := hk
  intro H locs ls hP hD hS hl
  exact vk_getf hx hb (((hSg.2.2.2.1.2.1 i hi).narrow hA0).2.2.1) hS hown (hts _ hw) (fun _ h => h) d (kk H locs ls hP hD hS hl)
def lenT (i : Nat) : Int32 := Int32.ofNat (txB i).length
theorem xbytesLen (hk : Fok k cc nL own ret nm rk mc ms) {i : Nat} (hi : i < 30) (d : decode cc pc = .ok (.arraylength, 1)) (kk : Wx k cells slots lay a x (pc + 1) L (.int (lenT i) :: stk)) : Wx k cells slots lay a x pc L (.ref (sa k (60 + i)) :: stk) := by
  rcases k with ⟨p, e, s, m, args, below, meth, c, Q, A, R, g⟩
  obtain ⟨hx, hb, hml, hown, hts, hr, hlk, hK, hA, hA0, hR, hSg, hnm, hb0⟩ := hk
  intro H locs ls hP hD hS hl
  exact va_tlen hx hb (((hSg.2.2.2.1.2.1 i hi).narrow hA0).2.2.2) hS rfl d (kk H locs ls hP hD hS hl)
def byT (i : Nat) (j : Int32) : Int32 := (txB i).getD j.toNatClampNeg 0
theorem xbytesGet (hk : Fok k cc nL own ret nm rk mc ms) {i : Nat} {j : Int32} (hi : i < 30) (d : decode cc pc = .ok (.baload, 1)) (hj : vp_in j (txB i).length) (kk : Wx k cells slots lay a x (pc + 1) L (.int (byT i j) :: stk)) : Wx k cells slots lay a x pc L (.int j :: .ref (sa k (60 + i)) :: stk) := by
  rcases k with ⟨p, e, s, m, args, below, meth, c, Q, A, R, g⟩
  obtain ⟨hx, hb, hml, hown, hts, hr, hlk, hK, hA, hA0, hR, hSg, hnm, hb0⟩ := hk
  intro H locs ls hP hD hS hl
  exact va_tb hx hb (((hSg.2.2.2.1.2.1 i hi).narrow hA0).2.2.2) hS hj rfl d (kk H locs ls hP hD hS hl)
theorem xcallT (hk : Fok k cc nL own ret nm rk mc ms) {y : MethodName} {cy : ByteArray} {nLy rky mcy msy n idx i : Nat} {rety : Option FieldType} {As : List Value} (M : Mx (kg k) y cy nLy rety rky mcy msy lay a x (.ref (sa k (10 + i)) :: As) post) (cb : CBv y cy nLy rety n) (hw : Cond.methodLink own idx y ∈ GW) (d : decode cc pc = .ok (.invokevirtual idx, 3)) (hs : st0 = As.reverse ++ .ref (sa k (10 + i)) :: stk) (hi : i < 30) (hcl : y.cls = "java/lang/String") (hn : As.length = n) (hrk : rky < rk) (hc : cells + mcy ≤ mc ∧ slots + msy ≤ ms) (hst : (stk.map fun v => v.category).sum ≤ 8)
    (kk : ∀ (v : Option Value) (x' : XS), post v x' → Wx k (cells + mcy) (slots + msy) lay a x' (pc + 3) L (v.toList ++ stk)) : Wx k cells slots lay a x pc L st0 := by
  rcases k with ⟨p, e, s, m, args, below, meth, c, Q, A, R, g⟩
  obtain ⟨hx, hb, hml, hown, hts, hr, hlk, hK, hA, hA0, hR, hSg, hnm, hb0⟩ := hk
  obtain ⟨⟨hcode, hini, hd, h45⟩, hinst, hsel⟩ := cb
  subst hs
  intro H locs ls hP hD hS hl
  have hRR := room_in (mcy := mcy) (msy := msy) hR hrk h45
  obtain ⟨cell, c1, c2, c3, -⟩ := ((hSg.2.2.2.1.2.1 i hi).narrow hA0).1.kept hS.2.1
  exact xgo hA (va_runV (ws := Cond.code y cy nLy rety :: GW) (rm := roomX rky mcy msy) (Ts := GW) (own := own) (C := y.cls) (cc := cc) (nL := nL) (As := As) (rest := stk) (n := n) ⟨hx, hb, hml, hown, hts⟩ (M H.size) ⟨callB_of n hts (goodIn_self hcode) rfl rfl rfl (hts _ hini) (hts _ hw) hd hRR, hts _ hinst, hts _ hsel⟩
    ⟨preX_blind _ _ _ _ _ _, ⟨cell, c1, c2, by rw [hcl]; exact c3⟩, preX_at hK hb0 hA0 hSg hP hD hS⟩ rfl hn (hl.1.trans hml) rfl (lv_room hst) d (by subst hR; exact hc)) hD hS hl kk
end WT
theorem txB_small : ∀ i < 30, ∀ b ∈ txB i, b.toUInt32.toUInt16.toUInt32.toInt32 = b ∧ ((b &&& 255).toUInt32 % 65536).toInt32 = b := by decide +kernel
theorem lenT_lt : ∀ i < 30, (txB i).length < 200 := by decide +kernel
theorem byT_n {i : Nat} {j : Int32} (hi : i < 30) (hj : vp_in j (txB i).length) : narrow .char (.int (byT i j)) = .int (byT i j) := by
  obtain ⟨c, hc, rfl⟩ := vp_in_of hj (by have := lenT_lt i hi; omega)
  have : (txB i).getD c 0 ∈ txB i := by
    rw [List.getD, List.getElem?_eq_getElem hc]; exact List.getElem_mem hc
  rw [byT, nI_clamp (by have := lenT_lt i hi; omega)]
  show Value.int _ = _
  rw [(txB_small i hi _ this).1]
theorem byT_c {i : Nat} {j : Int32} (hi : i < 30) (hj : vp_in j (txB i).length) : ((byT i j &&& 255).toUInt32 % 65536).toInt32 = byT i j := by
  obtain ⟨c, hc, rfl⟩ := vp_in_of hj (by have := lenT_lt i hi; omega)
  have : (txB i).getD c 0 ∈ txB i := by
    rw [List.getD, List.getElem?_eq_getElem hc]; exact List.getElem_mem hc
  rw [byT, nI_clamp (by have := lenT_lt i hi; omega)]
  exact (txB_small i hi _ this).2
def chT (i : Nat) (j : Int32) : Int32 := byT i j
/-- where a byte first stands in a text, -1 nowhere: from j on, n more -/
def ixL (i : Nat) (b : Int32) : Nat → Nat → Int32
  | 0, _ => -1
  | n + 1, j => if byT i (nI j) = b then nI j else ixL i b n (j + 1)
def ixT (i : Nat) (v : Int32) : Int32 := if v < 0 then -1 else if 255 < v then -1 else ixL i v.toInt8.toInt32 (txB i).length 0

set_option maxHeartbeats 4000000 in
set_option maxRecDepth 100000 in
theorem c_coder {g : Gx} {a : Nat → Nat} {x : XS} {lay : List Kd} {i : Nat} (hi : i < 30)  : Mx g yJ0_coder_7d493 cJ0_coder_7d493 1 (some .byte) 1 0 0 lay a x [.ref (g.2.2.2.2 (10 + i))] (pr (some (.int 0)) x) := by
  refine Mx_of (by decide +kernel) (Nat.le_of_ble_eq_true rfl) ?_
  intro k hk he hg
  subst hg
  refine xcompact hk dJ0_coder_7d493_0 kJ0_38 ?_
  refine xif_eq hk 13 dJ0_coder_7d493_3 (by decide) (fun h => ?_) (fun h => ?_)
  · exact absurd h (by decide)
  refine xaload_n hk dJ0_coder_7d493_6 rfl ?_
  refine xtxtCoder hk hi dJ0_coder_7d493_7 kJ0_15 ?_
  refine xgoto hk 14 dJ0_coder_7d493_10 (by decide) ?_
  refine xnret hk he dJ0_coder_7d493_14 ⟨by decide, by decide⟩ rfl ?_
  exact ⟨rfl, rfl⟩
set_option maxHeartbeats 4000000 in
set_option maxRecDepth 100000 in
theorem c_isLatin1 {g : Gx} {a : Nat → Nat} {x : XS} {lay : List Kd} {i : Nat} (hi : i < 30)  : Mx g yJ0_isLatin1_aae02 cJ0_isLatin1_aae02 1 (some .boolean) 1 0 0 lay a x [.ref (g.2.2.2.2 (10 + i))] (pr (some (.int 1)) x) := by
  refine Mx_of (by decide +kernel) (Nat.le_of_ble_eq_true rfl) ?_
  intro k hk he hg
  subst hg
  refine xcompact hk dJ0_isLatin1_aae02_0 kJ0_38 ?_
  refine xif_eq hk 17 dJ0_isLatin1_aae02_3 (by decide) (fun h => ?_) (fun h => ?_)
  · exact absurd h (by decide)
  refine xaload_n hk dJ0_isLatin1_aae02_6 rfl ?_
  refine xtxtCoder hk hi dJ0_isLatin1_aae02_7 kJ0_15 ?_
  refine xif_ne hk 17 dJ0_isLatin1_aae02_10 (by decide) (fun h => ?_) (fun h => ?_)
  · exact absurd rfl h
  refine xiconst (v := 1) hk dJ0_isLatin1_aae02_13 (by decide) ?_
  refine xgoto hk 18 dJ0_isLatin1_aae02_14 (by decide) ?_
  refine xnret hk he dJ0_isLatin1_aae02_18 ⟨by decide, by decide⟩ rfl ?_
  exact ⟨rfl, rfl⟩
set_option maxHeartbeats 4000000 in
set_option maxRecDepth 100000 in
theorem c_length {g : Gx} {a : Nat → Nat} {x : XS} {lay : List Kd} {i : Nat} (hi : i < 30)  : Mx g yJ0_length_8abf5 cJ0_length_8abf5 1 (some .int) 2 0 0 lay a x [.ref (g.2.2.2.2 (10 + i))] (pr (some (.int (lenT i))) x) := by
  refine Mx_of (by decide +kernel) (Nat.le_of_ble_eq_true rfl) ?_
  intro k hk he hg
  subst hg
  refine xaload_n hk dJ0_length_8abf5_0 rfl ?_
  refine xtxtValue hk hi dJ0_length_8abf5_1 kJ0_9 ?_
  refine xbytesLen hk hi dJ0_length_8abf5_4 ?_
  refine xaload_n hk dJ0_length_8abf5_5 rfl ?_
  refine xcallT hk (c_coder hi) bJ0_coder_7d493 kJ0_335 dJ0_length_8abf5_6 rfl hi rfl rfl (by decide) ⟨by decide, by decide⟩ (Nat.le_of_ble_eq_true rfl) (det ?_)
  refine xishr hk dJ0_length_8abf5_9 ?_
  refine xiret hk he dJ0_length_8abf5_10 ⟨by decide, by decide⟩ ?_
  exact ⟨by rw [show (0 : Int32) &&& 31 = 0 from rfl]; simp, rfl⟩
set_option maxHeartbeats 4000000 in
set_option maxRecDepth 100000 in
theorem c_pre_0 {g : Gx} {a : Nat → Nat} {x : XS} {lay : List Kd} {j n : Int32} {t : Nat} (h0 : ¬ j < 0) (h1 : j < n) : Mx g yJ3_checkIndex_8e157 cJ3_checkIndex_8e157 3 (some .int) 1 0 0 lay a x [.int j, .int n, .null] (pr (some (.int j)) x) := by
  refine Mx_of (by decide +kernel) (Nat.le_of_ble_eq_true rfl) ?_
  intro k hk he hg
  subst hg
  refine xiload_n hk dJ3_checkIndex_8e157_0 rfl ?_
  refine xif_lt hk 9 dJ3_checkIndex_8e157_1 (by decide) (fun h => ?_) (fun h => ?_)
  · exact absurd h h0
  refine xiload_n hk dJ3_checkIndex_8e157_4 rfl ?_
  refine xiload_n hk dJ3_checkIndex_8e157_5 rfl ?_
  refine xicmp_lt hk 16 dJ3_checkIndex_8e157_6 (by decide) (fun h => ?_) (fun h => ?_)
  · refine xiload_n hk dJ3_checkIndex_8e157_16 rfl ?_
    refine xiret hk he dJ3_checkIndex_8e157_17 ⟨by decide, by decide⟩ ?_
    exact ⟨rfl, rfl⟩
  · exact absurd h1 h
set_option maxHeartbeats 4000000 in
set_option maxRecDepth 100000 in
theorem c_pre_1 {g : Gx} {a : Nat → Nat} {x : XS} {lay : List Kd} {j n : Int32} {t : Nat} (h0 : ¬ j < 0) (h1 : j < n) : Mx g yJ3_checkIndex_8e157 cJ3_checkIndex_8e157 3 (some .int) 1 0 0 lay a x [.int j, .int n, .ref t] (pr (some (.int j)) x) := by
  refine Mx_of (by decide +kernel) (Nat.le_of_ble_eq_true rfl) ?_
  intro k hk he hg
  subst hg
  refine xiload_n hk dJ3_checkIndex_8e157_0 rfl ?_
  refine xif_lt hk 9 dJ3_checkIndex_8e157_1 (by decide) (fun h => ?_) (fun h => ?_)
  · exact absurd h h0
  refine xiload_n hk dJ3_checkIndex_8e157_4 rfl ?_
  refine xiload_n hk dJ3_checkIndex_8e157_5 rfl ?_
  refine xicmp_lt hk 16 dJ3_checkIndex_8e157_6 (by decide) (fun h => ?_) (fun h => ?_)
  · refine xiload_n hk dJ3_checkIndex_8e157_16 rfl ?_
    refine xiret hk he dJ3_checkIndex_8e157_17 ⟨by decide, by decide⟩ ?_
    exact ⟨rfl, rfl⟩
  · exact absurd h1 h
theorem c_pre {g : Gx} {a : Nat → Nat} {x : XS} {lay : List Kd} {j n : Int32} {v : Value} (hv : v = .null ∨ ∃ t : Nat, v = .ref t) (h0 : ¬ j < 0) (h1 : j < n) : Mx g yJ3_checkIndex_8e157 cJ3_checkIndex_8e157 3 (some .int) 1 0 0 lay a x [.int j, .int n, v] (pr (some (.int j)) x) := by
  rcases hv with rfl | ⟨t, rfl⟩
  · exact c_pre_0 (t := 0) h0 h1
  · exact c_pre_1 h0 h1
set_option maxHeartbeats 4000000 in
set_option maxRecDepth 100000 in
theorem c_checkIndex {g : Gx} {a : Nat → Nat} {x : XS} {lay : List Kd} {j n : Int32} (h0 : ¬ j < 0) (h1 : j < n) : Mx g yJ0_checkIndex_df160 cJ0_checkIndex_df160 2 none 2 0 0 lay a x [.int j, .int n] (pr none x) := by
  refine Mx_of (by decide +kernel) (Nat.le_of_ble_eq_true rfl) ?_
  intro k hk he hg
  subst hg
  refine xiload_n hk dJ0_checkIndex_df160_0 rfl ?_
  refine xiload_n hk dJ0_checkIndex_df160_1 rfl ?_
  refine xformatter hk dJ0_checkIndex_df160_2 kJ0_1053 (fun v hv => ?_)
  refine xcallS hk (c_pre hv h0 h1) bJ3_checkIndex_8e157 kJ0_1059 dJ0_checkIndex_df160_5 rfl rfl (by decide) ⟨by decide, by decide⟩ (Nat.le_of_ble_eq_true rfl) (det ?_)
  refine xpop hk dJ0_checkIndex_df160_8 rfl ?_
  refine xvret hk he dJ0_checkIndex_df160_9 ⟨by decide, by decide⟩ ?_
  exact ⟨rfl, rfl⟩
set_option maxHeartbeats 4000000 in
set_option maxRecDepth 100000 in
theorem c_l1_charAt {g : Gx} {a : Nat → Nat} {x : XS} {lay : List Kd} {i : Nat} (hi : i < 30) {j : Int32} (hj : vp_in j (txB i).length) : Mx g yJ1_charAt_3b067 cJ1_charAt_3b067 2 (some .char) 3 0 0 lay a x [.ref (g.2.2.2.2 (60 + i)), .int j] (pr (some (.int (byT i j))) x) := by
  refine Mx_of (by decide +kernel) (Nat.le_of_ble_eq_true rfl) ?_
  intro k hk he hg
  subst hg
  have hl2 := lenT_lt i hi
  have h01 : ¬ j < 0 ∧ j < lenT i := by
    obtain ⟨q, hq, rfl⟩ := vp_in_of hj (by omega)
    exact ⟨fun z => hj (Or.inl z), by rw [lenT, show Int32.ofNat (txB i).length = nI (txB i).length from rfl, nI_ltI (by omega) (by omega)]; exact hq⟩
  refine xiload_n hk dJ1_charAt_3b067_0 rfl ?_
  refine xaload_n hk dJ1_charAt_3b067_1 rfl ?_
  refine xbytesLen hk hi dJ1_charAt_3b067_2 ?_
  refine xcallS hk (c_checkIndex h01.1 h01.2) bJ0_checkIndex_df160 kJ1_9 dJ1_charAt_3b067_3 rfl rfl (by decide) ⟨by decide, by decide⟩ (Nat.le_of_ble_eq_true rfl) (det ?_)
  refine xaload_n hk dJ1_charAt_3b067_6 rfl ?_
  refine xiload_n hk dJ1_charAt_3b067_7 rfl ?_
  refine xbytesGet hk hi dJ1_charAt_3b067_8 hj ?_
  refine xsipush (v := 255) hk dJ1_charAt_3b067_9 (by decide) ?_
  refine xiand hk dJ1_charAt_3b067_12 ?_
  refine xi2c hk dJ1_charAt_3b067_13 ?_
  rw [byT_c hi hj]
  refine xnret hk he dJ1_charAt_3b067_14 ⟨by decide, by decide⟩ (byT_n hi hj) ?_
  exact ⟨rfl, rfl⟩
set_option maxHeartbeats 4000000 in
set_option maxRecDepth 100000 in
theorem c_charAt {g : Gx} {a : Nat → Nat} {x : XS} {lay : List Kd} {i : Nat} (hi : i < 30) {j : Int32} (hj : vp_in j (txB i).length) : Mx g yJ0_charAt_5068e cJ0_charAt_5068e 2 (some .char) 4 0 0 lay a x [.ref (g.2.2.2.2 (10 + i)), .int j] (pr (some (.int (chT i j))) x) := by
  refine Mx_of (by decide +kernel) (Nat.le_of_ble_eq_true rfl) ?_
  intro k hk he hg
  subst hg
  refine xaload_n hk dJ0_charAt_5068e_0 rfl ?_
  refine xcallT hk (c_isLatin1 hi) bJ0_isLatin1_aae02 kJ0_492 dJ0_charAt_5068e_1 rfl hi rfl rfl (by decide) ⟨by decide, by decide⟩ (Nat.le_of_ble_eq_true rfl) (det ?_)
  refine xif_eq hk 16 dJ0_charAt_5068e_4 (by decide) (fun h => ?_) (fun h => ?_)
  · exact absurd h (by decide)
  refine xaload_n hk dJ0_charAt_5068e_7 rfl ?_
  refine xtxtValue hk hi dJ0_charAt_5068e_8 kJ0_9 ?_
  refine xiload_n hk dJ0_charAt_5068e_11 rfl ?_
  refine xcallS hk (c_l1_charAt hi hj) bJ1_charAt_3b067 kJ0_495 dJ0_charAt_5068e_12 rfl rfl (by decide) ⟨by decide, by decide⟩ (Nat.le_of_ble_eq_true rfl) (det ?_)
  refine xnret hk he dJ0_charAt_5068e_15 ⟨by decide, by decide⟩ (byT_n hi hj) ?_
  exact ⟨rfl, rfl⟩
