theorem bJ0_getBytes_840e7 : CBv yJ0_getBytes_840e7 cJ0_getBytes_840e7 4 none 3 := ⟨⟨gw_mem 1266 (by decide +kernel) (by decide +kernel), gw_mem 3 (by decide +kernel) (by decide +kernel), by decide +kernel, by decide⟩, gw_mem 1264 (by decide +kernel) (by decide +kernel), gw_mem 1265 (by decide +kernel) (by decide +kernel)⟩
theorem bJ5_inflateIfNeededFor_a7421 : CBr yJ5_inflateIfNeededFor_a7421 cJ5_inflateIfNeededFor_a7421 2 none 1 := ⟨⟨gw_mem 1235 (by decide +kernel) (by decide +kernel), gw_mem 1 (by decide +kernel) (by decide +kernel), by decide +kernel, by decide⟩, gw_mem 1234 (by decide +kernel) (by decide +kernel), .inr (nw_mem 1233 (by decide +kernel) rfl)⟩
theorem kJ5_40 : Cond.methodLink RJ5 40 yJ0_coder_7d493 ∈ GW := gw_mem 1236 (by decide +kernel) (by decide +kernel)
theorem bJ5_putStringAt_47b60 : CBr yJ5_putStringAt_47b60 cJ5_putStringAt_47b60 3 none 2 := ⟨⟨gw_mem 1231 (by decide +kernel) (by decide +kernel), gw_mem 1 (by decide +kernel) (by decide +kernel), by decide +kernel, by decide⟩, gw_mem 1230 (by decide +kernel) (by decide +kernel), .inr (nw_mem 1229 (by decide +kernel) rfl)⟩
theorem kJ5_397 : Cond.methodLink RJ5 397 yJ5_inflateIfNeededFor_a7421 ∈ GW := gw_mem 1232 (by decide +kernel) (by decide +kernel)
theorem kJ5_399 : Cond.methodLink RJ5 399 yJ0_getBytes_840e7 ∈ GW := gw_mem 1263 (by decide +kernel) (by decide +kernel)
/-! Texts: static or made -/
def StrD (lay : List Kd) (x : XS) (p w : Nat) (ts : List Int32) : Prop := lay[p]? = some (.inl (10, [w + 3, 0, 0, 0])) ∧ lay[w]? = some (.inr (2, ts.length)) ∧ x.1 p 1 = 0 ∧ ∀ j, j < ts.length → x.1 w j = ts.getD j 0
def StrR (s : Nat → Nat) (lay : List Kd) (a : Nat → Nat) (x : XS) (r : Nat) (ts : List Int32) : Prop := (∃ i, i < 30 ∧ r = s (10 + i) ∧ ts = txB i) ∨ ∃ p w, StrD lay x p w ts ∧ r = a p
/-- bytes of a text -/
def Asc (ts : List Int32) : Prop := ∀ b ∈ ts, ∃ n, n < 128 ∧ b = nI n
theorem asc_fit : ∀ n, n < 128 → fits .byte (.int (nI n)) = true := by decide +kernel
theorem txB_asc : ∀ i, i < 30 → ∀ b ∈ txB i, b.toNatClampNeg < 128 ∧ b = nI b.toNatClampNeg := by decide +kernel
theorem asc_tx {i : Nat} (h : i < 30) : Asc (txB i) := fun b hb => ⟨_, (txB_asc i h b hb).1, (txB_asc i h b hb).2⟩
theorem Asc.fit {ts : List Int32} (h : Asc ts) {j : Nat} (hj : j < ts.length) : fits .byte (.int (ts.getD j 0)) = true := by
  have hm : ts.getD j 0 ∈ ts := by rw [List.getD, List.getElem?_eq_getElem hj]; exact List.getElem_mem hj
  obtain ⟨n, hn, e⟩ := h _ hm
  rw [e]; exact asc_fit n hn
theorem Asc.app {s t : List Int32} (h1 : Asc s) (h2 : Asc t) : Asc (s ++ t) := fun b hb => by
  rcases List.mem_append.mp hb with h | h
  · exact h1 b h
  · exact h2 b h
/-- bytes put in from d on -/
def GbP (x : XS) (v d : Nat) (ts : List Int32) (x' : XS) : Prop := ∃ f, x' = setF x v f ∧ ∀ j, f j = if d ≤ j ∧ j < d + ts.length then ts.getD (j - d) 0 else x.1 v j
def GbE (x : XS) (v d : Nat) (ts : List Int32) : Option Value → XS → Prop := fun r x' => r = none ∧ GbP x v d ts x'
section WST
variable {k : Kx} {cc : ByteArray} {nL rk mc ms pc cells slots : Nat} {own nm : String} {ret : Option FieldType} {lay : List Kd} {a : Nat → Nat} {x : XS} {L : List (Nat × Value)} {stk st0 : List Value} {post : Option Value → XS → Prop}
theorem xcallStr (hk : Fok k cc nL own ret nm rk mc ms) {y : MethodName} {cy : ByteArray} {nLy rky mcy msy n idx r : Nat} {rety : Option FieldType} {As : List Value} {ts : List Int32} (hS : StrR (kg k).2.2.2.2 lay a x r ts) (M : Mx (kg k) y cy nLy rety rky mcy msy lay a x (.ref r :: As) post) (cb : CBv y cy nLy rety n) (hw : Cond.methodLink own idx y ∈ GW) (d : decode cc pc = .ok (.invokevirtual idx, 3)) (hs : st0 = As.reverse ++ .ref r :: stk) (hcl : y.cls = "java/lang/String") (hn : As.length = n) (hrk : rky < rk) (hc : cells + mcy ≤ mc ∧ slots + msy ≤ ms) (hst : (stk.map fun v => v.category).sum ≤ 8)
    (kk : ∀ (v : Option Value) (x' : XS), post v x' → Wx k (cells + mcy) (slots + msy) lay a x' (pc + 3) L (v.toList ++ stk)) : Wx k cells slots lay a x pc L st0 := by
  rcases hS with ⟨i, hi, rfl, rfl⟩ | ⟨p, w, hD, rfl⟩
  · exact xcallT hk M cb hw d hs hi hcl hn hrk hc hst kk
  · exact xcallV hk M cb hw d hs ⟨_, _, _, _, hD.1, by rw [hcl]; rfl⟩ hn hrk hc hst kk
/-- what a builder's class has of its own where its parent is named -/
theorem xcallO (hk : Fok k cc nL own ret nm rk mc ms) {y0 y : MethodName} {c0 cy : ByteArray} {n0 nLy rky mcy msy n idx q : Nat} {ret0 rety : Option FieldType} {As : List Value} {ft : List Nat} (M : Mx (kg k) y cy nLy rety rky mcy msy lay a x (.ref (a q) :: As) post) (hcode : Cond.code y cy nLy rety ∈ GW) (hini : Cond.initialized y.cls ∈ GW) (hinst : Cond.instanceMethod y ∈ GW) (hi0 : Cond.instanceMethod y0 ∈ GW) (hc0 : Cond.code y0 c0 n0 ret0 ∈ GW) (hsame : Cond.sameMethod y0.cls y0.cls y0.name y0.desc ∈ GW) (hsel : Cond.selects RJ4 y0 y ∈ GW) (hd : y0.cls ≠ "java/lang/invoke/MethodHandle" ∧ y0.cls ≠ "java/lang/invoke/VarHandle" ∧ (parseMethodDescriptor y0.desc).map (fun d => d.parameters.length) = some n) (h45 : nLy ≤ 45) (hw : Cond.methodLink own idx y0 ∈ GW) (d : decode cc pc = .ok (.invokevirtual idx, 3)) (hs : st0 = As.reverse ++ .ref (a q) :: stk) (hq : lay[q]? = some (.inl (11, ft))) (hn : As.length = n) (hrk : rky < rk) (hc : cells + mcy ≤ mc ∧ slots + msy ≤ ms) (hst : (stk.map fun v => v.category).sum ≤ 8)
    (kk : ∀ (v : Option Value) (x' : XS), post v x' → Wx k (cells + mcy) (slots + msy) lay a x' (pc + 3) L (v.toList ++ stk)) : Wx k cells slots lay a x pc L st0 := by
  rcases k with ⟨p, e, s, m, args, below, meth, c, Q, A, R, g⟩
  obtain ⟨hx, hb, hml, hown, hts, hr, hlk, hK, hA, hA0, hR, hSg, hnm, hb0⟩ := hk
  subst hs
  intro H locs ls hP hD hS hl
  have hRR := room_in (mcy := mcy) (msy := msy) hR hrk h45
  exact xgo hA (va_runU (x := y0) (owner := y0.cls) (ws := Cond.code y cy nLy rety :: GW) (rm := roomX rky mcy msy) (Ts := GW) (own := own) (C := RJ4) (cc := cc) (nL := nL) (As := As) (rest := stk) (n := n) ⟨hx, hb, hml, hown, hts⟩ (M H.size) ⟨⟨rfl, rfl, hRR.1, hRR.2, pay_in hts (goodIn_self hcode), List.mem_cons_self⟩, hts _ hcode, hts _ hini, ⟨hd.1, hd.2.1⟩, fun sig h => by have h2 := hd.2.2; rw [h] at h2; exact (Option.some.inj h2).symm, hts _ hw, hts _ hsame, va_Decl.of (hts _ hi0) (hts _ hc0), hts _ hsel, hts _ hinst⟩
    ⟨preX_blind _ _ _ _ _ _, va_recv hK hP (ci := 11) (q0 := q) rfl (wl_getO hq rfl), preX_at hK hb0 hA0 hSg hP hD hS⟩ rfl hn (hl.1.trans hml) rfl (lv_room hst) d (by subst hR; exact hc)) hD hS hl kk
end WST
set_option maxHeartbeats 4000000 in
set_option maxRecDepth 100000 in
theorem c_coderD {g : Gx} {a : Nat → Nat} {x : XS} {lay : List Kd} {p w : Nat} {ts : List Int32} (hD : StrD lay x p w ts) : Mx g yJ0_coder_7d493 cJ0_coder_7d493 1 (some .byte) 1 0 0 lay a x [.ref (a p)] (pr (some (.int 0)) x) := by
  refine Mx_of (by decide +kernel) (Nat.le_of_ble_eq_true rfl) ?_
  intro k hk he hg
  subst hg
  refine xcompact hk dJ0_coder_7d493_0 kJ0_38 ?_
  refine xif_eq hk 13 dJ0_coder_7d493_3 (by decide) (fun h3 => ?_) (fun h3 => ?_)
  · exact absurd h3 (by decide)
  · refine xaload_n hk dJ0_coder_7d493_6 rfl ?_
    refine xgetI (ci := 10) (f := 1) hk dJ0_coder_7d493_7 ⟨rfl, by decide, _, hD.1, rfl⟩ kJ0_15 ?_
    rw [hD.2.2.1]
    refine xgoto hk 14 dJ0_coder_7d493_10 (by decide) ?_
    refine xnret hk he dJ0_coder_7d493_14 ⟨by decide, by decide⟩ rfl ?_
    exact ⟨rfl, rfl⟩
theorem c_coderR {g : Gx} {a : Nat → Nat} {x : XS} {lay : List Kd} {r : Nat} {ts : List Int32}  (hS : StrR g.2.2.2.2 lay a x r ts)  : Mx g yJ0_coder_7d493 cJ0_coder_7d493 1 (some .byte) 1 0 0 lay a x [.ref r] (pr (some (.int 0)) x) := by
  rcases hS with ⟨i, hi, rfl, rfl⟩ | ⟨p, w, hD, rfl⟩
  · exact c_coder hi
  · exact c_coderD hD
set_option maxHeartbeats 4000000 in
set_option maxRecDepth 100000 in
theorem c_lengthD {g : Gx} {a : Nat → Nat} {x : XS} {lay : List Kd} {p w : Nat} {ts : List Int32} (hD : StrD lay x p w ts) : Mx g yJ0_length_8abf5 cJ0_length_8abf5 1 (some .int) 2 0 0 lay a x [.ref (a p)] (pr (some (.int (nI ts.length))) x) := by
  refine Mx_of (by decide +kernel) (Nat.le_of_ble_eq_true rfl) ?_
  intro k hk he hg
  subst hg
  refine xaload_n hk dJ0_length_8abf5_0 rfl ?_
  refine xgetR (ci := 10) (f := 0) hk dJ0_length_8abf5_1 ⟨rfl, by decide, _, hD.1, rfl⟩ kJ0_9 ?_
  refine xalen (v := nI ts.length) hk dJ0_length_8abf5_4 hD.2.1 (by decide) rfl ?_
  refine xaload_n hk dJ0_length_8abf5_5 rfl ?_
  refine xcallV hk (c_coderD hD) bJ0_coder_7d493 kJ0_335 dJ0_length_8abf5_6 rfl ⟨_, _, _, _, hD.1, rfl⟩ rfl (by decide) ⟨by decide, by decide⟩ (Nat.le_of_ble_eq_true rfl) (det ?_)
  refine xishr hk dJ0_length_8abf5_9 ?_
  rw [shr0 rfl]
  refine xiret hk he dJ0_length_8abf5_10 ⟨by decide, by decide⟩ ?_
  exact ⟨rfl, rfl⟩
theorem c_lengthR {g : Gx} {a : Nat → Nat} {x : XS} {lay : List Kd} {r : Nat} {ts : List Int32}  (hS : StrR g.2.2.2.2 lay a x r ts)  : Mx g yJ0_length_8abf5 cJ0_length_8abf5 1 (some .int) 2 0 0 lay a x [.ref r] (pr (some (.int (nI ts.length))) x) := by
  rcases hS with ⟨i, hi, rfl, rfl⟩ | ⟨p, w, hD, rfl⟩
  · exact c_length hi
  · exact c_lengthD hD
set_option maxHeartbeats 4000000 in
set_option maxRecDepth 100000 in
theorem c_getBytesD {g : Gx} {a : Nat → Nat} {x : XS} {lay : List Kd} {p w : Nat} {ts : List Int32} {v cap d : Nat} (hD : StrD lay x p w ts) (hv : lay[v]? = some (.inr (2, cap))) (hd : d + ts.length ≤ cap) (hcap : cap < 2 ^ 20) (hA : Asc ts) : Mx g yJ0_getBytes_840e7 cJ0_getBytes_840e7 4 none 3 0 0 lay a x [.ref (a p), .ref (a v), .int (nI d), .int 0] (GbE x v d ts) := by
  refine Mx_of (by decide +kernel) (Nat.le_of_ble_eq_true rfl) ?_
  intro k hk he hg
  subst hg
  refine xaload_n hk dJ0_getBytes_840e7_0 rfl ?_
  refine xcallV hk (c_coderD hD) bJ0_coder_7d493 kJ0_335 dJ0_getBytes_840e7_1 rfl ⟨_, _, _, _, hD.1, rfl⟩ rfl (by decide) ⟨by decide, by decide⟩ (Nat.le_of_ble_eq_true rfl) (det ?_)
  refine xiload_n hk dJ0_getBytes_840e7_4 rfl ?_
  refine xicmp_ne hk 28 dJ0_getBytes_840e7_5 (by decide) (fun h5 => ?_) (fun h5 => ?_)
  · exact absurd rfl h5
  · refine xaload_n hk dJ0_getBytes_840e7_8 rfl ?_
    refine xgetR (ci := 10) (f := 0) hk dJ0_getBytes_840e7_9 ⟨rfl, by decide, _, hD.1, rfl⟩ kJ0_9 ?_
    refine xiconst (v := 0) hk dJ0_getBytes_840e7_12 (by decide) ?_
    refine xaload_n hk dJ0_getBytes_840e7_13 rfl ?_
    refine xiload_n hk dJ0_getBytes_840e7_14 rfl ?_
    refine xiload_n hk dJ0_getBytes_840e7_15 rfl ?_
    refine xishl hk dJ0_getBytes_840e7_16 ?_
    rw [sh0 rfl]
    refine xaload_n hk dJ0_getBytes_840e7_17 rfl ?_
    refine xgetR (ci := 10) (f := 0) hk dJ0_getBytes_840e7_18 ⟨rfl, by decide, _, hD.1, rfl⟩ kJ0_9 ?_
    refine xalen (v := nI ts.length) hk dJ0_getBytes_840e7_21 hD.2.1 (by decide) rfl ?_
    refine xcopyB hk dJ0_getBytes_840e7_22 w_ac212 hD.2.1 hv (by decide) (nI_pos (by omega)) (nI_pos (by omega)) ?_ ?_ ?_ (by decide) (by decide) ?_
    · rw [nI_clamp (by omega)]; show 0 + ts.length ≤ ts.length; omega
    · rw [nI_clamp (by omega), nI_clamp (by omega)]; exact hd
    · intro i hi
      rw [nI_clamp (by omega)] at hi
      show fits .byte (.int (x.1 w (0 + i))) = true
      rw [Nat.zero_add, hD.2.2.2 i hi]
      exact hA.fit hi
    refine xgoto hk 43 dJ0_getBytes_840e7_25 (by decide) ?_
    refine xvret hk he dJ0_getBytes_840e7_43 ⟨by decide, by decide⟩ ?_
    refine ⟨rfl, _, rfl, fun j => ?_⟩
    rw [nI_clamp (by omega), nI_clamp (by omega)]
    show va_cpy _ _ 0 _ _ _ = _
    simp only [va_cpy]
    by_cases hj : d ≤ j ∧ j < d + ts.length
    · rw [if_pos hj, if_pos hj, Nat.zero_add]; exact hD.2.2.2 _ (by omega)
    · rw [if_neg hj, if_neg hj]
set_option maxHeartbeats 4000000 in
set_option maxRecDepth 100000 in
theorem c_getBytesT {g : Gx} {a : Nat → Nat} {x : XS} {lay : List Kd} {i v cap d : Nat} (hi : i < 30) (hv : lay[v]? = some (.inr (2, cap))) (hd : d + (txB i).length ≤ cap) (hcap : cap < 2 ^ 20)  : Mx g yJ0_getBytes_840e7 cJ0_getBytes_840e7 4 none 3 0 0 lay a x [.ref (g.2.2.2.2 (10 + i)), .ref (a v), .int (nI d), .int 0] (GbE x v d (txB i)) := by
  refine Mx_of (by decide +kernel) (Nat.le_of_ble_eq_true rfl) ?_
  intro k hk he hg
  subst hg
  have hl2 := lenT_lt i hi
  refine xaload_n hk dJ0_getBytes_840e7_0 rfl ?_
  refine xcallT hk (c_coder hi) bJ0_coder_7d493 kJ0_335 dJ0_getBytes_840e7_1 rfl hi rfl rfl (by decide) ⟨by decide, by decide⟩ (Nat.le_of_ble_eq_true rfl) (det ?_)
  refine xiload_n hk dJ0_getBytes_840e7_4 rfl ?_
  refine xicmp_ne hk 28 dJ0_getBytes_840e7_5 (by decide) (fun h5 => ?_) (fun h5 => ?_)
  · exact absurd rfl h5
  · refine xaload_n hk dJ0_getBytes_840e7_8 rfl ?_
    refine xtxtValue hk hi dJ0_getBytes_840e7_9 kJ0_9 ?_
    refine xiconst (v := 0) hk dJ0_getBytes_840e7_12 (by decide) ?_
    refine xaload_n hk dJ0_getBytes_840e7_13 rfl ?_
    refine xiload_n hk dJ0_getBytes_840e7_14 rfl ?_
    refine xiload_n hk dJ0_getBytes_840e7_15 rfl ?_
    refine xishl hk dJ0_getBytes_840e7_16 ?_
    rw [sh0 rfl]
    refine xaload_n hk dJ0_getBytes_840e7_17 rfl ?_
    refine xtxtValue hk hi dJ0_getBytes_840e7_18 kJ0_9 ?_
    refine xbytesLen hk hi dJ0_getBytes_840e7_21 ?_
    rw [show lenT i = nI (txB i).length from rfl]
    refine xcopyT hk hi dJ0_getBytes_840e7_22 w_ac212 hv (by decide) (nI_pos (by omega)) (nI_pos (by omega)) ?_ ?_ ?_ (by decide) (by decide) ?_
    · rw [nI_clamp (by omega)]; show 0 + (txB i).length ≤ (txB i).length; omega
    · rw [nI_clamp (by omega), nI_clamp (by omega)]; exact hd
    · intro j hj
      rw [nI_clamp (by omega)] at hj
      show fits .byte (.int ((txB i).getD (0 + j) 0)) = true
      rw [Nat.zero_add]
      exact (asc_tx hi).fit hj
    refine xgoto hk 43 dJ0_getBytes_840e7_25 (by decide) ?_
    refine xvret hk he dJ0_getBytes_840e7_43 ⟨by decide, by decide⟩ ?_
    refine ⟨rfl, _, rfl, fun j => ?_⟩
    rw [nI_clamp (by omega), nI_clamp (by omega)]
    show va_cpy _ _ 0 _ _ _ = _
    simp only [va_cpy]
    by_cases hj : d ≤ j ∧ j < d + (txB i).length
    · rw [if_pos hj, if_pos hj, Nat.zero_add]
    · rw [if_neg hj, if_neg hj]
theorem c_getBytesR {g : Gx} {a : Nat → Nat} {x : XS} {lay : List Kd} {r : Nat} {ts : List Int32} {v cap d : Nat} (hS : StrR g.2.2.2.2 lay a x r ts) (hv : lay[v]? = some (.inr (2, cap))) (hd : d + ts.length ≤ cap) (hcap : cap < 2 ^ 20) (hA : Asc ts) : Mx g yJ0_getBytes_840e7 cJ0_getBytes_840e7 4 none 3 0 0 lay a x [.ref r, .ref (a v), .int (nI d), .int 0] (GbE x v d ts) := by
  rcases hS with ⟨i, hi, rfl, rfl⟩ | ⟨p, w, hD, rfl⟩
  · exact c_getBytesT hi hv hd hcap
  · exact c_getBytesD hD hv hd hcap hA
set_option maxHeartbeats 4000000 in
set_option maxRecDepth 100000 in
theorem c_J5_inflateIfNeededFor_a7421 {g : Gx} {a : Nat → Nat} {x : XS} {lay : List Kd} {q v cap : Nat} {bs : List Int32} {r : Nat} {ts : List Int32} (hB : SB lay x q v cap bs) (hS : StrR g.2.2.2.2 lay a x r ts) : Mx g yJ5_inflateIfNeededFor_a7421 cJ5_inflateIfNeededFor_a7421 2 none 2 0 0 lay a x [.ref (a q), .ref r] (pr none x) := by
  refine Mx_of (by decide +kernel) (Nat.le_of_ble_eq_true rfl) ?_
  intro k hk he hg
  subst hg
  refine xcompact hk dJ5_inflateIfNeededFor_a7421_0 kJ5_18 ?_
  refine xif_eq hk 21 dJ5_inflateIfNeededFor_a7421_3 (by decide) (fun h3 => ?_) (fun h3 => ?_)
  · exact absurd h3 (by decide)
  · refine xaload_n hk dJ5_inflateIfNeededFor_a7421_6 rfl ?_
    refine xgetI (ci := 11) (f := 1) hk dJ5_inflateIfNeededFor_a7421_7 ⟨rfl, by decide, _, hB.1, rfl⟩ kJ5_22 ?_
    refine xaload_n hk dJ5_inflateIfNeededFor_a7421_10 rfl ?_
    refine xcallStr hk hS (c_coderR hS) bJ0_coder_7d493 kJ5_40 dJ5_inflateIfNeededFor_a7421_11 rfl rfl rfl (by decide) ⟨by omega, by omega⟩ (Nat.le_of_ble_eq_true rfl) (det ?_)
    refine xicmp_eq hk 21 dJ5_inflateIfNeededFor_a7421_14 (by decide) (fun h14 => ?_) (fun h14 => ?_)
    · refine xvret hk he dJ5_inflateIfNeededFor_a7421_21 ⟨by decide, by decide⟩ ?_
      exact ⟨rfl, rfl⟩
    · exact absurd hB.2.2.1 h14
set_option maxHeartbeats 4000000 in
set_option maxRecDepth 100000 in
theorem c_J5_putStringAt_47b60 {g : Gx} {a : Nat → Nat} {x : XS} {lay : List Kd} {q v cap : Nat} {bs : List Int32} {r : Nat} {ts : List Int32} {d : Nat} (hB : SB lay x q v cap bs) (hS : StrR g.2.2.2.2 lay a x r ts) (hA : Asc ts) (hd : d + ts.length ≤ cap) : Mx g yJ5_putStringAt_47b60 cJ5_putStringAt_47b60 3 none 4 0 0 lay a x [.ref (a q), .int (nI d), .ref r] (GbE x v d ts) := by
  refine Mx_of (by decide +kernel) (Nat.le_of_ble_eq_true rfl) ?_
  intro k hk he hg
  subst hg
  have hcap := hB.2.2.2.2.2.1
  refine xaload_n hk dJ5_putStringAt_47b60_0 rfl ?_
  refine xaload_n hk dJ5_putStringAt_47b60_1 rfl ?_
  refine xcallR hk (c_J5_inflateIfNeededFor_a7421 hB hS) bJ5_inflateIfNeededFor_a7421 kJ5_397 dJ5_putStringAt_47b60_2 rfl hB.1 rfl rfl (by decide) ⟨by omega, by omega⟩ (Nat.le_of_ble_eq_true rfl) (det ?_)
  refine xaload_n hk dJ5_putStringAt_47b60_5 rfl ?_
  refine xaload_n hk dJ5_putStringAt_47b60_6 rfl ?_
  refine xgetR (ci := 11) (f := 0) hk dJ5_putStringAt_47b60_7 ⟨rfl, by decide, _, hB.1, rfl⟩ kJ5_15 ?_
  refine xiload_n hk dJ5_putStringAt_47b60_10 rfl ?_
  refine xaload_n hk dJ5_putStringAt_47b60_11 rfl ?_
  refine xgetI (ci := 11) (f := 1) hk dJ5_putStringAt_47b60_12 ⟨rfl, by decide, _, hB.1, rfl⟩ kJ5_22 ?_
  rw [hB.2.2.1]
  refine xcallStr hk hS (c_getBytesR hS hB.2.1 hd hcap hA) bJ0_getBytes_840e7 kJ5_399 dJ5_putStringAt_47b60_15 rfl rfl rfl (by decide) ⟨by omega, by omega⟩ (Nat.le_of_ble_eq_true rfl) (fun v1 x1 h1 => ?_)
  obtain ⟨rfl, h2⟩ := h1
  refine xvret hk he dJ5_putStringAt_47b60_18 ⟨by decide, by decide⟩ ?_
  exact ⟨rfl, h2⟩
