/-! Rows of the heap, of calls and of ends -/
theorem in_GW (P : List Cond → Prop) (h0 : P wsX00) (h1 : P wsX10) (h2 : P wsX20) (h3 : P wsX30) (h4 : P wsX40) (h5 : P wsX50) (h6 : P wsX60) (h7 : P wsX70) (h8 : P wsX80) (h9 : P wsX90) (h10 : P wsJ00) (h11 : P wsJ40) {ci : Nat} {C : String} {F : u_T} {N : Nat} (h : vwCl[ci]? = some (C, F, N)) : P (u_ws C F N) := by
  match ci, h with
  | 0, h => cases h; exact h0
  | 1, h => cases h; exact h1
  | 2, h => cases h; exact h2
  | 3, h => cases h; exact h3
  | 4, h => cases h; exact h4
  | 5, h => cases h; exact h5
  | 6, h => cases h; exact h6
  | 7, h => cases h; exact h7
  | 8, h => cases h; exact h8
  | 9, h => cases h; exact h9
  | 10, h => cases h; exact h10
  | 11, h => cases h; exact h11
  | ci + 12, h => simp [vwCl] at h
theorem all_GW {ws : List Cond} (h : ws.all (fun w => goodWord w && tables_1.any (fun v => decide (v = w))) = true) : ∀ w ∈ ws, w ∈ GW := by
  intro w hw
  have h1 := List.all_eq_true.mp h w hw
  simp only [Bool.and_eq_true, List.any_eq_true, decide_eq_true_eq] at h1
  obtain ⟨hg, v, hv, rfl⟩ := h1
  exact List.mem_filter.mpr ⟨List.mem_append_right _ hv, hg⟩
theorem cls_GW {ci : Nat} {C : String} {F : u_T} {N : Nat} (h : vwCl[ci]? = some (C, F, N)) : ∀ w ∈ u_ws C F N, w ∈ GW :=
  in_GW (fun ws => ∀ w ∈ ws, w ∈ GW) (all_GW (by decide +kernel)) (all_GW (by decide +kernel)) (all_GW (by decide +kernel)) (all_GW (by decide +kernel)) (all_GW (by decide +kernel)) (all_GW (by decide +kernel)) (all_GW (by decide +kernel)) (all_GW (by decide +kernel)) (all_GW (by decide +kernel)) (all_GW (by decide +kernel)) (all_GW (by decide +kernel)) (all_GW (by decide +kernel)) h
theorem cls_ty {ci : Nat} {C : String} {F : u_T} {N : Nat} (h : vwCl[ci]? = some (C, F, N)) : (∃ ty0 : Nat → FieldType, ∀ k, k < N → parseFieldDescriptor (F k).2.2.1 = some (ty0 k)) ∧ (∀ a, a < N → ∀ b, b < N → a ≠ b → (F a).2.1 ≠ (F b).2.1) := by
  match ci, h with
  | 0, h => cases h; exact ⟨⟨_, tyX0_ok⟩, nmX0⟩
  | 1, h => cases h; exact ⟨⟨_, tyX1_ok⟩, nmX1⟩
  | 2, h => cases h; exact ⟨⟨_, tyX2_ok⟩, nmX2⟩
  | 3, h => cases h; exact ⟨⟨_, tyX3_ok⟩, nmX3⟩
  | 4, h => cases h; exact ⟨⟨_, tyX4_ok⟩, nmX4⟩
  | 5, h => cases h; exact ⟨⟨_, tyX5_ok⟩, nmX5⟩
  | 6, h => cases h; exact ⟨⟨_, tyX6_ok⟩, nmX6⟩
  | 7, h => cases h; exact ⟨⟨_, tyX7_ok⟩, nmX7⟩
  | 8, h => cases h; exact ⟨⟨_, tyX8_ok⟩, nmX8⟩
  | 9, h => cases h; exact ⟨⟨_, tyX9_ok⟩, nmX9⟩
  | 10, h => cases h; exact ⟨⟨_, tyJ0_ok⟩, nmJ0⟩
  | 11, h => cases h; exact ⟨⟨_, tyJ4_ok⟩, nmJ4⟩
  | ci + 12, h => simp [vwCl] at h
/-- a field of a class: number of the class, of the field, its kind in the layout -/
def fdOk (lay : List Kd) (q ci f t : Nat) (C : String) (F : u_T) (N : Nat) : Prop := vwCl[ci]? = some (C, F, N) ∧ f < N ∧ ∃ ft, lay[q]? = some (.inl (ci, ft)) ∧ ft[f]? = some t
section WR
variable {k : Kx} {cc : ByteArray} {nL rk mc ms pc cells slots : Nat} {own nm : String} {ret : Option FieldType} {lay : List Kd} {a : Nat → Nat} {x : XS} {L : List (Nat × Value)} {stk : List Value}
theorem xget (hk : Fok k cc nL own ret nm rk mc ms) {q ci f t idx N : Nat} {C : String} {F : u_T} (d : decode cc pc = .ok (.getfield idx, 3)) (hf : fdOk lay q ci f t C F N) (hw : Cond.fieldLink own idx (F f).1 (F f).2.1 (F f).2.2.1 ∈ GW) (kk : Wx k cells slots lay a x (pc + 3) L (fval a x q f t :: stk)) : Wx k cells slots lay a x pc L (.ref (a q) :: stk) := by
  rcases k with ⟨p, e, s, m, args, below, meth, c, Q, A, R, g⟩
  obtain ⟨hx, hb, hml, hown, hts, hr, hlk, hK, hA, hA0, hR, hSg, hnm, hb0⟩ := hk
  obtain ⟨hc, hfN, ft, hlay, hft⟩ := hf
  intro H locs ls hP hD hS hl
  exact va_get hx hb hts (cls_GW hc) hown hK hP q (wl_getO hlay hc) hc f hfN (hts _ hw) (fun _ h => h) (flist_get hft) d (kk H locs ls hP hD hS hl)
theorem xgetN (hk : Fok k cc nL own ret nm rk mc ms) {q ci f t idx N : Nat} {C host : String} {F : u_T} (d : decode cc pc = .ok (.getfield idx, 3)) (hf : fdOk lay q ci f t C F N) (hw : Cond.fieldLinkNest own idx (F f).1 (F f).2.1 (F f).2.2.1 host ∈ NW) (kk : Wx k cells slots lay a x (pc + 3) L (fval a x q f t :: stk)) : Wx k cells slots lay a x pc L (.ref (a q) :: stk) := by
  rcases k with ⟨p, e, s, m, args, below, meth, c, Q, A, R, g⟩
  obtain ⟨hx, hb, hml, hown, hts, hr, hlk, hK, hA, hA0, hR, hSg, hnm, hb0⟩ := hk
  obtain ⟨hc, hfN, ft, hlay, hft⟩ := hf
  intro H locs ls hP hD hS hl
  exact va_getN hx hb hts (cls_GW hc) hown hK hP q (wl_getO hlay hc) hc f hfN (va_Nw.use rfl (hSg.1 _ hw)) (fun _ h => h) (flist_get hft) d (kk H locs ls hP hD hS hl)
theorem xputI (hk : Fok k cc nL own ret nm rk mc ms) {q ci f idx N : Nat} {C : String} {F : u_T} {v : Int32} (d : decode cc pc = .ok (.putfield idx, 3)) (hf : fdOk lay q ci f 0 C F N) (hw : Cond.fieldLink own idx (F f).1 (F f).2.1 (F f).2.2.1 ∈ GW) (hn : (F f).2.2.2 = false ∧ parseFieldDescriptor (F f).2.2.1 = some .int) (kk : Wx k cells slots lay a (setI x q f v) (pc + 3) L stk) : Wx k cells slots lay a x pc L (.int v :: .ref (a q) :: stk) := by
  rcases k with ⟨p, e, s, m, args, below, meth, c, Q, A, R, g⟩
  obtain ⟨hx, hb, hml, hown, hts, hr, hlk, hK, hA, hA0, hR, hSg, hnm, hb0⟩ := hk
  obtain ⟨hc, hfN, ft, hlay, hft⟩ := hf
  obtain ⟨⟨ty0, hty⟩, hnd⟩ := cls_ty hc
  intro H locs ls hP hD hS hl
  refine va_put hx hb hts (cls_GW hc) ty0 hty hnd hown hK hP hD hS q (wl_getO hlay hc) hc f hfN (hts _ hw) (fun _ h => h) hn.1 hn.2 rfl rfl (by rw [flist_len]; exact (List.getElem?_eq_some_iff.mp hft).1) d (fun H1 locs1 hP hD hS => ?_)
  rw [wl_setI (vw_lt hc) hlay hft] at hP hD
  exact kk H1 locs1 ls hP hD hS hl
theorem xputIN (hk : Fok k cc nL own ret nm rk mc ms) {q ci f idx N : Nat} {C host : String} {F : u_T} {v : Int32} (d : decode cc pc = .ok (.putfield idx, 3)) (hf : fdOk lay q ci f 0 C F N) (hw : Cond.fieldLinkNest own idx (F f).1 (F f).2.1 (F f).2.2.1 host ∈ NW) (hn : (F f).2.2.2 = false ∧ parseFieldDescriptor (F f).2.2.1 = some .int) (kk : Wx k cells slots lay a (setI x q f v) (pc + 3) L stk) : Wx k cells slots lay a x pc L (.int v :: .ref (a q) :: stk) := by
  rcases k with ⟨p, e, s, m, args, below, meth, c, Q, A, R, g⟩
  obtain ⟨hx, hb, hml, hown, hts, hr, hlk, hK, hA, hA0, hR, hSg, hnm, hb0⟩ := hk
  obtain ⟨hc, hfN, ft, hlay, hft⟩ := hf
  obtain ⟨⟨ty0, hty⟩, hnd⟩ := cls_ty hc
  intro H locs ls hP hD hS hl
  refine va_putN hx hb hts (cls_GW hc) ty0 hty hnd hown hK hP hD hS q (wl_getO hlay hc) hc f hfN (va_Nw.use rfl (hSg.1 _ hw)) (fun _ h => h) hn.1 hn.2 rfl rfl (by rw [flist_len]; exact (List.getElem?_eq_some_iff.mp hft).1) d (fun H1 locs1 hP hD hS => ?_)
  rw [wl_setI (vw_lt hc) hlay hft] at hP hD
  exact kk H1 locs1 ls hP hD hS hl
theorem xputL (hk : Fok k cc nL own ret nm rk mc ms) {q ci f idx N : Nat} {C : String} {F : u_T} {v : Int64} (d : decode cc pc = .ok (.putfield idx, 3)) (hf : fdOk lay q ci f 1 C F N) (hw : Cond.fieldLink own idx (F f).1 (F f).2.1 (F f).2.2.1 ∈ GW) (hn : (F f).2.2.2 = false ∧ parseFieldDescriptor (F f).2.2.1 = some .long) (kk : Wx k cells slots lay a (setL x q f v) (pc + 3) L stk) : Wx k cells slots lay a x pc L (.long v :: .ref (a q) :: stk) := by
  rcases k with ⟨p, e, s, m, args, below, meth, c, Q, A, R, g⟩
  obtain ⟨hx, hb, hml, hown, hts, hr, hlk, hK, hA, hA0, hR, hSg, hnm, hb0⟩ := hk
  obtain ⟨hc, hfN, ft, hlay, hft⟩ := hf
  obtain ⟨⟨ty0, hty⟩, hnd⟩ := cls_ty hc
  intro H locs ls hP hD hS hl
  refine va_put hx hb hts (cls_GW hc) ty0 hty hnd hown hK hP hD hS q (wl_getO hlay hc) hc f hfN (hts _ hw) (fun _ h => h) hn.1 hn.2 rfl rfl (by rw [flist_len]; exact (List.getElem?_eq_some_iff.mp hft).1) d (fun H1 locs1 hP hD hS => ?_)
  rw [wl_setL (vw_lt hc) hlay hft] at hP hD
  exact kk H1 locs1 ls hP hD hS hl
theorem xiald (hk : Fok k cc nL own ret nm rk mc ms) {q n : Nat} {i : Int32} (d : decode cc pc = .ok (.iaload, 1)) (hq : lay[q]? = some (.inr (0, n))) (hi : vp_in i n) (kk : Wx k cells slots lay a x (pc + 1) L (.int (x.1 q i.toNatClampNeg) :: stk)) : Wx k cells slots lay a x pc L (.int i :: .ref (a q) :: stk) := by
  rcases k with ⟨p, e, s, m, args, below, meth, c, Q, A, R, g⟩
  obtain ⟨hx, hb, hml, hown, hts, hr, hlk, hK, hA, hA0, hR, hSg, hnm, hb0⟩ := hk
  intro H locs ls hP hD hS hl
  exact va_iald hx hb hK hP q 0 (wl_get hq) rfl hi d (kk H locs ls hP hD hS hl)
theorem xbald (hk : Fok k cc nL own ret nm rk mc ms) {q n : Nat} {i : Int32} (d : decode cc pc = .ok (.baload, 1)) (hq : lay[q]? = some (.inr (2, n))) (hi : vp_in i n) (kk : Wx k cells slots lay a x (pc + 1) L (.int (x.1 q i.toNatClampNeg) :: stk)) : Wx k cells slots lay a x pc L (.int i :: .ref (a q) :: stk) := by
  rcases k with ⟨p, e, s, m, args, below, meth, c, Q, A, R, g⟩
  obtain ⟨hx, hb, hml, hown, hts, hr, hlk, hK, hA, hA0, hR, hSg, hnm, hb0⟩ := hk
  intro H locs ls hP hD hS hl
  exact va_bald hx hb hK hP q 2 (wl_get hq) rfl hi d (kk H locs ls hP hD hS hl)
theorem xlald (hk : Fok k cc nL own ret nm rk mc ms) {q n : Nat} {i : Int32} (d : decode cc pc = .ok (.laload, 1)) (hq : lay[q]? = some (.inr (1, n))) (hi : vp_in i n) (kk : Wx k cells slots lay a x (pc + 1) L (.long (x.2 q i.toNatClampNeg) :: stk)) : Wx k cells slots lay a x pc L (.int i :: .ref (a q) :: stk) := by
  rcases k with ⟨p, e, s, m, args, below, meth, c, Q, A, R, g⟩
  obtain ⟨hx, hb, hml, hown, hts, hr, hlk, hK, hA, hA0, hR, hSg, hnm, hb0⟩ := hk
  intro H locs ls hP hD hS hl
  exact va_lald hx hb hK hP q 1 (wl_get hq) rfl hi d (kk H locs ls hP hD hS hl)
theorem xiast (hk : Fok k cc nL own ret nm rk mc ms) {q n : Nat} {i v : Int32} (d : decode cc pc = .ok (.iastore, 1)) (hq : lay[q]? = some (.inr (0, n))) (hi : vp_in i n) (kk : Wx k cells slots lay a (setI x q i.toNatClampNeg v) (pc + 1) L stk) : Wx k cells slots lay a x pc L (.int v :: .int i :: .ref (a q) :: stk) := by
  rcases k with ⟨p, e, s, m, args, below, meth, c, Q, A, R, g⟩
  obtain ⟨hx, hb, hml, hown, hts, hr, hlk, hK, hA, hA0, hR, hSg, hnm, hb0⟩ := hk
  intro H locs ls hP hD hS hl
  refine va_iast hx hb hK hP hD hS q 0 (wl_get hq) rfl hi d (fun H1 locs1 hP hD hS => ?_)
  rw [wl_setAI hq (by decide)] at hP hD
  exact kk H1 locs1 ls hP hD hS hl
theorem xbast (hk : Fok k cc nL own ret nm rk mc ms) {q n : Nat} {i v : Int32} (d : decode cc pc = .ok (.bastore, 1)) (hq : lay[q]? = some (.inr (2, n))) (hi : vp_in i n) (kk : Wx k cells slots lay a (setI x q i.toNatClampNeg v.toInt8.toInt32) (pc + 1) L stk) : Wx k cells slots lay a x pc L (.int v :: .int i :: .ref (a q) :: stk) := by
  rcases k with ⟨p, e, s, m, args, below, meth, c, Q, A, R, g⟩
  obtain ⟨hx, hb, hml, hown, hts, hr, hlk, hK, hA, hA0, hR, hSg, hnm, hb0⟩ := hk
  intro H locs ls hP hD hS hl
  refine va_bast hx hb hK hP hD hS q 2 (wl_get hq) rfl hi d (fun H1 locs1 hP hD hS => ?_)
  rw [vp_nar_byte, wl_setAI hq (by decide)] at hP hD
  exact kk H1 locs1 ls hP hD hS hl
theorem xlast (hk : Fok k cc nL own ret nm rk mc ms) {q n : Nat} {i : Int32} {v : Int64} (d : decode cc pc = .ok (.lastore, 1)) (hq : lay[q]? = some (.inr (1, n))) (hi : vp_in i n) (kk : Wx k cells slots lay a (setL x q i.toNatClampNeg v) (pc + 1) L stk) : Wx k cells slots lay a x pc L (.long v :: .int i :: .ref (a q) :: stk) := by
  rcases k with ⟨p, e, s, m, args, below, meth, c, Q, A, R, g⟩
  obtain ⟨hx, hb, hml, hown, hts, hr, hlk, hK, hA, hA0, hR, hSg, hnm, hb0⟩ := hk
  intro H locs ls hP hD hS hl
  refine va_last hx hb hK hP hD hS q 1 (wl_get hq) rfl hi d (fun H1 locs1 hP hD hS => ?_)
  rw [wl_setAL hq] at hP hD
  exact kk H1 locs1 ls hP hD hS hl
theorem xalen (hk : Fok k cc nL own ret nm rk mc ms) {q n t : Nat} {v : Int32} (d : decode cc pc = .ok (.arraylength, 1)) (hq : lay[q]? = some (.inr (t, n))) (ht : t < 3) (hv : Int32.ofNat n = v) (kk : Wx k cells slots lay a x (pc + 1) L (.int v :: stk)) : Wx k cells slots lay a x pc L (.ref (a q) :: stk) := by
  rcases k with ⟨p, e, s, m, args, below, meth, c, Q, A, R, g⟩
  obtain ⟨hx, hb, hml, hown, hts, hr, hlk, hK, hA, hA0, hR, hSg, hnm, hb0⟩ := hk
  intro H locs ls hP hD hS hl
  match t, ht, hq with
  | 0, _, hq => exact va_alen (v := v) hx hb hK hP q 0 (wl_get hq) rfl hv d (kk H locs ls hP hD hS hl)
  | 1, _, hq => exact va_alen (v := v) hx hb hK hP q 1 (wl_get hq) rfl hv d (kk H locs ls hP hD hS hl)
  | 2, _, hq => exact va_alen (v := v) hx hb hK hP q 2 (wl_get hq) rfl hv d (kk H locs ls hP hD hS hl)
theorem xwiden {c2 s2 : Nat} (h1 : cells ≤ c2) (h2 : slots ≤ s2) (kk : Wx k c2 s2 lay a x pc L stk) : Wx k cells slots lay a x pc L stk := by
  rcases k with ⟨p, e, s, m, args, below, meth, c, Q, A, R, g⟩
  intro H locs ls hP hD hS hl
  exact W.widen h1 h2 (kk H locs ls hP hD hS hl)
end WR
/-! A method's contract over a world of a fixed layout -/
def Aw (lay : List Kd) (a : Nat → Nat) (sz : Nat) : Nat → Prop := fun q => (∃ j, j < lay.length ∧ q = a j) ∨ sz ≤ q
def PreX (g : Gx) (lay : List Kd) (a : Nat → Nat) (x : XS) (av : List Value) (sz : Nat) : Array Value → State → Prop := va_Pc av (fun U => U.heap.size = sz ∧ g.2.2.2.1 ≤ sz ∧ va_P g.2.1 vwCl (wl g.2.2.1 lay a x) U.heap ∧ va_K g.2.1 vwCl (tysT g.2.2.1) U ∧ va_D (fun q => g.2.2.2.1 ≤ q) (wl g.2.2.1 lay a x) ∧ Sg g (fun q => g.2.2.2.1 ≤ q) U U.heap)
def PostX (g : Gx) (lay : List Kd) (a : Nat → Nat) (post : Option Value → XS → Prop) (sz : Nat) : Array Value → State → Outcome → State → Prop := fun _ st o t => (∃ (v : Option Value) (x' : XS), o = .returned v ∧ post v x' ∧ va_P g.2.1 vwCl (wl g.2.2.1 lay a x') t.heap) ∧ va_F (Aw lay a sz) st t
def roomX (rk mc ms : Nat) : Room := { frames := rk, cells := mc, slots := ms, locals := 64 * rk }
/-- the method y, from the world x with the arguments av: it returns, by post; mc cells of ms slots are new at the most -/
def Mx (g : Gx) (y : MethodName) (cc : ByteArray) (maxL : Nat) (ret : Option FieldType) (rk mc ms : Nat) (lay : List Kd) (a : Nat → Nat) (x : XS) (av : List Value) (post : Option Value → XS → Prop) : Prop :=
  ∀ sz : Nat, Met g.1 y (Cond.code y cc maxL ret :: GW) (roomX rk mc ms) (PreX g lay a x av sz) (PostX g lay a post sz) mc ms (Aw lay a sz)
def kg (k : Kx) : Gx := k.2.2.2.2.2.2.2.2.2.2.2
/-- the end that the context asks for is the contract's -/
def Ends (k : Kx) (lay : List Kd) (a : Nat → Nat) (post : Option Value → XS → Prop) (mc ms : Nat) : Prop := match k with
  | (p, e, s, m, args, below, meth, c, Q, A, R, g) => Q = MQ below (PostX g lay a post s.heap.size) args s mc ms (Aw lay a s.heap.size) ∧ A = Aw lay a s.heap.size
theorem wl_D {A : Nat → Prop} {T : Nat → ClassId} {lay : List Kd} {a : Nat → Nat} {x x' : XS} (h : va_D A (wl T lay a x)) : va_D A (wl T lay a x') := by
  have key : ∀ {k : Nat} {q : Nat × va_E}, (wl T lay a x')[k]? = some q → ∃ q0, (wl T lay a x)[k]? = some q0 ∧ q0.1 = q.1 := by
    intro k q hk
    obtain ⟨kd, h1, rfl⟩ := wl_some hk
    exact ⟨_, wl_get h1, rfl⟩
  refine ⟨fun i j p q hi hj hpq => ?_, fun k q hk => ?_⟩
  · obtain ⟨p0, h1, e1⟩ := key hi
    obtain ⟨q0, h2, e2⟩ := key hj
    exact h.1 i j p0 q0 h1 h2 (by rw [e1, e2, hpq])
  · obtain ⟨q0, h1, e1⟩ := key hk
    rw [← e1]; exact h.2 k q0 h1
theorem Aw_of {A : Nat → Prop} {T : Nat → ClassId} {lay : List Kd} {a : Nat → Nat} {x : XS} {sz : Nat} (hD : va_D A (wl T lay a x)) (hA : ∀ q : Nat, sz ≤ q → A q) : ∀ q, Aw lay a sz q → A q := by
  rintro q (⟨j, hj, rfl⟩ | h)
  · exact hD.2 j _ (wl_get (List.getElem?_eq_getElem hj))
  · exact hA q h
theorem Mx_of {g : Gx} {y : MethodName} {cc : ByteArray} {maxL : Nat} {ret : Option FieldType} {rk mc ms : Nat} {lay : List Kd} {a : Nat → Nat} {x : XS} {av : List Value} {post : Option Value → XS → Prop} (hy : plainName y.cls = true) (hav : (lg_sl av).length ≤ maxL)
    (body : ∀ k : Kx, Fok k cc maxL y.cls ret y.name rk mc ms → Ends k lay a post mc ms → g = kg k → Wx k 0 0 lay a x 0 (lv_args 0 av) []) : Mx g y cc maxL ret rk mc ms lay a x av post := by
  intro sz
  refine Met.ofW (cc := cc) (maxL := maxL) (ret := ret) hy rfl ?_
  intro p e s m args below meth c s₁ B hml hv
  obtain ⟨rfl, hsz, hb0, hP, hK, hD0, hSg⟩ := hv
  have hts := atoms_spec (ws := Cond.code y cc maxL ret :: GW) B.pre
  subst hsz
  have hAb : ∀ q, Aw lay a s.heap.size q → g.2.2.2.1 ≤ q := Aw_of hD0 (fun q h => Nat.le_trans hb0 h)
  have hD : va_D (Aw lay a s.heap.size) (wl g.2.2.1 lay a x) := hD0.weaken (fun j q hj _ => by
    obtain ⟨kd, h1, rfl⟩ := wl_some hj
    exact Or.inl ⟨j, (List.getElem?_eq_some_iff.mp h1).1, rfl⟩)
  have hl := lv_entry av hav
  rw [lg_entry_eq]
  exact body (p, e, s, m, av.toArray, below, meth, c, _, Aw lay a s.heap.size, roomX rk mc ms, g)
    ⟨B.exec, B.bytes, hml, findClass_of_methodNamed B.named, fun w hw => hts w (List.mem_cons_of_mem _ hw), B.returns, B.notSynchronized, hK, fun q h => Or.inr h, hAb, rfl, hSg, (name_of_methodNamed B.named B.method).1, hb0⟩ ⟨rfl, rfl⟩ rfl s.heap [] _ hP hD va_S.rf (by rw [hml]; exact hl)
section WE
variable {k : Kx} {cc : ByteArray} {nL rk mc ms pc cells slots : Nat} {own nm : String} {ret : Option FieldType} {lay : List Kd} {a : Nat → Nat} {x : XS} {L : List (Nat × Value)} {stk : List Value} {post : Option Value → XS → Prop}
theorem xiret (hk : Fok k cc nL own (some .int) nm rk mc ms) (he : Ends k lay a post mc ms) {v : Int32} (d : decode cc pc = .ok (.ireturn, 1)) (hc : cells ≤ mc ∧ slots ≤ ms) (hp : post (some (.int v)) x) : Wx k cells slots lay a x pc L [.int v] := by
  rcases k with ⟨p, e, s, m, args, below, meth, c, Q, A, R, g⟩
  obtain ⟨hx, hb, hml, hown, hts, hr, hlk, hK, hA, hA0, hR, hSg, hnm, hb0⟩ := hk
  obtain ⟨rfl, rfl⟩ := he
  intro H locs ls hP hD hS hl
  refine W.widen hc.1 hc.2 ?_
  exact W.iret hx hb hr (fun t ht hW => ⟨⟨_, x, rfl, hp, by rw [ht]; exact hP⟩, hS.F ht⟩) hS.2.2 d hlk
theorem xzret (hk : Fok k cc nL own (some .boolean) nm rk mc ms) (he : Ends k lay a post mc ms) {v : Int32} (d : decode cc pc = .ok (.ireturn, 1)) (hc : cells ≤ mc ∧ slots ≤ ms) (hv : narrow .boolean (.int v) = .int v) (hp : post (some (.int v)) x) : Wx k cells slots lay a x pc L [.int v] := by
  rcases k with ⟨p, e, s, m, args, below, meth, c, Q, A, R, g⟩
  obtain ⟨hx, hb, hml, hown, hts, hr, hlk, hK, hA, hA0, hR, hSg, hnm, hb0⟩ := hk
  obtain ⟨rfl, rfl⟩ := he
  intro H locs ls hP hD hS hl
  refine W.widen hc.1 hc.2 ?_
  exact W.zret hx hb hr hv (fun t ht hW => ⟨⟨_, x, rfl, hp, by rw [ht]; exact hP⟩, hS.F ht⟩) hS.2.2 d hlk
theorem xlret (hk : Fok k cc nL own (some .long) nm rk mc ms) (he : Ends k lay a post mc ms) {v : Int64} (d : decode cc pc = .ok (.lreturn, 1)) (hc : cells ≤ mc ∧ slots ≤ ms) (hp : post (some (.long v)) x) : Wx k cells slots lay a x pc L [.long v] := by
  rcases k with ⟨p, e, s, m, args, below, meth, c, Q, A, R, g⟩
  obtain ⟨hx, hb, hml, hown, hts, hr, hlk, hK, hA, hA0, hR, hSg, hnm, hb0⟩ := hk
  obtain ⟨rfl, rfl⟩ := he
  intro H locs ls hP hD hS hl
  refine W.widen hc.1 hc.2 ?_
  exact W.lret hx hb hr (fun t ht hW => ⟨⟨_, x, rfl, hp, by rw [ht]; exact hP⟩, hS.F ht⟩) hS.2.2 d hlk
theorem xvret (hk : Fok k cc nL own none nm rk mc ms) (he : Ends k lay a post mc ms) (d : decode cc pc = .ok (.return_, 1)) (hc : cells ≤ mc ∧ slots ≤ ms) (hp : post none x) : Wx k cells slots lay a x pc L [] := by
  rcases k with ⟨p, e, s, m, args, below, meth, c, Q, A, R, g⟩
  obtain ⟨hx, hb, hml, hown, hts, hr, hlk, hK, hA, hA0, hR, hSg, hnm, hb0⟩ := hk
  obtain ⟨rfl, rfl⟩ := he
  intro H locs ls hP hD hS hl
  refine W.widen hc.1 hc.2 ?_
  exact W.vret hx hb hr (fun t ht hW => ⟨⟨_, x, rfl, hp, by rw [ht]; exact hP⟩, hS.F ht⟩) hS.2.2 d hlk
/-- behind a call -/
theorem xgo {p : Program} {e : Env} {s : State} {m : MethodId} {args : Array Value} {below : List Frame} {meth : Method} {c : Code} {Q : State → Prop} {A : Nat → Prop} {R : Room} {g : Gx} {mc2 ms2 : Nat} {H : Heap} {locs : List Loc} {ls : Array Slot} {st0 : List Value} {av : Array Value}
    (hA : ∀ q : Nat, s.heap.size ≤ q → A q) (hr : va_Run p g.1 e R s m args below meth c H locs cells slots mc2 ms2 (F0 m pc ls st0) stk (PostX g lay a post H.size av) (Aw lay a H.size)) (hD : va_D A (wl g.2.2.1 lay a x)) (hS : va_S A s.heap H locs) (hl : lv_has ls c.maxLocals L)
    (kk : ∀ (v : Option Value) (x' : XS), post v x' → Wx (p, e, s, m, args, below, meth, c, Q, A, R, g) (cells + mc2) (slots + ms2) lay a x' (pc + 3) L (v.toList ++ stk)) : W p g.1 e R s m args below meth c H locs cells slots Q (F0 m pc ls st0) := by
  have hf : ∀ q, Aw lay a H.size q → A q := Aw_of hD (fun q h => hA q (Nat.le_trans hS.1 h))
  intro T hT X
  obtain ⟨v, st₀, t, T', L2, h0, X', hL, e1, e2, ⟨⟨v', x', hv, hp, hb⟩, hz, hkp⟩, st⟩ := hr T hT X
  cases hv
  rw [h0] at hz hkp
  obtain ⟨t2, a1, b1⟩ := kk v x' hp T'.heap (locs ++ L2) ls (by rw [e1]; exact hb) (wl_D hD)
    ⟨Nat.le_trans hS.1 (by rw [e1]; exact hz), fun q h1 h2 => by rw [e1, hkp q (Nat.lt_of_lt_of_le h1 hS.1) (fun z => h2 (hf q z))]; exact hS.2.1 q h1 h2, fun q hq => by
      rcases List.mem_append.mp hq with h | h
      · exact hS.2.2 q h
      · exact hf _ (hL q h)⟩ hl T' rfl X'
  exact ⟨t2, st t2 a1, b1⟩
end WE
/-- what a call needs of its callee's words -/
def CBx (y : MethodName) (cc : ByteArray) (maxL : Nat) (ret : Option FieldType) (n : Nat) : Prop := Cond.code y cc maxL ret ∈ GW ∧ Cond.initialized y.cls ∈ GW ∧ (y.cls ≠ "java/lang/invoke/MethodHandle" ∧ y.cls ≠ "java/lang/invoke/VarHandle" ∧ (parseMethodDescriptor y.desc).map (fun d => d.parameters.length) = some n) ∧ maxL ≤ 45
def CBv (y : MethodName) (cc : ByteArray) (maxL : Nat) (ret : Option FieldType) (n : Nat) : Prop := CBx y cc maxL ret n ∧ Cond.instanceMethod y ∈ GW ∧ Cond.selects y.cls y y ∈ GW
def CBs (y : MethodName) (cc : ByteArray) (maxL : Nat) (ret : Option FieldType) (n : Nat) : Prop := CBx y cc maxL ret n ∧ Cond.static y ∈ GW
theorem gw_good {ws : List Cond} {args : Array Value} {s : State} (hts : ∀ w ∈ GW, w.before args s = true) : ∀ w ∈ GW, ∀ (a' : Array Value) (U : State), s.WarmedH U.vm → w.before a' U = true :=
  fun w hw a' U hW => word_at hW (good_of_word (List.mem_filter.mp hw).2) (hts w hw)
theorem goodIn_self {y : MethodName} {cc : ByteArray} {maxL : Nat} {ret : Option FieldType} (h : Cond.code y cc maxL ret ∈ GW) : GoodIn GW (Cond.code y cc maxL ret :: GW) := fun w hw => by
  rcases List.mem_cons.mp hw with e | e
  · subst e; exact ⟨h, good_of_word (List.mem_filter.mp h).2⟩
  · exact ⟨e, good_of_word (List.mem_filter.mp e).2⟩
theorem preX_blind (g : Gx) (lay : List Kd) (a : Nat → Nat) (x : XS) (av : List Value) (sz : Nat) : FrameBlind (PreX g lay a x av sz) := by
  intro a' U g' mk q
  obtain ⟨q0, q1, q2, q3, q4, q5, q6⟩ := q
  exact ⟨q0, q1, q2, q3, va_K.moved (u := U) (U := U.calling g' mk a') (Vm.Alike.refl U.vm) q4, q5, Sg.same (u := U) (U := U.calling g' mk a') rfl q6⟩
section WC
variable {k : Kx} {cc : ByteArray} {nL rk mc ms pc cells slots : Nat} {own nm : String} {ret : Option FieldType} {lay : List Kd} {a : Nat → Nat} {x : XS} {L : List (Nat × Value)} {stk st0 : List Value} {post : Option Value → XS → Prop}
variable {y : MethodName} {cy : ByteArray} {nLy rky mcy msy n idx q : Nat} {rety : Option FieldType} {As : List Value}
/-- the callee's start, in any state that the call may find -/
theorem preX_at {s : State} {A : Nat → Prop} {g : Gx} {H : Heap} {locs : List Loc} {av : List Value} (hK : va_K g.2.1 vwCl (tysT g.2.2.1) s) (hb0 : g.2.2.2.1 ≤ s.heap.size) (hA0 : ∀ q : Nat, A q → g.2.2.2.1 ≤ q) (hSg : Sg g (fun q => g.2.2.2.1 ≤ q) s s.heap) (hP : va_P g.2.1 vwCl (wl g.2.2.1 lay a x) H) (hD : va_D A (wl g.2.2.1 lay a x)) (hS : va_S A s.heap H locs) :
    ∀ U : State, U.heap = H → s.WarmedH U.vm → PreX g lay a x av H.size av.toArray U := by
  intro U hU hW
  refine ⟨rfl, by rw [hU], Nat.le_trans hb0 hS.1, by rw [hU]; exact hP, va_K.moved hW.alike hK, hD.weaken (fun _ q _ h => hA0 q.1 h), ?_⟩
  rw [hU]
  exact (hSg.warm hW).kept (fun q h1 h2 => hS.2.1 q h1 (fun z => h2 (hA0 q z)))
end WC
section WC2
variable {k : Kx} {cc : ByteArray} {nL rk mc ms pc cells slots : Nat} {own nm : String} {ret : Option FieldType} {lay : List Kd} {a : Nat → Nat} {x : XS} {L : List (Nat × Value)} {stk st0 : List Value} {post : Option Value → XS → Prop}
variable {y : MethodName} {cy : ByteArray} {nLy rky mcy msy n idx q : Nat} {rety : Option FieldType} {As : List Value}
theorem room_in {rk mc ms rky mcy msy nLy : Nat} {R : Room} (hR : R = { frames := rk, cells := mc, slots := ms, locals := 64 * rk }) (hrk : rky < rk) (h : nLy ≤ 45) : (roomX rky mcy msy).frames + 1 ≤ R.frames ∧ 8 + (nLy + 11) + (roomX rky mcy msy).locals ≤ R.locals := by
  subst hR
  refine ⟨hrk, ?_⟩
  show 8 + (nLy + 11) + 64 * rky ≤ 64 * rk
  omega
theorem xcallV (hk : Fok k cc nL own ret nm rk mc ms) (M : Mx (kg k) y cy nLy rety rky mcy msy lay a x (.ref (a q) :: As) post) (cb : CBv y cy nLy rety n) (hw : Cond.methodLink own idx y ∈ GW) (d : decode cc pc = .ok (.invokevirtual idx, 3)) (hs : st0 = As.reverse ++ .ref (a q) :: stk) (hq : ∃ (ci : Nat) (ft : List Nat) (F : u_T) (N : Nat), lay[q]? = some (.inl (ci, ft)) ∧ vwCl[ci]? = some (y.cls, F, N)) (hn : As.length = n) (hrk : rky < rk) (hc : cells + mcy ≤ mc ∧ slots + msy ≤ ms) (hst : (stk.map fun v => v.category).sum ≤ 8)
    (kk : ∀ (v : Option Value) (x' : XS), post v x' → Wx k (cells + mcy) (slots + msy) lay a x' (pc + 3) L (v.toList ++ stk)) : Wx k cells slots lay a x pc L st0 := by
  rcases k with ⟨p, e, s, m, args, below, meth, c, Q, A, R, g⟩
  obtain ⟨hx, hb, hml, hown, hts, hr, hlk, hK, hA, hA0, hR, hSg, hnm, hb0⟩ := hk
  obtain ⟨⟨hcode, hini, hd, h45⟩, hinst, hsel⟩ := cb
  obtain ⟨ci, ft, F, N, hlay, hcl⟩ := hq
  subst hs
  intro H locs ls hP hD hS hl
  have hRR := room_in (mcy := mcy) (msy := msy) hR hrk h45
  exact xgo hA (va_runV (ws := Cond.code y cy nLy rety :: GW) (rm := roomX rky mcy msy) (Ts := GW) (own := own) (C := y.cls) (cc := cc) (nL := nL) (As := As) (rest := stk) (n := n) ⟨hx, hb, hml, hown, hts⟩ (M H.size) ⟨callB_of n hts (goodIn_self hcode) rfl rfl rfl (hts _ hini) (hts _ hw) hd hRR, hts _ hinst, hts _ hsel⟩
    ⟨preX_blind _ _ _ _ _ _, va_recv hK hP (ci := ci) (q0 := q) hcl (wl_getO hlay hcl), preX_at hK hb0 hA0 hSg hP hD hS⟩ rfl hn (hl.1.trans hml) rfl (lv_room hst) d (by subst hR; exact hc)) hD hS hl kk
theorem xcallVN {host : String} (hk : Fok k cc nL own ret nm rk mc ms) (M : Mx (kg k) y cy nLy rety rky mcy msy lay a x (.ref (a q) :: As) post) (cb : CBv y cy nLy rety n) (hw : Cond.methodLinkNest own idx y host ∈ NW) (d : decode cc pc = .ok (.invokevirtual idx, 3)) (hs : st0 = As.reverse ++ .ref (a q) :: stk) (hq : ∃ (ci : Nat) (ft : List Nat) (F : u_T) (N : Nat), lay[q]? = some (.inl (ci, ft)) ∧ vwCl[ci]? = some (y.cls, F, N)) (hn : As.length = n) (hrk : rky < rk) (hc : cells + mcy ≤ mc ∧ slots + msy ≤ ms) (hst : (stk.map fun v => v.category).sum ≤ 8)
    (kk : ∀ (v : Option Value) (x' : XS), post v x' → Wx k (cells + mcy) (slots + msy) lay a x' (pc + 3) L (v.toList ++ stk)) : Wx k cells slots lay a x pc L st0 := by
  rcases k with ⟨p, e, s, m, args, below, meth, c, Q, A, R, g⟩
  obtain ⟨hx, hb, hml, hown, hts, hr, hlk, hK, hA, hA0, hR, hSg, hnm, hb0⟩ := hk
  obtain ⟨⟨hcode, hini, hd, h45⟩, hinst, hsel⟩ := cb
  obtain ⟨ci, ft, F, N, hlay, hcl⟩ := hq
  subst hs
  intro H locs ls hP hD hS hl
  have hRR := room_in (mcy := mcy) (msy := msy) hR hrk h45
  exact xgo hA (va_runVN (ws := Cond.code y cy nLy rety :: GW) (rm := roomX rky mcy msy) (Ts := GW) (own := own) (C := y.cls) (cc := cc) (nL := nL) (As := As) (rest := stk) (n := n) ⟨hx, hb, hml, hown, hts⟩ (M H.size) ⟨va_cnB n hts (goodIn_self hcode) rfl rfl rfl (hSg.1 _ hw) (hts _ hini) hd hRR, hts _ hinst, hts _ hsel⟩
    ⟨preX_blind _ _ _ _ _ _, va_recv hK hP (ci := ci) (q0 := q) hcl (wl_getO hlay hcl), preX_at hK hb0 hA0 hSg hP hD hS⟩ rfl hn (hl.1.trans hml) rfl (lv_room hst) d (by subst hR; exact hc)) hD hS hl kk
theorem xcallS (hk : Fok k cc nL own ret nm rk mc ms) (M : Mx (kg k) y cy nLy rety rky mcy msy lay a x As post) (cb : CBs y cy nLy rety n) (hw : Cond.methodLink own idx y ∈ GW) (d : decode cc pc = .ok (.invokestatic idx, 3)) (hs : st0 = As.reverse ++ stk) (hn : As.length = n) (hrk : rky < rk) (hc : cells + mcy ≤ mc ∧ slots + msy ≤ ms) (hst : (stk.map fun v => v.category).sum ≤ 8)
    (kk : ∀ (v : Option Value) (x' : XS), post v x' → Wx k (cells + mcy) (slots + msy) lay a x' (pc + 3) L (v.toList ++ stk)) : Wx k cells slots lay a x pc L st0 := by
  rcases k with ⟨p, e, s, m, args, below, meth, c, Q, A, R, g⟩
  obtain ⟨hx, hb, hml, hown, hts, hr, hlk, hK, hA, hA0, hR, hSg, hnm, hb0⟩ := hk
  obtain ⟨⟨hcode, hini, hd, h45⟩, hstat⟩ := cb
  subst hs
  intro H locs ls hP hD hS hl
  have hRR := room_in (mcy := mcy) (msy := msy) hR hrk h45
  exact xgo hA (va_runS (ws := Cond.code y cy nLy rety :: GW) (rm := roomX rky mcy msy) (Ts := GW) (own := own) (cc := cc) (nL := nL) (As := As) (rest := stk) (n := n) ⟨hx, hb, hml, hown, hts⟩ (M H.size) ⟨callB_of n hts (goodIn_self hcode) rfl rfl rfl (hts _ hini) (hts _ hw) hd hRR, hts _ hstat⟩
    ⟨preX_blind _ _ _ _ _ _, preX_at hK hb0 hA0 hSg hP hD hS⟩ rfl hn (hl.1.trans hml) rfl (lv_room hst) d (by subst hR; exact hc)) hD hS hl kk
theorem xcallSN {host : String} (hk : Fok k cc nL own ret nm rk mc ms) (M : Mx (kg k) y cy nLy rety rky mcy msy lay a x As post) (cb : CBs y cy nLy rety n) (hw : Cond.methodLinkNest own idx y host ∈ NW) (d : decode cc pc = .ok (.invokestatic idx, 3)) (hs : st0 = As.reverse ++ stk) (hn : As.length = n) (hrk : rky < rk) (hc : cells + mcy ≤ mc ∧ slots + msy ≤ ms) (hst : (stk.map fun v => v.category).sum ≤ 8)
    (kk : ∀ (v : Option Value) (x' : XS), post v x' → Wx k (cells + mcy) (slots + msy) lay a x' (pc + 3) L (v.toList ++ stk)) : Wx k cells slots lay a x pc L st0 := by
  rcases k with ⟨p, e, s, m, args, below, meth, c, Q, A, R, g⟩
  obtain ⟨hx, hb, hml, hown, hts, hr, hlk, hK, hA, hA0, hR, hSg, hnm, hb0⟩ := hk
  obtain ⟨⟨hcode, hini, hd, h45⟩, hstat⟩ := cb
  subst hs
  intro H locs ls hP hD hS hl
  have hRR := room_in (mcy := mcy) (msy := msy) hR hrk h45
  exact xgo hA (va_runSN (ws := Cond.code y cy nLy rety :: GW) (rm := roomX rky mcy msy) (Ts := GW) (own := own) (cc := cc) (nL := nL) (As := As) (rest := stk) (n := n) ⟨hx, hb, hml, hown, hts⟩ (M H.size) ⟨va_cnB n hts (goodIn_self hcode) rfl rfl rfl (hSg.1 _ hw) (hts _ hini) hd hRR, hts _ hstat, trivial⟩
    ⟨preX_blind _ _ _ _ _ _, preX_at hK hb0 hA0 hSg hP hD hS⟩ rfl hn (hl.1.trans hml) rfl (lv_room hst) d (by subst hR; exact hc)) hD hS hl kk
end WC2
/-- an end that is said exactly: the answer v, the world x -/
def pr (v : Option Value) (x : XS) : Option Value → XS → Prop := fun v' x' => v' = v ∧ x' = x
theorem det {P : Option Value → XS → Prop} {v1 : Option Value} {x1 : XS} (h : P v1 x1) : ∀ (v : Option Value) (x' : XS), pr v1 x1 v x' → P v x' := by
  rintro _ _ ⟨rfl, rfl⟩; exact h
/-- an end with an int, and what is known of it and the world -/
def ri (P : Int32 → XS → Prop) : Option Value → XS → Prop := fun v x' => ∃ r, v = some (.int r) ∧ P r x'
theorem int {P : Option Value → XS → Prop} {P1 : Int32 → XS → Prop} (h : ∀ r x', P1 r x' → P (some (.int r)) x') : ∀ (v : Option Value) (x' : XS), ri P1 v x' → P v x' := by
  rintro _ x' ⟨r, rfl, hr⟩; exact h r x' hr
def rv (P : XS → Prop) : Option Value → XS → Prop := fun v x' => v = none ∧ P x'
theorem voi {P : Option Value → XS → Prop} {P1 : XS → Prop} (h : ∀ x', P1 x' → P none x') : ∀ (v : Option Value) (x' : XS), rv P1 v x' → P v x' := by
  rintro _ x' ⟨rfl, hr⟩; exact h x' hr
/-- the same contract under another name of its rank -/
theorem Mx_rk {g : Gx} {y : MethodName} {cc : ByteArray} {maxL : Nat} {ret : Option FieldType} {r1 r2 mc ms : Nat} {lay : List Kd} {a : Nat → Nat} {x : XS} {av : List Value} {post : Option Value → XS → Prop} (h : r1 = r2) (hM : Mx g y cc maxL ret r1 mc ms lay a x av post) : Mx g y cc maxL ret r2 mc ms lay a x av post := h ▸ hM
