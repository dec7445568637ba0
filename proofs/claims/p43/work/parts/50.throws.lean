
/-! Methods that return or throw: RT is (class's name, world) or (answer, world) -/
abbrev RT : Type := (String × XS) ⊕ (Option Value × XS)
def rbo (r : RT) (f : XS → Option RT) : Option RT := match r with
  | .inl e => some (.inl e)
  | .inr u => f u.2
def XCx (g : Gx) (lay : List Kd) (a : Nat → Nat) (u : RT) (sz : Nat) : String → State → State → Prop := fun E st t => ∃ x' : XS, u = .inl (E, x') ∧ va_P g.2.1 vwCl (wl g.2.2.1 lay a x') t.heap ∧ va_F (Aw lay a sz) st t
def Tx (g : Gx) (y : MethodName) (cc : ByteArray) (maxL : Nat) (ret : Option FieldType) (rk mc ms : Nat) (lay : List Kd) (a : Nat → Nat) (x : XS) (av : List Value) (u : RT) : Prop :=
  ∀ sz : Nat, vx_Met g.1 y (Cond.code y cc maxL ret :: GW) (roomX rk mc ms) (PreX g lay a x av sz) (PostX g lay a (fun v x' => u = .inr (v, x')) sz) (XCx g lay a u sz) mc ms (Aw lay a sz)
def EndsT (k : Kx) (lay : List Kd) (a : Nat → Nat) (u : RT) (mc ms : Nat) : Prop := match k with
  | (p, e, s, m, args, below, meth, c, Q, A, R, g) => (Q = vx_MQ below (PostX g lay a (fun v x' => u = .inr (v, x')) s.heap.size) (XCx g lay a u s.heap.size) args s mc ms (Aw lay a s.heap.size) ∧ A = Aw lay a s.heap.size) ∧ ∀ x ∈ c.exceptionTable.toList, False
theorem Tx_of {g : Gx} {y : MethodName} {cc : ByteArray} {maxL : Nat} {ret : Option FieldType} {rk mc ms : Nat} {lay : List Kd} {a : Nat → Nat} {x : XS} {av : List Value} {u : RT} (hy : plainName y.cls = true) (hav : (lg_sl av).length ≤ maxL)
    (body : ∀ k : Kx, Fok k cc maxL y.cls ret y.name rk mc ms → EndsT k lay a u mc ms → g = kg k → Wx k 0 0 lay a x 0 (lv_args 0 av) []) : Tx g y cc maxL ret rk mc ms lay a x av u := by
  intro sz
  refine vx_ofW (cc := cc) (maxL := maxL) (ret := ret) hy rfl ?_
  intro p e s m args below meth c s₁ B hml hout hv
  obtain ⟨rfl, hsz, hb0, hP, hK, hD0, hSg⟩ := hv
  have hts := atoms_spec (ws := Cond.code y cc maxL ret :: GW) B.pre
  subst hsz
  have hAb : ∀ q, Aw lay a s.heap.size q → g.2.2.2.1 ≤ q := Aw_of hD0 (fun q h => Nat.le_trans hb0 h)
  have hD : va_D (Aw lay a s.heap.size) (wl g.2.2.1 lay a x) := hD0.weaken (fun j q hj _ => by
    obtain ⟨kd, h1, rfl⟩ := wl_some hj
    exact Or.inl ⟨j, (List.getElem?_eq_some_iff.mp h1).1, rfl⟩)
  have hl := lv_entry av hav
  rw [lg_entry_eq]
  exact body (p, e, s, m, av.toArray, below, meth, c, _, Aw lay a s.heap.size, roomX rk mc ms, g)
    ⟨B.exec, B.bytes, hml, findClass_of_methodNamed B.named, fun w hw => hts w (List.mem_cons_of_mem _ hw), B.returns, B.notSynchronized, hK, fun q h => Or.inr h, hAb, rfl, hSg, (name_of_methodNamed B.named B.method).1, hb0⟩ ⟨⟨rfl, rfl⟩, hout⟩ rfl s.heap [] _ hP hD va_S.rf (by rw [hml]; exact hl)
section WT
variable {k : Kx} {cc : ByteArray} {nL rk mc ms pc cells slots : Nat} {own nm : String} {ret : Option FieldType} {lay : List Kd} {a : Nat → Nat} {x : XS} {L : List (Nat × Value)} {stk st0 : List Value} {u r : RT}

theorem xiretT (hk : Fok k cc nL own (some .int) nm rk mc ms) (he : EndsT k lay a u mc ms) {v : Int32} (d : decode cc pc = .ok (.ireturn, 1)) (hc : cells ≤ mc ∧ slots ≤ ms) (hp : u = .inr (some (.int v), x)) : Wx k cells slots lay a x pc L [.int v] := by
  rcases k with ⟨p, e, s, m, args, below, meth, c, Q, A, R, g⟩
  obtain ⟨hx, hb, hml, hown, hts, hr, hlk, hK, hA, hA0, hR, hSg, hnm, hb0⟩ := hk
  obtain ⟨⟨rfl, rfl⟩, hout⟩ := he
  intro H locs ls hP hD hS hl
  refine W.widen hc.1 hc.2 (vx_ret ?_)
  exact W.iret hx hb hr (fun t ht hW => ⟨⟨_, x, rfl, hp, by rw [ht]; exact hP⟩, hS.F ht⟩) hS.2.2 d hlk
theorem xzretT (hk : Fok k cc nL own (some .boolean) nm rk mc ms) (he : EndsT k lay a u mc ms) {v : Int32} (d : decode cc pc = .ok (.ireturn, 1)) (hc : cells ≤ mc ∧ slots ≤ ms) (hv : narrow .boolean (.int v) = .int v) (hp : u = .inr (some (.int v), x)) : Wx k cells slots lay a x pc L [.int v] := by
  rcases k with ⟨p, e, s, m, args, below, meth, c, Q, A, R, g⟩
  obtain ⟨hx, hb, hml, hown, hts, hr, hlk, hK, hA, hA0, hR, hSg, hnm, hb0⟩ := hk
  obtain ⟨⟨rfl, rfl⟩, hout⟩ := he
  intro H locs ls hP hD hS hl
  refine W.widen hc.1 hc.2 (vx_ret ?_)
  exact W.zret hx hb hr hv (fun t ht hW => ⟨⟨_, x, rfl, hp, by rw [ht]; exact hP⟩, hS.F ht⟩) hS.2.2 d hlk
theorem xlretT (hk : Fok k cc nL own (some .long) nm rk mc ms) (he : EndsT k lay a u mc ms) {v : Int64} (d : decode cc pc = .ok (.lreturn, 1)) (hc : cells ≤ mc ∧ slots ≤ ms) (hp : u = .inr (some (.long v), x)) : Wx k cells slots lay a x pc L [.long v] := by
  rcases k with ⟨p, e, s, m, args, below, meth, c, Q, A, R, g⟩
  obtain ⟨hx, hb, hml, hown, hts, hr, hlk, hK, hA, hA0, hR, hSg, hnm, hb0⟩ := hk
  obtain ⟨⟨rfl, rfl⟩, hout⟩ := he
  intro H locs ls hP hD hS hl
  refine W.widen hc.1 hc.2 (vx_ret ?_)
  exact W.lret hx hb hr (fun t ht hW => ⟨⟨_, x, rfl, hp, by rw [ht]; exact hP⟩, hS.F ht⟩) hS.2.2 d hlk
theorem xdretT (hk : Fok k cc nL own (some .double) nm rk mc ms) (he : EndsT k lay a u mc ms) {v : UInt64} (d : decode cc pc = .ok (.dreturn, 1)) (hc : cells ≤ mc ∧ slots ≤ ms) (hp : u = .inr (some (.double v), x)) : Wx k cells slots lay a x pc L [.double v] := by
  rcases k with ⟨p, e, s, m, args, below, meth, c, Q, A, R, g⟩
  obtain ⟨hx, hb, hml, hown, hts, hr, hlk, hK, hA, hA0, hR, hSg, hnm, hb0⟩ := hk
  obtain ⟨⟨rfl, rfl⟩, hout⟩ := he
  intro H locs ls hP hD hS hl
  refine W.widen hc.1 hc.2 (vx_ret ?_)
  exact W.dret hx hb hr (fun t ht hW => ⟨⟨_, x, rfl, hp, by rw [ht]; exact hP⟩, hS.F ht⟩) hS.2.2 d hlk
theorem xvretT (hk : Fok k cc nL own none nm rk mc ms) (he : EndsT k lay a u mc ms) (d : decode cc pc = .ok (.return_, 1)) (hc : cells ≤ mc ∧ slots ≤ ms) (hp : u = .inr (none, x)) : Wx k cells slots lay a x pc L [] := by
  rcases k with ⟨p, e, s, m, args, below, meth, c, Q, A, R, g⟩
  obtain ⟨hx, hb, hml, hown, hts, hr, hlk, hK, hA, hA0, hR, hSg, hnm, hb0⟩ := hk
  obtain ⟨⟨rfl, rfl⟩, hout⟩ := he
  intro H locs ls hP hD hS hl
  refine W.widen hc.1 hc.2 (vx_ret ?_)
  exact W.vret hx hb hr (fun t ht hW => ⟨⟨_, x, rfl, hp, by rw [ht]; exact hP⟩, hS.F ht⟩) hS.2.2 d hlk
/-- the words that a throw of E in FeudBook needs -/
def wdsT (E : String) (ik ic : Nat) (names : List String) : List Cond := Cond.classLink RX8 ik E :: Cond.initialized E :: vx_atS RX8 ic E names
def okT (E : String) (ik ic : Nat) (names : List String) : Prop := (Bundle.fit E = true ∧ ∀ n ∈ names, Bundle.fit n = true) ∧ (wdsT E ik ic names).all (fun w => (goodWord w || isNest w) && (vx_ot w && tables_1.any (fun v => decide (v = w)))) = true
theorem okT_at {E : String} {ik ic : Nat} {names : List String} (h : okT E ik ic names) {args : Array Value} {s : State} (hts : ∀ w ∈ GW, w.before args s = true) (hN : ∀ w ∈ NW, va_Nw w s) : ∀ w ∈ wdsT E ik ic names, w.before args s = true := by
  intro w hw
  have h1 := List.all_eq_true.mp h.2 w hw
  simp only [Bool.and_eq_true, Bool.or_eq_true, List.any_eq_true, decide_eq_true_eq] at h1
  obtain ⟨h2, -, v, h3, rfl⟩ := h1
  rcases h2 with h2 | h2
  · exact hts _ (List.mem_filter.mpr ⟨List.mem_append_right _ h3, h2⟩)
  · exact va_tabs (nest_tabs h2) rfl (hN _ (List.mem_filter.mpr ⟨h3, h2⟩))
theorem okT_ot {E : String} {ik ic : Nat} {names : List String} (h : okT E ik ic names) : ∀ w ∈ wdsT E ik ic names, vx_ot w = true := by
  intro w hw
  have h1 := List.all_eq_true.mp h.2 w hw
  simp only [Bool.and_eq_true] at h1
  exact h1.2.1
theorem xthrow (hk : Fok k cc nL RX8 ret nm rk mc ms) (he : EndsT k lay a u mc ms) (hfl : (kg k).1.stackTraces = false) {E text : String} {names : List String} {ik is ic : Nat} (i : Nat) (hi : i < 42 ∧ txt i = (RX8, is, text)) (hE : okT E ik ic names)
    (d0 : decode cc pc = .ok (.new ik, 3)) (d3 : decode cc (pc + 3) = .ok (.dup, 1)) (d4 : decode cc (pc + 4) = .ok (.ldc is, 2)) (d6 : decode cc (pc + 6) = .ok (.invokespecial ic, 3)) (d9 : decode cc (pc + 9) = .ok (.athrow, 1))
    (hrk : names.length + 3 < rk ∧ (stk.map fun v => v.category).sum + (13 * (names.length + 1) + 43) ≤ 64 * rk) (hc : cells + 1 ≤ mc ∧ slots + 6 ≤ ms) (hp : u = .inl (E, x)) : Wx k cells slots lay a x pc L stk := by
  rcases k with ⟨p, e, s, m, args, below, meth, c, Q, A, R, g⟩
  obtain ⟨hx, hb, hml, hown, hts, hr, hlk, hK, hA, hA0, hR, hSg, hnm, hb0⟩ := hk
  obtain ⟨⟨rfl, rfl⟩, hout⟩ := he
  intro H locs ls hP hD hS hl
  have hw := okT_at hE hts hSg.1
  have hstr := hSg.2.2.2.1.2.2.1 i hi.1
  rw [hi.2] at hstr
  refine vx_throwS hx hb hfl hown hE.1.1 hE.1.2 (hw _ List.mem_cons_self) (hw _ (List.mem_cons_of_mem _ List.mem_cons_self)) hstr (fun w h => hw w (List.mem_cons_of_mem _ (List.mem_cons_of_mem _ h))) (okT_ot hE)
    (hSg.2.2.2.1.2.2.2.1.narrow hA0) (hSg.2.2.2.1.2.2.2.2.narrow hA0) hS hl.1 d0 d3 d4 d6 d9 (fun z hz => absurd (hout z hz) id) ?_ ?_ ?_ ?_ hlk ?_ hS.2.2 hc.1 hc.2
  · rw [hR]; exact hrk.1
  · rw [hR]; exact hrk.2
  · rw [hR]; exact hc.1
  · rw [hR]; exact hc.2
  · intro t _ hz hkp
    exact ⟨x, hp, hP.kept (fun k q hq => hkp q.1 ((hP k q hq).lt)), Nat.le_trans hS.1 hz, fun q h1 h2 => by rw [hkp q (Nat.lt_of_lt_of_le h1 hS.1)]; exact hS.2.1 q h1 h2⟩
/-- behind a call that returns or throws -/
theorem xgoT {p : Program} {e : Env} {s : State} {m : MethodId} {args : Array Value} {below : List Frame} {meth : Method} {c : Code} {Q : State → Prop} {A : Nat → Prop} {R : Room} {g : Gx} {mc2 ms2 : Nat} {H : Heap} {locs : List Loc} {ls : Array Slot} {st0 : List Value} {av : Array Value}
    (hA : ∀ q : Nat, s.heap.size ≤ q → A q) (hr : vx_Run p g.1 e R s m args below meth c H locs cells slots mc2 ms2 (F0 m pc ls st0) stk (PostX g lay a (fun v x' => r = .inr (v, x')) H.size av) (XCx g lay a r H.size) (Aw lay a H.size)) (hD : va_D A (wl g.2.2.1 lay a x)) (hS : va_S A s.heap H locs)
    (kx : ∀ (E : String) (x' : XS) (H1 : Heap) (locs1 : List Loc) (ce : Cell) (q9 : Addr), r = .inl (E, x') → (∀ q : Nat, q < H.size → ¬ Aw lay a H.size q → H1[q]? = H[q]?) → va_P g.2.1 vwCl (wl g.2.2.1 lay a x') H1 → va_S A s.heap H1 locs1 → H1[q9]? = some ce → ce.vm = .none → s.vm.findClass E = some ce.cls → vx_W p g.1 e R s m args below meth c H1 locs1 (cells + mc2) (slots + ms2) Q (F0 m pc ls stk) q9)
    (kk : ∀ (v : Option Value) (x' : XS) (H1 : Heap) (locs1 : List Loc), r = .inr (v, x') → (∀ q : Nat, q < H.size → ¬ Aw lay a H.size q → H1[q]? = H[q]?) → va_P g.2.1 vwCl (wl g.2.2.1 lay a x') H1 → va_S A s.heap H1 locs1 → W p g.1 e R s m args below meth c H1 locs1 (cells + mc2) (slots + ms2) Q (F0 m (pc + 3) ls (v.toList ++ stk))) : W p g.1 e R s m args below meth c H locs cells slots Q (F0 m pc ls st0) := by
  have hf : ∀ q, Aw lay a H.size q → A q := Aw_of hD (fun q h => hA q (Nat.le_trans hS.1 h))
  have keep : ∀ {st₀ t T' : State} {L2 : List Loc}, st₀.heap = H → T'.heap = t.heap → va_F (Aw lay a H.size) st₀ t → (∀ z ∈ L2, Aw lay a H.size z.base) → (∀ q : Nat, q < H.size → ¬ Aw lay a H.size q → T'.heap[q]? = H[q]?) ∧ va_S A s.heap T'.heap (locs ++ L2) := by
    intro st₀ t T' L2 h0 e1 hF hL
    obtain ⟨hz, hkp⟩ := hF
    rw [h0] at hz hkp
    exact ⟨fun q h1 h2 => by rw [e1]; exact hkp q h1 h2, Nat.le_trans hS.1 (by rw [e1]; exact hz), fun q h1 h2 => by rw [e1, hkp q (Nat.lt_of_lt_of_le h1 hS.1) (fun z => h2 (hf q z))]; exact hS.2.1 q h1 h2, fun q hq => by
      rcases List.mem_append.mp hq with h | h
      · exact hS.2.2 q h
      · exact hf _ (hL q h)⟩
  intro T hT X
  rcases hr T hT X with ⟨v, st₀, t, T', L2, h0, X', hL, e1, e2, ⟨⟨v', x', hv, hp, hb⟩, hF⟩, st⟩ | ⟨q, st₀, t, T', L2, E, ce, h0, X', hL, e1, e2, ⟨x', hp, hb, hF⟩, hce, hcv, hcl, st⟩
  · cases hv
    obtain ⟨k1, k2⟩ := keep h0 e1 hF hL
    obtain ⟨t2, a1, b1⟩ := kk v x' T'.heap (locs ++ L2) hp k1 (by rw [e1]; exact hb) k2 T' rfl X'
    exact ⟨t2, st t2 a1, b1⟩
  · obtain ⟨k1, k2⟩ := keep h0 e1 hF hL
    obtain ⟨t2, a1, b1⟩ := kx E x' T'.heap (locs ++ L2) ce q hp k1 (by rw [e1]; exact hb) k2 (by rw [e1]; exact hce) hcv hcl T' rfl X'
    exact ⟨t2, st.trans a1, b1⟩
variable {y : MethodName} {cy : ByteArray} {nLy rky mcy msy n idx q : Nat} {rety : Option FieldType} {As : List Value}
theorem xcallVT (hk : Fok k cc nL own ret nm rk mc ms) (he : EndsT k lay a u mc ms) (M : Tx (kg k) y cy nLy rety rky mcy msy lay a x (.ref (a q) :: As) r) (cb : CBv y cy nLy rety n) (hw : Cond.methodLink own idx y ∈ GW) (d : decode cc pc = .ok (.invokevirtual idx, 3)) (hs : st0 = As.reverse ++ .ref (a q) :: stk) (hq : ∃ (ci : Nat) (ft : List Nat) (F : u_T) (N : Nat), lay[q]? = some (.inl (ci, ft)) ∧ vwCl[ci]? = some (y.cls, F, N)) (hn : As.length = n) (hrk : rky < rk) (hc : cells + mcy ≤ mc ∧ slots + msy ≤ ms) (hst : (stk.map fun v => v.category).sum ≤ 8) {f : XS → Option RT} (h : rbo r f = some u)
    (kk : ∀ (v : Option Value) (x' : XS), r = .inr (v, x') → f x' = some u → Wx k (cells + mcy) (slots + msy) lay a x' (pc + 3) L (v.toList ++ stk)) : Wx k cells slots lay a x pc L st0 := by
  rcases k with ⟨p, e, s, m, args, below, meth, c, Q, A, R, g⟩
  obtain ⟨hx, hb, hml, hown, hts, hr, hlk, hK, hA, hA0, hR, hSg, hnm, hb0⟩ := hk
  obtain ⟨⟨hcode, hini, hd, h45⟩, hinst, hsel⟩ := cb
  obtain ⟨ci, ft, F, N, hlay, hcl⟩ := hq
  subst hs
  intro H locs ls hP hD hS hl
  have hRR := room_in (mcy := mcy) (msy := msy) hR hrk h45
  refine xgoT hA (vx_runV (ws := Cond.code y cy nLy rety :: GW) (rm := roomX rky mcy msy) (Ts := GW) (own := own) (C := y.cls) (cc := cc) (nL := nL) (As := As) (rest := stk) (n := n) ⟨hx, hb, hml, hown, hts⟩ (M H.size) ⟨callB_of n hts (goodIn_self hcode) rfl rfl rfl (hts _ hini) (hts _ hw) hd hRR, hts _ hinst, hts _ hsel⟩
    ⟨preX_blind _ _ _ _ _ _, va_recv hK hP (ci := ci) (q0 := q) hcl (wl_getO hlay hcl), preX_at hK hb0 hA0 hSg hP hD hS⟩ rfl hn (hl.1.trans hml) rfl (lv_room hst) d (by subst hR; exact hc)) hD hS ?_ ?_
  · intro E x' H1 locs1 ce q9 hr9 _ hP1 hS1 hce hcv hcl9
    obtain ⟨⟨rfl, rfl⟩, hout⟩ := he
    have hu : u = .inl (E, x') := by rw [hr9] at h; exact (Option.some.inj h).symm
    exact vx_out (fun z hz => absurd (hout z hz) id) hlk hce hcv hcl9 (fun t ht _ => ⟨x', hu, by rw [ht]; exact hP1, hS1.F ht⟩) hS1.2.2 hc.1 hc.2
  · intro v x' H1 locs1 hr9 _ hP1 hS1
    exact kk v x' hr9 (by rw [hr9] at h; exact h) H1 locs1 ls hP1 (wl_D hD) hS1 hl
end WT

theorem okISE : okT "java/lang/IllegalStateException" 84 88 ["java/lang/RuntimeException", "java/lang/Exception"] := ⟨⟨by decide +kernel, by decide +kernel⟩, by decide +kernel⟩
theorem okIAE : okT "java/lang/IllegalArgumentException" 95 99 ["java/lang/RuntimeException", "java/lang/Exception"] := ⟨⟨by decide +kernel, by decide +kernel⟩, by decide +kernel⟩
theorem okIOB : okT "java/lang/IndexOutOfBoundsException" 190 194 ["java/lang/RuntimeException", "java/lang/Exception"] := ⟨⟨by decide +kernel, by decide +kernel⟩, by decide +kernel⟩
