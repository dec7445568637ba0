
section WO
variable {k : Kx} {cc : ByteArray} {nL rk mc ms pc cells slots : Nat} {own nm : String} {ret : Option FieldType} {lay : List Kd} {a : Nat → Nat} {x : XS} {L : List (Nat × Value)} {stk st0 : List Value}
theorem xobjInit (hk : Fok k cc nL own ret nm rk mc ms) {idx q : Nat} (d : decode cc pc = .ok (.invokespecial idx, 3)) (hw : Cond.methodLink own idx Lib.objectInit ∈ GW) (hrk : 0 < rk) (hst : (stk.map fun v => v.category).sum ≤ 8) (kk : Wx k cells slots lay a x (pc + 3) L stk) : Wx k cells slots lay a x pc L (.ref (a q) :: stk) := by
  rcases k with ⟨p, e, s, m, args, below, meth, c, Q, A, R, g⟩
  obtain ⟨hx, hb, hml, hown, hts, hr, hlk, hK, hA, hA0, hR, hSg, hnm, hb0⟩ := hk
  subst hR
  intro H locs ls hP hD hS hl
  exact W.objInit hx hb hown (hts _ hw) (hts _ w_objInst) (hts _ w_objCode) rfl hl.1 rfl d hrk (by show 2 * _ + _ + 12 ≤ 64 * rk; simp only [JFrame.monitorRoom]; omega) (kk H locs ls hP hD hS hl)
/-- a field's kind is set: null becomes a cell, or a cell another -/
theorem flist_setK {a : Nat → Nat} {x : XS} {q k j : Nat} {ft : List Nat} (h : k < ft.length) : (flist a x q ft).set k (.ref (a j)) = flist a x q (ft.set k (j + 3)) := by
  apply List.ext_getElem?
  intro i
  by_cases hi : i < ft.length
  · by_cases hk : i = k
    · subst hk
      rw [List.getElem?_set_self (by rw [flist_len]; exact hi), flist_get (t := j + 3) (by rw [List.getElem?_set_self hi])]
      rfl
    · have hg := List.getElem?_eq_getElem hi
      rw [List.getElem?_set_ne (fun z => hk z.symm), flist_get hg, flist_get (t := ft[i]) (by rw [List.getElem?_set_ne (fun z => hk z.symm)]; exact hg)]
  · rw [List.getElem?_eq_none (by simp [flist_len]; omega), List.getElem?_eq_none (by simp [flist_len]; omega)]
theorem wl_setK {T : Nat → ClassId} {lay : List Kd} {a : Nat → Nat} {x : XS} {q k ci j : Nat} {ft : List Nat} (hc : ci < 100) (h : lay[q]? = some (.inl (ci, ft))) (hk : k < ft.length) : (wl T lay a x).set q (a q, .inr (ci, (flist a x q ft).set k (.ref (a j)))) = wl T (lay.set q (.inl (ci, ft.set k (j + 3)))) a x := by
  have hq := (List.getElem?_eq_some_iff.mp h).1
  rw [flist_setK hk]
  apply List.ext_getElem?
  intro i
  by_cases hi : i < lay.length
  · have hg := List.getElem?_eq_getElem hi
    by_cases hiq : i = q
    · subst hiq
      rw [List.getElem?_set_self (by rw [wl_len]; exact hi), wl_get (kd := .inl (ci, ft.set k (j + 3))) (by rw [List.getElem?_set_self hi]), cell_o hc]
    · rw [List.getElem?_set_ne (fun z => hiq z.symm), wl_get hg, wl_get (kd := lay[i]) (by rw [List.getElem?_set_ne (fun z => hiq z.symm)]; exact hg)]
  · rw [List.getElem?_eq_none (by simp [wl_len]; omega), List.getElem?_eq_none (by simp [wl_len]; omega)]
/-- putfield of a reference that changes the kind; of a final field in a constructor -/
theorem xputK (hk : Fok k cc nL own ret nm rk mc ms) {q ci f idx N j : Nat} {C : String} {F : u_T} {ft : List Nat} {ty : FieldType} (d : decode cc pc = .ok (.putfield idx, 3)) (hc : vwCl[ci]? = some (C, F, N)) (hfN : f < N) (hlay : lay[q]? = some (.inl (ci, ft))) (hfl : f < ft.length) (hw : Cond.fieldLink own idx (F f).1 (F f).2.1 (F f).2.2.1 ∈ GW) (hfin : (F f).2.2.2 = false) (hd : parseFieldDescriptor (F f).2.2.1 = some ty) (hnf : ∀ r, narrow ty (.ref r) = .ref r ∧ fits ty (.ref r) = true) (kk : Wx k cells slots (lay.set q (.inl (ci, ft.set f (j + 3)))) a x (pc + 3) L stk) : Wx k cells slots lay a x pc L (.ref (a j) :: .ref (a q) :: stk) := by
  rcases k with ⟨p, e, s, m, args, below, meth, c, Q, A, R, g⟩
  obtain ⟨hx, hb, hml, hown, hts, hr, hlk, hK, hA, hA0, hR, hSg, hnm, hb0⟩ := hk
  obtain ⟨⟨ty0, hty⟩, hnd⟩ := cls_ty hc
  intro H locs ls hP hD hS hl
  refine va_put hx hb hts (cls_GW hc) ty0 hty hnd hown hK hP hD hS q (wl_getO hlay hc) hc f hfN (hts _ hw) (fun _ h => h) hfin hd (hnf _).1 (hnf _).2 (by rw [flist_len]; exact hfl) d (fun H1 locs1 hP hD hS => ?_)
  rw [wl_setK (vw_lt hc) hlay hfl] at hP hD
  exact kk H1 locs1 ls hP hD hS hl
theorem xputF (hk : Fok k cc nL own ret "<init>" rk mc ms) {q ci f idx N j : Nat} {C : String} {F : u_T} {ft : List Nat} {ty : FieldType} (d : decode cc pc = .ok (.putfield idx, 3)) (hc : vwCl[ci]? = some (C, F, N)) (hfN : f < N) (hlay : lay[q]? = some (.inl (ci, ft))) (hfl : f < ft.length) (hw : Cond.fieldLink own idx (F f).1 (F f).2.1 (F f).2.2.1 ∈ GW) (hfin : (F f).2.2.2 = true) (hdec : (F f).1 = own) (hd : parseFieldDescriptor (F f).2.2.1 = some ty) (hnf : ∀ r, narrow ty (.ref r) = .ref r ∧ fits ty (.ref r) = true) (kk : Wx k cells slots (lay.set q (.inl (ci, ft.set f (j + 3)))) a x (pc + 3) L stk) : Wx k cells slots lay a x pc L (.ref (a j) :: .ref (a q) :: stk) := by
  rcases k with ⟨p, e, s, m, args, below, meth, c, Q, A, R, g⟩
  obtain ⟨hx, hb, hml, hown, hts, hr, hlk, hK, hA, hA0, hR, hSg, hnm, hb0⟩ := hk
  obtain ⟨⟨ty0, hty⟩, hnd⟩ := cls_ty hc
  intro H locs ls hP hD hS hl
  refine va_putF hx hb hts (cls_GW hc) ty0 hty hnd hown hK hP hD hS q (wl_getO hlay hc) hc f hfN (hts _ hw) (fun _ h => h) hfin hnm hdec hd (hnf _).1 (hnf _).2 (by rw [flist_len]; exact hfl) d (fun H1 locs1 hP hD hS => ?_)
  rw [wl_setK (vw_lt hc) hlay hfl] at hP hD
  exact kk H1 locs1 ls hP hD hS hl
/-- another layout of the same cells, or of fewer: cell q of the new is cell f q of the old -/
theorem xre {lay' : List Kd} {a' : Nat → Nat} {x' : XS} (f : Nat → Nat) (h : ∀ T, ∀ q kd, lay'[q]? = some kd → a' q = a (f q) ∧ (∃ kd0, lay[f q]? = some kd0 ∧ cellOf T a' x' q kd = cellOf T a x (f q) kd0)) (hi : ∀ i j : Nat, i < lay'.length → j < lay'.length → f i = f j → i = j) (kk : Wx k cells slots lay' a' x' pc L stk) : Wx k cells slots lay a x pc L stk := by
  rcases k with ⟨p, e, s, m, args, below, meth, c, Q, A, R, g⟩
  intro H locs ls hP hD hS hl
  exact kk H locs ls (hP.by f (wl_re f (h g.2.2.1))) (hD.by f (wl_re f (h g.2.2.1)) (by rw [wl_len]; exact hi)) hS hl
/-- the last cells are let go -/
theorem xdrop {kds : List Kd} {a' : Nat → Nat} (P : Nat → Bool) (hok : okR lay P = true) (ha : ∀ j, P j = true → a' j = a j) (kk : Wx k cells slots lay a x pc L stk) : Wx k cells slots (lay ++ kds) a' x pc L stk := by
  refine xre id (fun T q kd hq => ⟨(ha q (okR_own hok (List.getElem?_eq_some_iff.mp hq).1)).symm, kd, ?_, ?_⟩) (fun i j _ _ h => h) kk
  · rw [id, List.getElem?_append_left (List.getElem?_eq_some_iff.mp hq).1]; exact hq
  · exact (cell_a (fun o t ho ht h3 => ha _ (okR_ref hok (by rw [hq, ho]) ht h3))).symm
end WO
/-! Contracts whose layout may be another at the end -/
def PostZ (g : Gx) (lay : List Kd) (a : Nat → Nat) (post : Option Value → List Kd → (Nat → Nat) → XS → Prop) (sz : Nat) : Array Value → State → Outcome → State → Prop := fun _ st o t => (∃ (v : Option Value) (lay' : List Kd) (a' : Nat → Nat) (x' : XS), o = .returned v ∧ post v lay' a' x' ∧ va_P g.2.1 vwCl (wl g.2.2.1 lay' a' x') t.heap ∧ va_D (Aw lay a sz) (wl g.2.2.1 lay' a' x')) ∧ va_F (Aw lay a sz) st t
def Mz (g : Gx) (y : MethodName) (cc : ByteArray) (maxL : Nat) (ret : Option FieldType) (rk mc ms : Nat) (lay : List Kd) (a : Nat → Nat) (x : XS) (av : List Value) (post : Option Value → List Kd → (Nat → Nat) → XS → Prop) : Prop :=
  ∀ sz : Nat, Met g.1 y (Cond.code y cc maxL ret :: GW) (roomX rk mc ms) (PreX g lay a x av sz) (PostZ g lay a post sz) mc ms (Aw lay a sz)
def EndsZ (k : Kx) (lay : List Kd) (a : Nat → Nat) (post : Option Value → List Kd → (Nat → Nat) → XS → Prop) (mc ms : Nat) : Prop := match k with
  | (p, e, s, m, args, below, meth, c, Q, A, R, g) => Q = MQ below (PostZ g lay a post s.heap.size) args s mc ms (Aw lay a s.heap.size) ∧ A = Aw lay a s.heap.size
theorem Mz_of {g : Gx} {y : MethodName} {cc : ByteArray} {maxL : Nat} {ret : Option FieldType} {rk mc ms : Nat} {lay : List Kd} {a : Nat → Nat} {x : XS} {av : List Value} {post : Option Value → List Kd → (Nat → Nat) → XS → Prop} (hy : plainName y.cls = true) (hav : (lg_sl av).length ≤ maxL)
    (body : ∀ k : Kx, Fok k cc maxL y.cls ret y.name rk mc ms → EndsZ k lay a post mc ms → g = kg k → Wx k 0 0 lay a x 0 (lv_args 0 av) []) : Mz g y cc maxL ret rk mc ms lay a x av post := by
  intro sz
  refine Met.ofW (cc := cc) (maxL := maxL) (ret := ret) hy rfl ?_
  intro p e s m args below meth c s₁ B hml hv
  obtain ⟨rfl, hsz, hb0, hP, hK, hD0, hSg⟩ := hv
  have hts := atoms_spec (ws := Cond.code y cc maxL ret :: GW) B.pre
  subst hsz
  have hAb : ∀ q, Aw lay a s.heap.size q → g.2.2.2.1 ≤ q := Aw_of hD0 (fun q h => Nat.le_trans hb0 h)
  have hD : va_D (Aw lay a s.heap.size) (wl g.2.2.1 lay a x) := hD0.weaken (fun j q hj _ => by
    obtain ⟨kd, h1, rfl⟩ := wl_some hj
    exact Or.inl ⟨j, (List.getElem?_eq_some_iff.mp h1).1, rfl⟩)
  have hl := lv_entry av hav
  rw [lg_entry_eq]
  exact body (p, e, s, m, av.toArray, below, meth, c, _, Aw lay a s.heap.size, roomX rk mc ms, g)
    ⟨B.exec, B.bytes, hml, findClass_of_methodNamed B.named, fun w hw => hts w (List.mem_cons_of_mem _ hw), B.returns, B.notSynchronized, hK, fun q h => Or.inr h, hAb, rfl, hSg, (name_of_methodNamed B.named B.method).1, hb0⟩ ⟨rfl, rfl⟩ rfl s.heap [] _ hP hD va_S.rf (by rw [hml]; exact hl)
section WZ
variable {k : Kx} {cc : ByteArray} {nL rk mc ms pc cells slots : Nat} {own nm : String} {ret : Option FieldType} {lay lay0 : List Kd} {a a0 : Nat → Nat} {x : XS} {L : List (Nat × Value)} {stk st0 : List Value} {post : Option Value → List Kd → (Nat → Nat) → XS → Prop}
theorem xvretZ (hk : Fok k cc nL own none nm rk mc ms) (he : EndsZ k lay0 a0 post mc ms) (d : decode cc pc = .ok (.return_, 1)) (hc : cells ≤ mc ∧ slots ≤ ms) (hp : post none lay a x) : Wx k cells slots lay a x pc L [] := by
  rcases k with ⟨p, e, s, m, args, below, meth, c, Q, A, R, g⟩
  obtain ⟨hx, hb, hml, hown, hts, hr, hlk, hK, hA, hA0, hR, hSg, hnm, hb0⟩ := hk
  obtain ⟨rfl, rfl⟩ := he
  intro H locs ls hP hD hS hl
  refine W.widen hc.1 hc.2 ?_
  exact W.vret hx hb hr (fun t ht hW => ⟨⟨_, lay, a, x, rfl, hp, by rw [ht]; exact hP, hD⟩, hS.F ht⟩) hS.2.2 d hlk
theorem xiretZ (hk : Fok k cc nL own (some .int) nm rk mc ms) (he : EndsZ k lay0 a0 post mc ms) {v : Int32} (d : decode cc pc = .ok (.ireturn, 1)) (hc : cells ≤ mc ∧ slots ≤ ms) (hp : post (some (.int v)) lay a x) : Wx k cells slots lay a x pc L [.int v] := by
  rcases k with ⟨p, e, s, m, args, below, meth, c, Q, A, R, g⟩
  obtain ⟨hx, hb, hml, hown, hts, hr, hlk, hK, hA, hA0, hR, hSg, hnm, hb0⟩ := hk
  obtain ⟨rfl, rfl⟩ := he
  intro H locs ls hP hD hS hl
  refine W.widen hc.1 hc.2 ?_
  exact W.iret hx hb hr (fun t ht hW => ⟨⟨_, lay, a, x, rfl, hp, by rw [ht]; exact hP, hD⟩, hS.F ht⟩) hS.2.2 d hlk
theorem xaretZ {rt : FieldType} (hk : Fok k cc nL own (some rt) nm rk mc ms) (he : EndsZ k lay0 a0 post mc ms) {v : Nat} (d : decode cc pc = .ok (.areturn, 1)) (hrt : (∃ n, rt = .object n) ∨ ∃ t, rt = .array t) (hc : cells ≤ mc ∧ slots ≤ ms) (hp : post (some (.ref v)) lay a x) : Wx k cells slots lay a x pc L [.ref v] := by
  rcases k with ⟨p, e, s, m, args, below, meth, c, Q, A, R, g⟩
  obtain ⟨hx, hb, hml, hown, hts, hr, hlk, hK, hA, hA0, hR, hSg, hnm, hb0⟩ := hk
  obtain ⟨rfl, rfl⟩ := he
  intro H locs ls hP hD hS hl
  refine W.widen hc.1 hc.2 ?_
  exact W.aret hx hb hr hrt (Or.inr ⟨v, rfl⟩) (fun t ht hW => ⟨⟨_, lay, a, x, rfl, hp, by rw [ht]; exact hP, hD⟩, hS.F ht⟩) hS.2.2 d hlk
theorem xgoZ {p : Program} {e : Env} {s : State} {m : MethodId} {args : Array Value} {below : List Frame} {meth : Method} {c : Code} {Q : State → Prop} {A : Nat → Prop} {R : Room} {g : Gx} {mc2 ms2 : Nat} {H : Heap} {locs : List Loc} {ls : Array Slot} {st0 : List Value} {av : Array Value}
    (hA : ∀ q : Nat, s.heap.size ≤ q → A q) (hr : va_Run p g.1 e R s m args below meth c H locs cells slots mc2 ms2 (F0 m pc ls st0) stk (PostZ g lay a post H.size av) (Aw lay a H.size)) (hD : va_D A (wl g.2.2.1 lay a x)) (hS : va_S A s.heap H locs) (hl : lv_has ls c.maxLocals L)
    (kk : ∀ (v : Option Value) (lay' : List Kd) (a' : Nat → Nat) (x' : XS), post v lay' a' x' → Wx (p, e, s, m, args, below, meth, c, Q, A, R, g) (cells + mc2) (slots + ms2) lay' a' x' (pc + 3) L (v.toList ++ stk)) : W p g.1 e R s m args below meth c H locs cells slots Q (F0 m pc ls st0) := by
  have hf : ∀ q, Aw lay a H.size q → A q := Aw_of hD (fun q h => hA q (Nat.le_trans hS.1 h))
  intro T hT X
  obtain ⟨v, st₀, t, T', L2, h0, X', hL, e1, e2, ⟨⟨v', lay', a', x', hv, hp, hb, hd⟩, hz, hkp⟩, st⟩ := hr T hT X
  cases hv
  rw [h0] at hz hkp
  obtain ⟨t2, a1, b1⟩ := kk v lay' a' x' hp T'.heap (locs ++ L2) ls (by rw [e1]; exact hb) (hd.weaken (fun _ q _ h => hf q.1 h))
    ⟨Nat.le_trans hS.1 (by rw [e1]; exact hz), fun q h1 h2 => by rw [e1, hkp q (Nat.lt_of_lt_of_le h1 hS.1) (fun z => h2 (hf q z))]; exact hS.2.1 q h1 h2, fun q hq => by
      rcases List.mem_append.mp hq with h | h
      · exact hS.2.2 q h
      · exact hf _ (hL q h)⟩ hl T' rfl X'
  exact ⟨t2, st t2 a1, b1⟩
/-- a constructor is called -/
theorem xcallI (hk : Fok k cc nL own ret nm rk mc ms) {y : MethodName} {cy : ByteArray} {nLy rky mcy msy n idx b : Nat} {As : List Value} (M : Mz (kg k) y cy nLy none rky mcy msy lay a x (.ref b :: As) post) (cb : CBx y cy nLy none n) (hin : Cond.instanceMethod y ∈ GW) (hy1 : y.name = "<init>") (hw : Cond.methodLink own idx y ∈ GW) (d : decode cc pc = .ok (.invokespecial idx, 3)) (hs : st0 = As.reverse ++ .ref b :: stk) (hn : As.length = n) (hrk : rky < rk) (hc : cells + mcy ≤ mc ∧ slots + msy ≤ ms) (hst : (stk.map fun v => v.category).sum ≤ 8)
    (kk : ∀ (v : Option Value) (lay' : List Kd) (a' : Nat → Nat) (x' : XS), post v lay' a' x' → Wx k (cells + mcy) (slots + msy) lay' a' x' (pc + 3) L (v.toList ++ stk)) : Wx k cells slots lay a x pc L st0 := by
  rcases k with ⟨p, e, s, m, args, below, meth, c, Q, A, R, g⟩
  obtain ⟨hx, hb, hml, hown, hts, hr, hlk, hK, hA, hA0, hR, hSg, hnm, hb0⟩ := hk
  obtain ⟨hcode, hini, hd, h45⟩ := cb
  subst hs
  intro H locs ls hP hD hS hl
  have hRR := room_in (mcy := mcy) (msy := msy) hR hrk h45
  exact xgoZ hA (va_runI (ws := Cond.code y cy nLy none :: GW) (rm := roomX rky mcy msy) (Ts := GW) (own := own) (cc := cc) (nL := nL) (As := As) (rest := stk) (n := n) ⟨hx, hb, hml, hown, hts⟩ (M H.size) (cwI n hts (goodIn_self hcode) rfl rfl rfl (hts _ hini) (hts _ hw) (hts _ hin) hy1 hd hRR)
    ⟨preX_blind _ _ _ _ _ _, preX_at hK hb0 hA0 hSg hP hD hS⟩ rfl hn (hl.1.trans hml) rfl (lv_room hst) d (by subst hR; exact hc)) hD hS hl kk
/-- a static method, a virtual one, whose layout changes -/
theorem xcallSZ (hk : Fok k cc nL own ret nm rk mc ms) {y : MethodName} {cy : ByteArray} {nLy rky mcy msy n idx : Nat} {rety : Option FieldType} {As : List Value} (M : Mz (kg k) y cy nLy rety rky mcy msy lay a x As post) (cb : CBs y cy nLy rety n) (hw : Cond.methodLink own idx y ∈ GW) (d : decode cc pc = .ok (.invokestatic idx, 3)) (hs : st0 = As.reverse ++ stk) (hn : As.length = n) (hrk : rky < rk) (hc : cells + mcy ≤ mc ∧ slots + msy ≤ ms) (hst : (stk.map fun v => v.category).sum ≤ 8)
    (kk : ∀ (v : Option Value) (lay' : List Kd) (a' : Nat → Nat) (x' : XS), post v lay' a' x' → Wx k (cells + mcy) (slots + msy) lay' a' x' (pc + 3) L (v.toList ++ stk)) : Wx k cells slots lay a x pc L st0 := by
  rcases k with ⟨p, e, s, m, args, below, meth, c, Q, A, R, g⟩
  obtain ⟨hx, hb, hml, hown, hts, hr, hlk, hK, hA, hA0, hR, hSg, hnm, hb0⟩ := hk
  obtain ⟨⟨hcode, hini, hd, h45⟩, hstat⟩ := cb
  subst hs
  intro H locs ls hP hD hS hl
  have hRR := room_in (mcy := mcy) (msy := msy) hR hrk h45
  exact xgoZ hA (va_runS (ws := Cond.code y cy nLy rety :: GW) (rm := roomX rky mcy msy) (Ts := GW) (own := own) (cc := cc) (nL := nL) (As := As) (rest := stk) (n := n) ⟨hx, hb, hml, hown, hts⟩ (M H.size) ⟨callB_of n hts (goodIn_self hcode) rfl rfl rfl (hts _ hini) (hts _ hw) hd hRR, hts _ hstat⟩
    ⟨preX_blind _ _ _ _ _ _, preX_at hK hb0 hA0 hSg hP hD hS⟩ rfl hn (hl.1.trans hml) rfl (lv_room hst) d (by subst hR; exact hc)) hD hS hl kk
theorem xcallVZ (hk : Fok k cc nL own ret nm rk mc ms) {y : MethodName} {cy : ByteArray} {nLy rky mcy msy n idx q : Nat} {rety : Option FieldType} {As : List Value} (M : Mz (kg k) y cy nLy rety rky mcy msy lay a x (.ref (a q) :: As) post) (cb : CBv y cy nLy rety n) (hw : Cond.methodLink own idx y ∈ GW) (d : decode cc pc = .ok (.invokevirtual idx, 3)) (hs : st0 = As.reverse ++ .ref (a q) :: stk) (hq : ∃ (ci : Nat) (ft : List Nat) (F : u_T) (N : Nat), lay[q]? = some (.inl (ci, ft)) ∧ vwCl[ci]? = some (y.cls, F, N)) (hn : As.length = n) (hrk : rky < rk) (hc : cells + mcy ≤ mc ∧ slots + msy ≤ ms) (hst : (stk.map fun v => v.category).sum ≤ 8)
    (kk : ∀ (v : Option Value) (lay' : List Kd) (a' : Nat → Nat) (x' : XS), post v lay' a' x' → Wx k (cells + mcy) (slots + msy) lay' a' x' (pc + 3) L (v.toList ++ stk)) : Wx k cells slots lay a x pc L st0 := by
  rcases k with ⟨p, e, s, m, args, below, meth, c, Q, A, R, g⟩
  obtain ⟨hx, hb, hml, hown, hts, hr, hlk, hK, hA, hA0, hR, hSg, hnm, hb0⟩ := hk
  obtain ⟨⟨hcode, hini, hd, h45⟩, hinst, hsel⟩ := cb
  obtain ⟨ci, ft, F, N, hlay, hcl⟩ := hq
  subst hs
  intro H locs ls hP hD hS hl
  have hRR := room_in (mcy := mcy) (msy := msy) hR hrk h45
  exact xgoZ hA (va_runV (ws := Cond.code y cy nLy rety :: GW) (rm := roomX rky mcy msy) (Ts := GW) (own := own) (C := y.cls) (cc := cc) (nL := nL) (As := As) (rest := stk) (n := n) ⟨hx, hb, hml, hown, hts⟩ (M H.size) ⟨callB_of n hts (goodIn_self hcode) rfl rfl rfl (hts _ hini) (hts _ hw) hd hRR, hts _ hinst, hts _ hsel⟩
    ⟨preX_blind _ _ _ _ _ _, va_recv hK hP (ci := ci) (q0 := q) hcl (wl_getO hlay hcl), preX_at hK hb0 hA0 hSg hP hD hS⟩ rfl hn (hl.1.trans hml) rfl (lv_room hst) d (by subst hR; exact hc)) hD hS hl kk
end WZ

