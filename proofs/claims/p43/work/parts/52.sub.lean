
/-! A part of a layout, at an offset: a call that knows only this part -/
def mapK (σ : Nat → Nat) : Kd → Kd
  | .inl o => .inl (o.1, o.2.map (fun t => if t < 3 then t else σ (t - 3) + 3))
  | .inr z => .inr z
theorem flist_map {a : Nat → Nat} {x x' : XS} {q f : Nat} {σ : Nat → Nat} {ft : List Nat} (hx : ∀ k, x'.1 q k = x.1 f k ∧ x'.2 q k = x.2 f k) : flist (fun j => a (σ j)) x' q ft = flist a x f (ft.map (fun t => if t < 3 then t else σ (t - 3) + 3)) := by
  apply List.ext_getElem?
  intro i
  by_cases hi : i < ft.length
  · have hg := List.getElem?_eq_getElem hi
    rw [flist_get hg, flist_get (ft := ft.map _) (by rw [List.getElem?_map, hg]; rfl)]
    refine congrArg some ?_
    generalize ft[i] = t
    match t with
    | 0 => exact congrArg Value.int (hx i).1
    | 1 => exact congrArg Value.long (hx i).2
    | 2 => rfl
    | j + 3 =>
      show fval (fun j => a (σ j)) x' q i (j + 3) = fval a x f i (if j + 3 < 3 then j + 3 else σ (j + 3 - 3) + 3)
      rw [if_neg (by omega)]
      rfl
  · rw [List.getElem?_eq_none (by simp [flist_len]; omega), List.getElem?_eq_none (by simp [flist_len]; omega)]
theorem cell_map {T : Nat → ClassId} {a : Nat → Nat} {x x' : XS} {q f : Nat} {σ : Nat → Nat} (hx : ∀ k, x'.1 q k = x.1 f k ∧ x'.2 q k = x.2 f k) (kd : Kd) : cellOf T (fun j => a (σ j)) x' q kd = cellOf T a x f (mapK σ kd) := by
  match kd with
  | .inl o =>
    have hr : (fun j => rfN (fun j => a (σ j)) (o.2.getD j 2)) = fun j => rfN a ((o.2.map (fun t => if t < 3 then t else σ (t - 3) + 3)).getD j 2) := by
      funext j
      by_cases hj : j < o.2.length
      · have hg := List.getElem?_eq_getElem hj
        rw [List.getD, List.getD, List.getElem?_map, hg]
        show rfN _ o.2[j] = rfN a (if o.2[j] < 3 then o.2[j] else σ (o.2[j] - 3) + 3)
        generalize o.2[j] = t
        match t with
        | 0 => rfl
        | 1 => rfl
        | 2 => rfl
        | j + 3 => rw [if_neg (by omega)]; rfl
      · rw [List.getD, List.getD, List.getElem?_eq_none (by omega), List.getElem?_eq_none (by simp; omega)]; rfl
    simp only [cellOf, mapK, flist_map hx, hr, List.length_map]
  | .inr (0, n) => simp [cellOf, mapK, fun k => (hx k).1]
  | .inr (1, n) => simp [cellOf, mapK, fun k => (hx k).2]
  | .inr (c + 2, n) => simp [cellOf, mapK, fun k => (hx k).1]
/-- the cells under other numbers -/
theorem xmap {k : Kx} {pc cells slots : Nat} {lay lay' : List Kd} {a : Nat → Nat} {x x' : XS} {L : List (Nat × Value)} {stk : List Value} (σ : Nat → Nat) (h : (List.range lay'.length).all (fun q => decide (lay[σ q]? = (lay'[q]?).map (mapK σ))) = true)
    (hi : (List.range lay'.length).all (fun i => (List.range lay'.length).all (fun j => !(σ i == σ j) || i == j)) = true) (hx : ∀ q, q < lay'.length → ∀ k, x'.1 q k = x.1 (σ q) k ∧ x'.2 q k = x.2 (σ q) k)
    (kk : Wx k cells slots lay' (fun j => a (σ j)) x' pc L stk) : Wx k cells slots lay a x pc L stk := by
  refine xre σ (fun T q kd hq => ?_) (fun i j hi1 hj1 e => ?_) kk
  · have hl := (List.getElem?_eq_some_iff.mp hq).1
    have h1 := of_decide_eq_true (List.all_eq_true.mp h q (List.mem_range.mpr hl))
    rw [hq] at h1
    exact ⟨rfl, _, h1, cell_map (hx q hl) kd⟩
  · have h1 := List.all_eq_true.mp (List.all_eq_true.mp hi i (List.mem_range.mpr hi1)) j (List.mem_range.mpr hj1)
    simp [e] at h1
    exact h1
def Sub (off : Nat) (lay1 lay : List Kd) : Bool := (List.range lay1.length).all (fun q => decide (lay[off + q]? = (lay1[q]?).map (mapK (fun j => off + j))))
theorem sub_get {off : Nat} {lay1 lay : List Kd} (h : Sub off lay1 lay = true) {q : Nat} {kd : Kd} (hq : lay1[q]? = some kd) : lay[off + q]? = some (mapK (fun j => off + j) kd) := by
  have h1 := of_decide_eq_true (List.all_eq_true.mp h q (List.mem_range.mpr (List.getElem?_eq_some_iff.mp hq).1))
  rw [h1, hq]; rfl
def pul (off : Nat) (x : XS) : XS := (fun i j => x.1 (off + i) j, fun i j => x.2 (off + i) j)
def xmix (off n : Nat) (x1 x : XS) : XS := (fun i j => if off ≤ i ∧ i < off + n then x1.1 (i - off) j else x.1 i j, fun i j => if off ≤ i ∧ i < off + n then x1.2 (i - off) j else x.2 i j)
theorem sub_wl {T : Nat → ClassId} {off : Nat} {lay1 lay : List Kd} {a : Nat → Nat} {x : XS} (h : Sub off lay1 lay = true) (k : Nat) (q : Nat × va_E) (hk : (wl T lay1 (fun j => a (off + j)) (pul off x))[k]? = some q) : (wl T lay a x)[off + k]? = some q := by
  obtain ⟨kd, h1, rfl⟩ := wl_some hk
  rw [wl_get (sub_get h h1), ← cell_map (σ := fun j => off + j) (x := x) (f := off + k) (x' := pul off x) (q := k) (fun _ => ⟨rfl, rfl⟩)]
theorem mix_P {D : va_G} {T : Nat → ClassId} {A : Nat → Prop} {off : Nat} {lay1 lay : List Kd} {a : Nat → Nat} {x x1 : XS} {H H1 : Heap} (h : Sub off lay1 lay = true) (hP : va_P D vwCl (wl T lay a x) H) (hD : va_D A (wl T lay a x))
    (hk : ∀ q : Nat, q < H.size → ¬ Aw lay1 (fun j => a (off + j)) H.size q → H1[q]? = H[q]?) (hP1 : va_P D vwCl (wl T lay1 (fun j => a (off + j)) x1) H1) : va_P D vwCl (wl T lay a (xmix off lay1.length x1 x)) H1 := by
  intro i q hq
  obtain ⟨kd, h1, rfl⟩ := wl_some hq
  by_cases hi : off ≤ i ∧ i < off + lay1.length
  · obtain ⟨j, rfl⟩ : ∃ j, i = off + j := ⟨i - off, by omega⟩
    have hj : j < lay1.length := by omega
    have h2 := sub_get h (List.getElem?_eq_getElem hj)
    rw [h1] at h2
    obtain rfl := Option.some.inj h2
    rw [← cell_map (σ := fun j => off + j) (x' := x1) (q := j) (fun k => by simp [xmix, hj])]
    exact hP1 j _ (wl_get (List.getElem?_eq_getElem hj))
  · rw [cell_other (x := x) (fun k => by simp only [xmix, if_neg hi]) (fun k => by simp only [xmix, if_neg hi])]
    have h0 := hP i _ (wl_get h1)
    refine h0.kept (hk _ h0.lt ?_)
    rintro (⟨j, hj, e⟩ | z)
    · have h2 := sub_get h (List.getElem?_eq_getElem hj)
      have := hD.1 _ _ _ _ (wl_get h1) (wl_get h2) e
      omega
    · have := h0.lt
      exact absurd this (Nat.not_lt.mpr z)
theorem sub_Aw {T : Nat → ClassId} {A : Nat → Prop} {off sz : Nat} {lay1 lay : List Kd} {a : Nat → Nat} {x : XS} (h : Sub off lay1 lay = true) (hD : va_D A (wl T lay a x)) (hA : ∀ q : Nat, sz ≤ q → A q) : ∀ q, Aw lay1 (fun j => a (off + j)) sz q → A q := by
  rintro q (⟨j, hj, rfl⟩ | h2)
  · exact hD.2 _ _ (wl_get (sub_get h (List.getElem?_eq_getElem hj)))
  · exact hA q h2
section WO
variable {k : Kx} {cc : ByteArray} {nL rk mc ms pc cells slots : Nat} {own nm : String} {ret : Option FieldType} {lay lay1 : List Kd} {a : Nat → Nat} {x : XS} {L : List (Nat × Value)} {stk st0 : List Value} {post : Option Value → XS → Prop} {u r : RT}
variable {y : MethodName} {cy : ByteArray} {nLy rky mcy msy n idx q : Nat} {rety : Option FieldType} {As : List Value}
theorem xgoO {p : Program} {e : Env} {s : State} {m : MethodId} {args : Array Value} {below : List Frame} {meth : Method} {c : Code} {Q : State → Prop} {A : Nat → Prop} {R : Room} {g : Gx} {mc2 ms2 : Nat} {H : Heap} {locs : List Loc} {ls : Array Slot} {st0 : List Value} {av : Array Value} (off : Nat) (hsub : Sub off lay1 lay = true)
    (hA : ∀ q : Nat, s.heap.size ≤ q → A q) (hr : va_Run p g.1 e R s m args below meth c H locs cells slots mc2 ms2 (F0 m pc ls st0) stk (PostX g lay1 (fun j => a (off + j)) post H.size av) (Aw lay1 (fun j => a (off + j)) H.size)) (hP : va_P g.2.1 vwCl (wl g.2.2.1 lay a x) H) (hD : va_D A (wl g.2.2.1 lay a x)) (hS : va_S A s.heap H locs) (hl : lv_has ls c.maxLocals L)
    (kk : ∀ (v : Option Value) (x1 : XS), post v x1 → Wx (p, e, s, m, args, below, meth, c, Q, A, R, g) (cells + mc2) (slots + ms2) lay a (xmix off lay1.length x1 x) (pc + 3) L (v.toList ++ stk)) : W p g.1 e R s m args below meth c H locs cells slots Q (F0 m pc ls st0) := by
  have hf := sub_Aw hsub hD (fun q h => hA q (Nat.le_trans hS.1 h))
  intro T hT X
  obtain ⟨v, st₀, t, T', L2, h0, X', hL, e1, e2, ⟨⟨v', x', hv, hp, hb⟩, hz, hkp⟩, st⟩ := hr T hT X
  cases hv
  rw [h0] at hz hkp
  have hkp' : ∀ q : Nat, q < H.size → ¬ Aw lay1 (fun j => a (off + j)) H.size q → T'.heap[q]? = H[q]? := fun q h1 h2 => by rw [e1]; exact hkp q h1 h2
  obtain ⟨t2, a1, b1⟩ := kk v x' hp T'.heap (locs ++ L2) ls (mix_P hsub hP hD hkp' (by rw [e1]; exact hb)) (wl_D hD)
    ⟨Nat.le_trans hS.1 (by rw [e1]; exact hz), fun q h1 h2 => by rw [hkp' q (Nat.lt_of_lt_of_le h1 hS.1) (fun z => h2 (hf q z))]; exact hS.2.1 q h1 h2, fun q hq => by
      rcases List.mem_append.mp hq with h | h
      · exact hS.2.2 q h
      · exact hf _ (hL q h)⟩ hl T' rfl X'
  exact ⟨t2, st t2 a1, b1⟩
theorem pre_O {s : State} {A : Nat → Prop} {g : Gx} {H : Heap} {locs : List Loc} {av : List Value} (off : Nat) (hsub : Sub off lay1 lay = true) (hK : va_K g.2.1 vwCl (tysT g.2.2.1) s) (hb0 : g.2.2.2.1 ≤ s.heap.size) (hA0 : ∀ q : Nat, A q → g.2.2.2.1 ≤ q) (hSg : Sg g (fun q => g.2.2.2.1 ≤ q) s s.heap) (hP : va_P g.2.1 vwCl (wl g.2.2.1 lay a x) H) (hD : va_D A (wl g.2.2.1 lay a x)) (hS : va_S A s.heap H locs) :
    ∀ U : State, U.heap = H → s.WarmedH U.vm → PreX g lay1 (fun j => a (off + j)) (pul off x) av H.size av.toArray U :=
  preX_at hK hb0 hA0 hSg (hP.by _ (sub_wl hsub)) (hD.by _ (sub_wl hsub) (fun i j _ _ h => by omega)) hS
/-- a call of a method that knows the part lay1 at off -/
theorem xcallVO (off : Nat) (hsub : Sub off lay1 lay = true) {a1 : Nat → Nat} {x0 : XS} (hpa : (fun j => a (off + j)) = a1) (hpx : pul off x = x0) (hk : Fok k cc nL own ret nm rk mc ms) (M : Mx (kg k) y cy nLy rety rky mcy msy lay1 a1 x0 (.ref (a1 q) :: As) post) (cb : CBv y cy nLy rety n) (hw : Cond.methodLink own idx y ∈ GW) (d : decode cc pc = .ok (.invokevirtual idx, 3)) (hs : st0 = As.reverse ++ .ref (a (off + q)) :: stk) (hq : ∃ (ci : Nat) (ft : List Nat) (F : u_T) (N : Nat), lay1[q]? = some (.inl (ci, ft)) ∧ vwCl[ci]? = some (y.cls, F, N)) (hn : As.length = n) (hrk : rky < rk) (hc : cells + mcy ≤ mc ∧ slots + msy ≤ ms) (hst : (stk.map fun v => v.category).sum ≤ 8)
    (kk : ∀ (v : Option Value) (x1 : XS), post v x1 → Wx k (cells + mcy) (slots + msy) lay a (xmix off lay1.length x1 x) (pc + 3) L (v.toList ++ stk)) : Wx k cells slots lay a x pc L st0 := by
  subst hpa
  subst hpx
  rcases k with ⟨p, e, s, m, args, below, meth, c, Q, A, R, g⟩
  obtain ⟨hx, hb, hml, hown, hts, hr, hlk, hK, hA, hA0, hR, hSg, hnm, hb0⟩ := hk
  obtain ⟨⟨hcode, hini, hd, h45⟩, hinst, hsel⟩ := cb
  obtain ⟨ci, ft, F, N, hlay, hcl⟩ := hq
  subst hs
  intro H locs ls hP hD hS hl
  have hRR := room_in (mcy := mcy) (msy := msy) hR hrk h45
  exact xgoO off hsub hA (va_runV (ws := Cond.code y cy nLy rety :: GW) (rm := roomX rky mcy msy) (Ts := GW) (own := own) (C := y.cls) (cc := cc) (nL := nL) (As := As) (rest := stk) (n := n) ⟨hx, hb, hml, hown, hts⟩ (M H.size) ⟨callB_of n hts (goodIn_self hcode) rfl rfl rfl (hts _ hini) (hts _ hw) hd hRR, hts _ hinst, hts _ hsel⟩
    ⟨preX_blind _ _ _ _ _ _, va_recv hK (hP.by _ (sub_wl hsub)) (ci := ci) (q0 := q) hcl (wl_getO hlay hcl), pre_O off hsub hK hb0 hA0 hSg hP hD hS⟩ rfl hn (hl.1.trans hml) rfl (lv_room hst) d (by subst hR; exact hc)) hP hD hS hl kk
/-- the table of a body with handlers, and that one exception is no other -/
def Tab (k : Kx) (hh : List (Nat × Nat × Nat × Nat)) : Prop := match k with
  | (p, e, s, m, args, below, meth, c, Q, A, R, g) => c.exceptionTable.toList = tableOf hh ∧ va_Nc "java/lang/IndexOutOfBoundsException" "java/lang/IllegalStateException" s
def Caught (k : Kx) (own : String) (hh : List (Nat × Nat × Nat × Nat)) (cells slots : Nat) (lay : List Kd) (a : Nat → Nat) (x : XS) (pc : Nat) (L : List (Nat × Value)) (E : String) : Prop :=
  ∃ (pre : List ExceptionTableEntry) (z : ExceptionTableEntry) (suf : List ExceptionTableEntry) (name : String), tableOf hh = pre ++ z :: suf ∧ (∀ w ∈ pre, w.catchType ≠ 0 ∧ Cond.classLink own w.catchType "java/lang/IllegalStateException" ∈ GW ∧ E = "java/lang/IndexOutOfBoundsException") ∧ covers z pc = true ∧ z.catchType ≠ 0 ∧ Cond.classLink own z.catchType name ∈ GW ∧ Cond.castable E name ∈ NW ∧ ∀ q9 : Nat, Wx k cells slots lay a x z.handlerPc L [.ref q9]
theorem xcallVTC (off : Nat) (hsub : Sub off lay1 lay = true) {a1 : Nat → Nat} {x0 : XS} (hpa : (fun j => a (off + j)) = a1) (hpx : pul off x = x0) (hk : Fok k cc nL own ret nm rk mc ms) {hh : List (Nat × Nat × Nat × Nat)} (ht : Tab k hh) (M : Tx (kg k) y cy nLy rety rky mcy msy lay1 a1 x0 (.ref (a1 q) :: As) r) (cb : CBv y cy nLy rety n) (hw : Cond.methodLink own idx y ∈ GW) (d : decode cc pc = .ok (.invokevirtual idx, 3)) (hs : st0 = As.reverse ++ .ref (a (off + q)) :: stk) (hq : ∃ (ci : Nat) (ft : List Nat) (F : u_T) (N : Nat), lay1[q]? = some (.inl (ci, ft)) ∧ vwCl[ci]? = some (y.cls, F, N)) (hn : As.length = n) (hrk : rky < rk) (hc : cells + mcy ≤ mc ∧ slots + msy ≤ ms) (hst : (stk.map fun v => v.category).sum ≤ 8)
    (kx : ∀ (E : String) (x1 : XS), r = .inl (E, x1) → Caught k own hh (cells + mcy) (slots + msy) lay a (xmix off lay1.length x1 x) pc L E)
    (kk : ∀ (v : Option Value) (x1 : XS), r = .inr (v, x1) → Wx k (cells + mcy) (slots + msy) lay a (xmix off lay1.length x1 x) (pc + 3) L (v.toList ++ stk)) : Wx k cells slots lay a x pc L st0 := by
  subst hpa
  subst hpx
  rcases k with ⟨p, e, s, m, args, below, meth, c, Q, A, R, g⟩
  obtain ⟨hx, hb, hml, hown, hts, hr, hlk, hK, hA, hA0, hR, hSg, hnm, hb0⟩ := hk
  obtain ⟨⟨hcode, hini, hd, h45⟩, hinst, hsel⟩ := cb
  obtain ⟨ci, ft, F, N, hlay, hcl⟩ := hq
  subst hs
  intro H locs ls hP hD hS hl
  have hRR := room_in (mcy := mcy) (msy := msy) hR hrk h45
  have hD1 : va_D A (wl g.2.2.1 lay1 (fun j => a (off + j)) (pul off x)) := hD.by _ (sub_wl hsub) (fun i j _ _ h => by omega)
  refine xgoT hA (vx_runV (ws := Cond.code y cy nLy rety :: GW) (rm := roomX rky mcy msy) (Ts := GW) (own := own) (C := y.cls) (cc := cc) (nL := nL) (As := As) (rest := stk) (n := n) ⟨hx, hb, hml, hown, hts⟩ (M H.size) ⟨callB_of n hts (goodIn_self hcode) rfl rfl rfl (hts _ hini) (hts _ hw) hd hRR, hts _ hinst, hts _ hsel⟩
    ⟨preX_blind _ _ _ _ _ _, va_recv hK (hP.by _ (sub_wl hsub)) (ci := ci) (q0 := q) hcl (wl_getO hlay hcl), pre_O off hsub hK hb0 hA0 hSg hP hD hS⟩ rfl hn (hl.1.trans hml) rfl (lv_room hst) d (by subst hR; exact hc)) hD1 hS ?_ ?_
  · intro E x1 H1 locs1 ce q9 hr9 hkp hP1 hS1 hce hcv hcl9
    obtain ⟨pre, z, suf, name, h1, h2, h3, h4, h5, h6, h7⟩ := kx E x1 hr9
    exact vx_catch hown pre z suf (ht.1.trans h1) (fun w hw => Or.inr ⟨(h2 w hw).1, _, hts _ (h2 w hw).2.1, by rw [(h2 w hw).2.2]; exact ht.2⟩) h3 h4 (hts _ h5) (va_tabs (nest_tabs (List.mem_filter.mp h6).2) rfl (hSg.1 _ h6)) hce hcv hcl9
      (h7 q9 H1 locs1 ls (mix_P hsub hP hD hkp hP1) (wl_D hD) hS1 hl)
  · intro v x1 H1 locs1 hr9 hkp hP1 hS1
    exact kk v x1 hr9 H1 locs1 ls (mix_P hsub hP hD hkp hP1) (wl_D hD) hS1 hl
/-- a method with handlers of its own that returns -/
def PreW (g : Gx) (lay : List Kd) (a : Nat → Nat) (x : XS) (av : List Value) (sz : Nat) : Array Value → State → Prop := fun v U => PreX g lay a x av sz v U ∧ va_Nc "java/lang/IndexOutOfBoundsException" "java/lang/IllegalStateException" U
def Mw (g : Gx) (y : MethodName) (cc : ByteArray) (maxL : Nat) (ret : Option FieldType) (hh : List (Nat × Nat × Nat × Nat)) (rk mc ms : Nat) (lay : List Kd) (a : Nat → Nat) (x : XS) (av : List Value) (post : Option Value → XS → Prop) : Prop :=
  ∀ sz : Nat, Met g.1 y (Cond.codeWith y cc maxL ret hh :: GW) (roomX rk mc ms) (PreW g lay a x av sz) (PostX g lay a post sz) mc ms (Aw lay a sz)
theorem Mw_of {g : Gx} {y : MethodName} {cc : ByteArray} {maxL : Nat} {ret : Option FieldType} {hh : List (Nat × Nat × Nat × Nat)} {rk mc ms : Nat} {lay : List Kd} {a : Nat → Nat} {x : XS} {av : List Value} {post : Option Value → XS → Prop} (hy : plainName y.cls = true) (hav : (lg_sl av).length ≤ maxL)
    (body : ∀ k : Kx, Fok k cc maxL y.cls ret y.name rk mc ms → Ends k lay a post mc ms → g = kg k → Tab k hh → Wx k 0 0 lay a x 0 (lv_args 0 av) []) : Mw g y cc maxL ret hh rk mc ms lay a x av post := by
  intro sz
  refine MetFree.of_bodyS (code := cc) (maxLocals := maxL) (ret := ret) hy ?_ ?_
  · intro args s m h hn
    obtain ⟨m9, meth, c, hn9, h1, h2, h3, h4, -, h5, h6, -⟩ := Cond.codeWith_spec (atoms_spec (ws := Cond.codeWith y cc maxL ret hh :: GW) h _ List.mem_cons_self)
    cases hn.symm.trans hn9
    exact ⟨meth, c, h1, h2, h3, h4, h5, h6⟩
  · intro p e s m args below meth c s₁ B hml hv _
    have hh0 : s₁.heap = s.heap := by rw [B.state]; rfl
    obtain ⟨⟨rfl, hsz, hb0, hP, hK, hD0, hSg⟩, hNc⟩ := hv
    have hts := atoms_spec (ws := Cond.codeWith y cc maxL ret hh :: GW) B.pre
    subst hsz
    have hAb : ∀ q, Aw lay a s.heap.size q → g.2.2.2.1 ≤ q := Aw_of hD0 (fun q h => Nat.le_trans hb0 h)
    have hD : va_D (Aw lay a s.heap.size) (wl g.2.2.1 lay a x) := hD0.weaken (fun j q hj _ => by
      obtain ⟨kd, h1, rfl⟩ := wl_some hj
      exact Or.inl ⟨j, (List.getElem?_eq_some_iff.mp h1).1, rfl⟩)
    have hl := lv_entry av hav
    have body9 : W p g.1 e (roomX rk mc ms) s m av.toArray below meth c s.heap [] 0 0 (MQ below (PostX g lay a post s.heap.size) av.toArray s mc ms (Aw lay a s.heap.size)) (entryFrame m av.toArray maxL) := by
      rw [lg_entry_eq]
      exact body (p, e, s, m, av.toArray, below, meth, c, _, Aw lay a s.heap.size, roomX rk mc ms, g)
        ⟨B.exec, B.bytes, hml, findClass_of_methodNamed B.named, fun w hw => hts w (List.mem_cons_of_mem _ hw), B.returns, B.notSynchronized, hK, fun q h => Or.inr h, hAb, rfl, hSg, (name_of_methodNamed B.named B.method).1, hb0⟩ ⟨rfl, rfl⟩ rfl ⟨vx_table (x := y) B (hts _ List.mem_cons_self), hNc⟩ s.heap [] _ hP hD va_S.rf (by rw [hml]; exact hl)
    obtain ⟨t, a1, o, b1, b2, b3⟩ := body9 s₁ hh0 (Stand.of_body B)
    exact ⟨t, o, a1, b1, b2, ⟨b3.1, b3.2⟩⟩
def NcK (k : Kx) : Prop := match k with
  | (p, e, s, m, args, below, meth, c, Q, A, R, g) => va_Nc "java/lang/IndexOutOfBoundsException" "java/lang/IllegalStateException" s
def CBw (y : MethodName) (cc : ByteArray) (maxL : Nat) (ret : Option FieldType) (hh : List (Nat × Nat × Nat × Nat)) (n : Nat) : Prop := Cond.codeWith y cc maxL ret hh ∈ GW ∧ Cond.initialized y.cls ∈ GW ∧ Cond.static y ∈ GW ∧ (y.cls ≠ "java/lang/invoke/MethodHandle" ∧ y.cls ≠ "java/lang/invoke/VarHandle" ∧ (parseMethodDescriptor y.desc).map (fun d => d.parameters.length) = some n) ∧ maxL ≤ 45
theorem xcallSWO (off : Nat) (hsub : Sub off lay1 lay = true) {a1 : Nat → Nat} {x0 : XS} (hpa : (fun j => a (off + j)) = a1) (hpx : pul off x = x0) (hk : Fok k cc nL own ret nm rk mc ms) (hNc : NcK k) {hh : List (Nat × Nat × Nat × Nat)} (M : Mw (kg k) y cy nLy rety hh rky mcy msy lay1 a1 x0 As post) (cb : CBw y cy nLy rety hh n) (hw : Cond.methodLink own idx y ∈ GW) (d : decode cc pc = .ok (.invokestatic idx, 3)) (hs : st0 = As.reverse ++ stk) (hn : As.length = n) (hrk : rky < rk) (hc : cells + mcy ≤ mc ∧ slots + msy ≤ ms) (hst : (stk.map fun v => v.category).sum ≤ 8)
    (kk : ∀ (v : Option Value) (x1 : XS), post v x1 → Wx k (cells + mcy) (slots + msy) lay a (xmix off lay1.length x1 x) (pc + 3) L (v.toList ++ stk)) : Wx k cells slots lay a x pc L st0 := by
  subst hpa
  subst hpx
  rcases k with ⟨p, e, s, m, args, below, meth, c, Q, A, R, g⟩
  obtain ⟨hx, hb, hml, hown, hts, hr, hlk, hK, hA, hA0, hR, hSg, hnm, hb0⟩ := hk
  obtain ⟨hcode, hini, hstat, hd, h45⟩ := cb
  subst hs
  intro H locs ls hP hD hS hl
  have hRR := room_in (mcy := mcy) (msy := msy) hR hrk h45
  have hG : GoodIn GW (Cond.codeWith y cy nLy rety hh :: GW) := fun w hw => by
    rcases List.mem_cons.mp hw with e | e
    · subst e; exact ⟨hcode, good_of_word (List.mem_filter.mp hcode).2⟩
    · exact ⟨e, good_of_word (List.mem_filter.mp e).2⟩
  refine xgoO off hsub hA (vx_runSW (ws := Cond.codeWith y cy nLy rety hh :: GW) (rm := roomX rky mcy msy) (Ts := GW) (own := own) (cc := cc) (nL := nL) (As := As) (rest := stk) (n := n) ⟨hx, hb, hml, hown, hts⟩ (M H.size)
    ⟨⟨rfl, rfl, hRR.1, hRR.2, pay_in hts hG, List.mem_cons_self⟩, hts _ hcode, hts _ hini, ⟨hd.1, hd.2.1⟩, fun sig h => ?_, hts _ hw, hts _ hstat⟩
    ⟨?_, fun U hU hW => ⟨pre_O off hsub hK hb0 hA0 hSg hP hD hS U hU hW, va_Nc.moved hW.alike hNc⟩⟩ rfl hn (hl.1.trans hml) rfl (lv_room hst) d (by subst hR; exact hc)) hP hD hS hl kk
  · have h2 := hd.2.2
    rw [h] at h2
    exact (Option.some.inj h2).symm
  · intro a' U g' mk q
    exact ⟨preX_blind _ _ _ _ _ _ a' U g' mk q.1, va_Nc.moved (u := U) (U := U.calling g' mk a') (Vm.Alike.refl U.vm) q.2⟩
theorem pa0 {a : Nat → Nat} : (fun j => a (0 + j)) = a := by funext j; rw [Nat.zero_add]
theorem px0 {x : XS} : pul 0 x = x := by
  show (fun i j => x.1 (0 + i) j, fun i j => x.2 (0 + i) j) = x
  congr 1 <;> (funext i j; rw [Nat.zero_add])
end WO

