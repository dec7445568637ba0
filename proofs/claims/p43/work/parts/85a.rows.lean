
/-! Rows for texts: bytes copied, cloned; a builder's calls -/
theorem w_acS : Cond.static arraycopyName ∈ GW := gw_mem 1204 (by decide +kernel) (by decide +kernel)
theorem w_acN : Cond.native arraycopyName ∈ GW := gw_mem 1205 (by decide +kernel) (by decide +kernel)
theorem w_acI : Cond.initialized "java/lang/System" ∈ GW := gw_mem 9 (by decide +kernel) (by decide +kernel)
theorem w_ac150 : Cond.methodLink RJ7 150 arraycopyName ∈ GW := gw_mem 1203 (by decide +kernel) (by decide +kernel)
theorem w_ac212 : Cond.methodLink RJ0 212 arraycopyName ∈ GW := gw_mem 1267 (by decide +kernel) (by decide +kernel)
theorem w_clL : Cond.methodLink RJ7 310 ⟨"[B", "clone", "()Ljava/lang/Object;"⟩ ∈ GW := gw_mem 1195 (by decide +kernel) (by decide +kernel)
theorem w_clM : Cond.sameMethod "[B" "java/lang/Object" "clone" "()Ljava/lang/Object;" ∈ GW := gw_mem 1196 (by decide +kernel) (by decide +kernel)
theorem w_clN : Cond.native ⟨"java/lang/Object", "clone", "()Ljava/lang/Object;"⟩ ∈ GW := gw_mem 1197 (by decide +kernel) (by decide +kernel)
theorem w_clI : Cond.instanceMethod ⟨"java/lang/Object", "clone", "()Ljava/lang/Object;"⟩ ∈ GW := gw_mem 1198 (by decide +kernel) (by decide +kernel)
theorem w_clS : Cond.selects "[B" ⟨"[B", "clone", "()Ljava/lang/Object;"⟩ ⟨"java/lang/Object", "clone", "()Ljava/lang/Object;"⟩ ∈ GW := gw_mem 1199 (by decide +kernel) (by decide +kernel)
theorem w_clC : Cond.castable "[B" "java/lang/Cloneable" ∈ NW := nw_mem 1200 (by decide +kernel) rfl
theorem w_cl311 : Cond.classLink RJ7 311 "[B" ∈ GW := gw_mem 1201 (by decide +kernel) (by decide +kernel)
theorem w_sbI : Cond.instantiable RJ4 4 ∈ GW := gw_mem 1299 (by decide +kernel) (by decide +kernel)
theorem w_sup : Cond.superclass RJ4 RJ5 ∈ GW := gw_mem 1168 (by decide +kernel) (by decide +kernel)
theorem w_lat : Cond.selects RJ4 yJ5_isLatin1_aae02 yJ5_isLatin1_aae02 ∈ GW := gw_mem 1209 (by decide +kernel) (by decide +kernel)
def setF (x : XS) (q : Nat) (f : Nat → Int32) : XS := (fun i j => if i = q then f j else x.1 i j, x.2)
theorem wl_setAF {T : Nat → ClassId} {lay : List Kd} {a : Nat → Nat} {x : XS} {q n c : Nat} {f : Nat → Int32} (h : lay[q]? = some (.inr (c + 2, n))) : (wl T lay a x).set q (a q, .inl (T (c + 2), n, .inl f)) = wl T lay a (setF x q f) := by
  refine wl_set h ?_ (fun i kd' hi _ => cell_other (x' := setF x q f) (x := x) (fun k' => by simp [setF, hi]) (fun _ => rfl) kd')
  have e : (fun j => (setF x q f).1 q j) = f := by funext j; simp [setF]
  simp only [cellOf, e]
section WSB
variable {k : Kx} {cc : ByteArray} {nL rk mc ms pc cells slots : Nat} {own nm : String} {ret : Option FieldType} {lay : List Kd} {a : Nat → Nat} {x : XS} {L : List (Nat × Value)} {stk st0 : List Value}
theorem xcopyB (hk : Fok k cc nL own ret nm rk mc ms) {idx qs qd n0 n1 : Nat} {sp dp n : Int32} (d : decode cc pc = .ok (.invokestatic idx, 3)) (hw : Cond.methodLink own idx arraycopyName ∈ GW) (hs : lay[qs]? = some (.inr (2, n0))) (hd : lay[qd]? = some (.inr (2, n1))) (h1 : ¬ sp < 0) (h2 : ¬ dp < 0) (h3 : ¬ n < 0) (h4 : sp.toNatClampNeg + n.toNatClampNeg ≤ n0) (h5 : dp.toNatClampNeg + n.toNatClampNeg ≤ n1) (hfit : ∀ i, i < n.toNatClampNeg → fits .byte (.int (x.1 qs (sp.toNatClampNeg + i))) = true) (hrk : 1 ≤ rk) (hst : (stk.map fun v => v.category).sum ≤ 8)
    (kk : Wx k cells slots lay a (setF x qd (va_cpy (fun j => x.1 qs j) (fun j => x.1 qd j) sp.toNatClampNeg dp.toNatClampNeg n.toNatClampNeg)) (pc + 3) L stk) : Wx k cells slots lay a x pc L (.int n :: .int dp :: .ref (a qd) :: .int sp :: .ref (a qs) :: stk) := by
  rcases k with ⟨p, e, s, m, args, below, meth, c, Q, A, R, g⟩
  obtain ⟨hx, hb, hml, hown, hts, hr, hlk, hK, hA, hA0, hR, hSg, hnm, hb0⟩ := hk
  intro H locs ls hP hD hS hl
  subst hR
  refine va_copyi hx hb (hl.1).symm hown (hts _ hw) (hts _ w_acN) (hts _ w_acS) (hts _ w_acI) hK hP hD hS qs qd 2 2 (wl_get hs) (wl_get hd) rfl rfl rfl h1 h2 h3 h4 h5 hfit hrk (by rw [show nativeFrameWords "java/lang/System" "arraycopy" 5 = 7 by decide +kernel]; show _ ≤ 64 * rk; omega) d (fun H1 locs1 hP hD hS => ?_)
  rw [wl_setAF (c := 0) hd] at hP hD
  exact kk H1 locs1 ls hP hD hS hl
theorem xcopyT (hk : Fok k cc nL own ret nm rk mc ms) {idx i qd n1 : Nat} {sp dp n : Int32} (hi : i < 30) (d : decode cc pc = .ok (.invokestatic idx, 3)) (hw : Cond.methodLink own idx arraycopyName ∈ GW) (hd : lay[qd]? = some (.inr (2, n1))) (h1 : ¬ sp < 0) (h2 : ¬ dp < 0) (h3 : ¬ n < 0) (h4 : sp.toNatClampNeg + n.toNatClampNeg ≤ (txB i).length) (h5 : dp.toNatClampNeg + n.toNatClampNeg ≤ n1) (hfit : ∀ j, j < n.toNatClampNeg → fits .byte (.int ((txB i).getD (sp.toNatClampNeg + j) 0)) = true) (hrk : 1 ≤ rk) (hst : (stk.map fun v => v.category).sum ≤ 8)
    (kk : Wx k cells slots lay a (setF x qd (va_cpy (fun j => (txB i).getD j 0) (fun j => x.1 qd j) sp.toNatClampNeg dp.toNatClampNeg n.toNatClampNeg)) (pc + 3) L stk) : Wx k cells slots lay a x pc L (.int n :: .int dp :: .ref (a qd) :: .int sp :: .ref (sa k (60 + i)) :: stk) := by
  rcases k with ⟨p, e, s, m, args, below, meth, c, Q, A, R, g⟩
  obtain ⟨hx, hb, hml, hown, hts, hr, hlk, hK, hA, hA0, hR, hSg, hnm, hb0⟩ := hk
  intro H locs ls hP hD hS hl
  subst hR
  refine vk_copyt hx hb (hl.1).symm hown (hts _ hw) (hts _ w_acN) (hts _ w_acS) (hts _ w_acI) hK hP hD hS (f := fun j => (txB i).getD j 0) (((hSg.2.2.2.1.2.1 i hi).narrow hA0).2.2.2) qd 2 (wl_get hd) rfl h1 h2 h3 h4 h5 hfit hrk (by rw [show nativeFrameWords "java/lang/System" "arraycopy" 5 = 7 by decide +kernel]; show _ ≤ 64 * rk; omega) d (fun H1 locs1 hP hD hS => ?_)
  rw [wl_setAF (c := 0) hd] at hP hD
  exact kk H1 locs1 ls hP hD hS hl
/-- clone() of bytes: a new cell, the same bytes -/
def cpX (x : XS) (q r : Nat) : XS := (fun i j => if i = r then x.1 q j else x.1 i j, fun i j => if i = r then 0 else x.2 i j)
theorem cpX_o {x : XS} {q r : Nat} : ∀ i, i < r → ∀ j, (cpX x q r).1 i j = x.1 i j ∧ (cpX x q r).2 i j = x.2 i j := fun i hi j => ⟨by simp [cpX, Nat.ne_of_lt hi], by simp [cpX, Nat.ne_of_lt hi]⟩
theorem xclone (hk : Fok k cc nL RJ7 ret nm rk mc ms) {q n : Nat} (d : decode cc pc = .ok (.invokevirtual 310, 3)) (hq : lay[q]? = some (.inr (2, n))) (hfit : ∀ i, i < n → fits .byte (.int (x.1 q i)) = true) (hc : cells + 1 ≤ mc) (hs : slots + n ≤ ms) (hok : okR lay (fun j => decide (j ≠ lay.length)) = true) (hrk : 1 ≤ rk) (hst : (stk.map fun v => v.category).sum ≤ 8)
    (kk : ∀ a' : Nat → Nat, (∀ j, j ≠ lay.length → a' j = a j) → Wx k (cells + 1) (slots + n) (lay ++ [.inr (2, n)]) a' (cpX x q lay.length) (pc + 3) L (.ref (a' lay.length) :: stk)) : Wx k cells slots lay a x pc L (.ref (a q) :: stk) := by
  rcases k with ⟨p, e, s, m, args, below, meth, c, Q, A, R, g⟩
  obtain ⟨hx, hb, hml, hown, hts, hr, hlk, hK, hA, hA0, hR, hSg, hnm, hb0⟩ := hk
  intro H locs ls hP hD hS hl
  subst hR
  refine va_clone hx hb (hl.1).symm hown (hts _ w_clL) (hts _ w_clM) (hts _ w_clN) (hts _ w_clI) (hts _ w_clS) (hSg.1 _ w_clC) hK hP hD hS hA q 2 (wl_get hq) rfl ((hK.2 2 _ rfl).2) (fun i v hv => ?_) hrk (by show _ ≤ 64 * rk; omega) hc hs d (fun q1 H1 _ hP2 hD2 hS2 => ?_)
  · have hv2 : (arrV (g.2.2.1 2) n (fun j => .int (x.1 q j))).slots[i]? = some v := hv
    by_cases hi : i < n
    · rw [arrV_read _ _ hi] at hv2
      cases hv2
      exact hfit i hi
    · rw [Array.getElem?_eq_none (by rw [arrV_size]; omega)] at hv2
      cases hv2
  · let a' : Nat → Nat := fun j => if j = lay.length then q1 else a j
    have ha' : ∀ j, j ≠ lay.length → a' j = a j := fun j hj => if_neg hj
    have haq : a' lay.length = q1 := if_pos rfl
    have e : wl g.2.2.1 (lay ++ [.inr (2, n)]) a' (cpX x q lay.length) = wl g.2.2.1 lay a x ++ [(q1, .inl (g.2.2.1 2, (n, .inl (fun j => x.1 q j))))] := by
      rw [wl_app, wl_same (a := a) (x := x) _ hok (fun j hj => ha' j (of_decide_eq_true hj)) (fun i hi j => cpX_o i hi j), haq]
      simp [cellOf, cpX]
    rw [← e] at hP2 hD2
    have := kk a' ha' H1 locs ls hP2 hD2 hS2 hl
    rw [haq] at this
    exact this
theorem xcastB (hk : Fok k cc nL RJ7 ret nm rk mc ms) {q n : Nat} (d : decode cc pc = .ok (.checkcast 311, 3)) (hq : lay[q]? = some (.inr (2, n))) (kk : Wx k cells slots lay a x (pc + 3) L (.ref (a q) :: stk)) : Wx k cells slots lay a x pc L (.ref (a q) :: stk) := by
  rcases k with ⟨p, e, s, m, args, below, meth, c, Q, A, R, g⟩
  obtain ⟨hx, hb, hml, hown, hts, hr, hlk, hK, hA, hA0, hR, hSg, hnm, hb0⟩ := hk
  intro H locs ls hP hD hS hl
  exact va_castA hx hb hown (hts _ w_cl311) hP q (wl_get hq) ((hK.2 2 _ rfl).2) d (kk H locs ls hP hD hS hl)
theorem xdigO (hk : Fok k cc nL RJ6 ret nm rk mc ms) {idx : Nat} (d : decode cc pc = .ok (.getstatic idx, 3)) (hw : Cond.fieldLink RJ6 idx RJ6 "DigitOnes" "[B" ∈ GW) (kk : Wx k cells slots lay a x (pc + 3) L (.ref (sa k 1) :: stk)) : Wx k cells slots lay a x pc L stk := by
  rcases k with ⟨p, e, s, m, args, below, meth, c, Q, A, R, g⟩
  obtain ⟨hx, hb, hml, hown, hts, hr, hlk, hK, hA, hA0, hR, hSg, hnm, hb0⟩ := hk
  intro H locs ls hP hD hS hl
  exact va_gets hx hb (hSg.2.2.2.1.1.1.1.narrow hA0) hS hown (hts _ hw) (fun _ h => h) d (kk H locs ls hP hD hS hl)
theorem xdigT (hk : Fok k cc nL RJ6 ret nm rk mc ms) {idx : Nat} (d : decode cc pc = .ok (.getstatic idx, 3)) (hw : Cond.fieldLink RJ6 idx RJ6 "DigitTens" "[B" ∈ GW) (kk : Wx k cells slots lay a x (pc + 3) L (.ref (sa k 2) :: stk)) : Wx k cells slots lay a x pc L stk := by
  rcases k with ⟨p, e, s, m, args, below, meth, c, Q, A, R, g⟩
  obtain ⟨hx, hb, hml, hown, hts, hr, hlk, hK, hA, hA0, hR, hSg, hnm, hb0⟩ := hk
  intro H locs ls hP hD hS hl
  exact va_gets hx hb (hSg.2.2.2.1.1.2.1.1.narrow hA0) hS hown (hts _ hw) (fun _ h => h) d (kk H locs ls hP hD hS hl)
theorem xdigOg (hk : Fok k cc nL own ret nm rk mc ms) {j : Int32} (d : decode cc pc = .ok (.baload, 1)) (hj : vp_in j 100) (kk : Wx k cells slots lay a x (pc + 1) L (.int (Int32.ofNat (48 + j.toNatClampNeg % 10)) :: stk)) : Wx k cells slots lay a x pc L (.int j :: .ref (sa k 1) :: stk) := by
  rcases k with ⟨p, e, s, m, args, below, meth, c, Q, A, R, g⟩
  obtain ⟨hx, hb, hml, hown, hts, hr, hlk, hK, hA, hA0, hR, hSg, hnm, hb0⟩ := hk
  intro H locs ls hP hD hS hl
  exact va_tb hx hb (hSg.2.2.2.1.1.1.2.narrow hA0) hS hj rfl d (kk H locs ls hP hD hS hl)
theorem xdigTg (hk : Fok k cc nL own ret nm rk mc ms) {j : Int32} (d : decode cc pc = .ok (.baload, 1)) (hj : vp_in j 100) (kk : Wx k cells slots lay a x (pc + 1) L (.int (Int32.ofNat (48 + j.toNatClampNeg / 10)) :: stk)) : Wx k cells slots lay a x pc L (.int j :: .ref (sa k 2) :: stk) := by
  rcases k with ⟨p, e, s, m, args, below, meth, c, Q, A, R, g⟩
  obtain ⟨hx, hb, hml, hown, hts, hr, hlk, hK, hA, hA0, hR, hSg, hnm, hb0⟩ := hk
  intro H locs ls hP hD hS hl
  exact va_tb hx hb (hSg.2.2.2.1.1.2.1.2.narrow hA0) hS hj rfl d (kk H locs ls hP hD hS hl)
/-- putfield of a byte, 0, not final -/
theorem xputC (hk : Fok k cc nL own ret nm rk mc ms) {q ci f idx N : Nat} {C : String} {F : u_T} (d : decode cc pc = .ok (.putfield idx, 3)) (hf : fdOk lay q ci f 0 C F N) (hw : Cond.fieldLink own idx (F f).1 (F f).2.1 (F f).2.2.1 ∈ GW) (hn : (F f).2.2.2 = false ∧ parseFieldDescriptor (F f).2.2.1 = some .byte) (kk : Wx k cells slots lay a (setI x q f 0) (pc + 3) L stk) : Wx k cells slots lay a x pc L (.int 0 :: .ref (a q) :: stk) := by
  rcases k with ⟨p, e, s, m, args, below, meth, c, Q, A, R, g⟩
  obtain ⟨hx, hb, hml, hown, hts, hr, hlk, hK, hA, hA0, hR, hSg, hnm, hb0⟩ := hk
  obtain ⟨hc, hfN, ft, hlay, hft⟩ := hf
  obtain ⟨⟨ty0, hty⟩, hnd⟩ := cls_ty hc
  intro H locs ls hP hD hS hl
  refine va_put hx hb hts (cls_GW hc) ty0 hty hnd hown hK hP hD hS q (wl_getO hlay hc) hc f hfN (hts _ hw) (fun _ h => h) hn.1 hn.2 rfl rfl (by rw [flist_len]; exact (List.getElem?_eq_some_iff.mp hft).1) d (fun H1 locs1 hP hD hS => ?_)
  rw [wl_setI (vw_lt hc) hlay hft] at hP hD
  exact kk H1 locs1 ls hP hD hS hl
/-- a final byte, 0, in a constructor -/
theorem xputCF (hk : Fok k cc nL own ret "<init>" rk mc ms) {q ci f idx N : Nat} {C : String} {F : u_T} (d : decode cc pc = .ok (.putfield idx, 3)) (hf : fdOk lay q ci f 0 C F N) (hw : Cond.fieldLink own idx (F f).1 (F f).2.1 (F f).2.2.1 ∈ GW) (hn : (F f).2.2.2 = true ∧ parseFieldDescriptor (F f).2.2.1 = some .byte) (hdec : (F f).1 = own) (kk : Wx k cells slots lay a (setI x q f 0) (pc + 3) L stk) : Wx k cells slots lay a x pc L (.int 0 :: .ref (a q) :: stk) := by
  rcases k with ⟨p, e, s, m, args, below, meth, c, Q, A, R, g⟩
  obtain ⟨hx, hb, hml, hown, hts, hr, hlk, hK, hA, hA0, hR, hSg, hnm, hb0⟩ := hk
  obtain ⟨hc, hfN, ft, hlay, hft⟩ := hf
  obtain ⟨⟨ty0, hty⟩, hnd⟩ := cls_ty hc
  intro H locs ls hP hD hS hl
  refine va_putF hx hb hts (cls_GW hc) ty0 hty hnd hown hK hP hD hS q (wl_getO hlay hc) hc f hfN (hts _ hw) (fun _ h => h) hn.1 hnm hdec hn.2 rfl rfl (by rw [flist_len]; exact (List.getElem?_eq_some_iff.mp hft).1) d (fun H1 locs1 hP hD hS => ?_)
  rw [wl_setI (vw_lt hc) hlay hft] at hP hD
  exact kk H1 locs1 ls hP hD hS hl
end WSB
/-- a builder's method that its parent class has: public and selected, or private -/
def CBr (y : MethodName) (cc : ByteArray) (maxL : Nat) (ret : Option FieldType) (n : Nat) : Prop := CBx y cc maxL ret n ∧ Cond.instanceMethod y ∈ GW ∧ (Cond.selects RJ4 y y ∈ GW ∨ Cond.privateMethod y ∈ NW)
theorem sel_priv {y : MethodName} {s : State} {args : Array Value} (hy : y.cls ≠ "java/lang/invoke/MethodHandle" ∧ y.cls ≠ "java/lang/invoke/VarHandle") (hcls : y.cls = RJ5) (hlat : (Cond.selects RJ4 yJ5_isLatin1_aae02 yJ5_isLatin1_aae02).before args s = true)
    (hpriv : (Cond.privateMethod y).before args s = true) (hinst : (Cond.instanceMethod y).before args s = true) : (Cond.selects RJ4 y y).before args s = true := by
  obtain ⟨c, r, m, hc, hr, hm, -, mkI, hmk, hni⟩ := Cond.selects_spec hlat
  obtain ⟨mk, methM, hnamed, hmethM, -, -⟩ := Cond.instanceMethod_spec hinst
  have hfound : s.methodFound? y.cls y.name y.desc = some mk := State.methodFound?_of_named hnamed hy
  have hsel : selectMethod {} s.vm c mk = .method mk := selectMethod_private hmethM (Cond.privateMethod_at hpriv mk methM hnamed hmethM)
  have h1 : s.vm.findClass RJ5 = some mk.cls := by rw [← hcls]; exact findClass_of_methodNamed hnamed
  have h2 : s.vm.findClass RJ5 = some m.cls := findClass_of_methodNamed hm
  have hmkc : mk.cls = m.cls := Option.some.inj (h1.symm.trans h2)
  simp only [Cond.before, Cond.holds, Cond.value, hc, hfound, hnamed, hsel, hmkc, hmk]
  simp; exact hni
theorem sel_r {y : MethodName} {s : State} {args : Array Value} (hts : ∀ w ∈ GW, w.before args s = true) (hnw : ∀ w ∈ NW, va_Nw w s) (hcls : y.cls = RJ5) (hin : Cond.instanceMethod y ∈ GW) (h : Cond.selects RJ4 y y ∈ GW ∨ Cond.privateMethod y ∈ NW) : (Cond.selects RJ4 y y).before args s = true := by
  rcases h with h | h
  · exact hts _ h
  · exact sel_priv (by rw [hcls]; decide) hcls (hts _ w_lat) (va_Nw.use rfl (hnw _ h)) (hts _ hin)
section WSR
variable {k : Kx} {cc : ByteArray} {nL rk mc ms pc cells slots : Nat} {own nm : String} {ret : Option FieldType} {lay : List Kd} {a : Nat → Nat} {x : XS} {L : List (Nat × Value)} {stk st0 : List Value} {post : Option Value → XS → Prop} {postZ : Option Value → List Kd → (Nat → Nat) → XS → Prop}
variable {y : MethodName} {cy : ByteArray} {nLy rky mcy msy n idx q : Nat} {rety : Option FieldType} {As : List Value} {ft : List Nat}
theorem xcallR (hk : Fok k cc nL own ret nm rk mc ms) (M : Mx (kg k) y cy nLy rety rky mcy msy lay a x (.ref (a q) :: As) post) (cb : CBr y cy nLy rety n) (hw : Cond.methodLink own idx y ∈ GW) (d : decode cc pc = .ok (.invokevirtual idx, 3)) (hs : st0 = As.reverse ++ .ref (a q) :: stk) (hq : lay[q]? = some (.inl (11, ft))) (hcls : y.cls = RJ5) (hn : As.length = n) (hrk : rky < rk) (hc : cells + mcy ≤ mc ∧ slots + msy ≤ ms) (hst : (stk.map fun v => v.category).sum ≤ 8)
    (kk : ∀ (v : Option Value) (x' : XS), post v x' → Wx k (cells + mcy) (slots + msy) lay a x' (pc + 3) L (v.toList ++ stk)) : Wx k cells slots lay a x pc L st0 := by
  rcases k with ⟨p, e, s, m, args, below, meth, c, Q, A, R, g⟩
  obtain ⟨hx, hb, hml, hown, hts, hr, hlk, hK, hA, hA0, hR, hSg, hnm, hb0⟩ := hk
  obtain ⟨⟨hcode, hini, hd, h45⟩, hinst, hsel⟩ := cb
  subst hs
  intro H locs ls hP hD hS hl
  have hRR := room_in (mcy := mcy) (msy := msy) hR hrk h45
  exact xgo hA (va_runV (ws := Cond.code y cy nLy rety :: GW) (rm := roomX rky mcy msy) (Ts := GW) (own := own) (C := RJ4) (cc := cc) (nL := nL) (As := As) (rest := stk) (n := n) ⟨hx, hb, hml, hown, hts⟩ (M H.size) ⟨callB_of n hts (goodIn_self hcode) rfl rfl rfl (hts _ hini) (hts _ hw) hd hRR, hts _ hinst, sel_r hts hSg.1 hcls hinst hsel⟩
    ⟨preX_blind _ _ _ _ _ _, va_recv hK hP (ci := 11) (q0 := q) rfl (wl_getO hq rfl), preX_at hK hb0 hA0 hSg hP hD hS⟩ rfl hn (hl.1.trans hml) rfl (lv_room hst) d (by subst hR; exact hc)) hD hS hl kk
theorem xcallRZ (hk : Fok k cc nL own ret nm rk mc ms) (M : Mz (kg k) y cy nLy rety rky mcy msy lay a x (.ref (a q) :: As) postZ) (cb : CBr y cy nLy rety n) (hw : Cond.methodLink own idx y ∈ GW) (d : decode cc pc = .ok (.invokevirtual idx, 3)) (hs : st0 = As.reverse ++ .ref (a q) :: stk) (hq : lay[q]? = some (.inl (11, ft))) (hcls : y.cls = RJ5) (hn : As.length = n) (hrk : rky < rk) (hc : cells + mcy ≤ mc ∧ slots + msy ≤ ms) (hst : (stk.map fun v => v.category).sum ≤ 8)
    (kk : ∀ (v : Option Value) (lay' : List Kd) (a' : Nat → Nat) (x' : XS), postZ v lay' a' x' → Wx k (cells + mcy) (slots + msy) lay' a' x' (pc + 3) L (v.toList ++ stk)) : Wx k cells slots lay a x pc L st0 := by
  rcases k with ⟨p, e, s, m, args, below, meth, c, Q, A, R, g⟩
  obtain ⟨hx, hb, hml, hown, hts, hr, hlk, hK, hA, hA0, hR, hSg, hnm, hb0⟩ := hk
  obtain ⟨⟨hcode, hini, hd, h45⟩, hinst, hsel⟩ := cb
  subst hs
  intro H locs ls hP hD hS hl
  have hRR := room_in (mcy := mcy) (msy := msy) hR hrk h45
  exact xgoZ hA (va_runV (ws := Cond.code y cy nLy rety :: GW) (rm := roomX rky mcy msy) (Ts := GW) (own := own) (C := RJ4) (cc := cc) (nL := nL) (As := As) (rest := stk) (n := n) ⟨hx, hb, hml, hown, hts⟩ (M H.size) ⟨callB_of n hts (goodIn_self hcode) rfl rfl rfl (hts _ hini) (hts _ hw) hd hRR, hts _ hinst, sel_r hts hSg.1 hcls hinst hsel⟩
    ⟨preX_blind _ _ _ _ _ _, va_recv hK hP (ci := 11) (q0 := q) rfl (wl_getO hq rfl), preX_at hK hb0 hA0 hSg hP hD hS⟩ rfl hn (hl.1.trans hml) rfl (lv_room hst) d (by subst hR; exact hc)) hD hS hl kk
/-- super.m(..) of a builder -/
def CBu (y : MethodName) (cc : ByteArray) (maxL : Nat) (ret : Option FieldType) (n : Nat) : Prop := Cond.code y cc maxL ret ∈ GW ∧ Cond.initialized y.cls ∈ GW ∧ Cond.instanceMethod y ∈ GW ∧ Cond.sameMethod y.cls y.cls y.name y.desc ∈ GW ∧ y.cls = RJ5 ∧ (y.name ≠ "<init>" ∧ (parseMethodDescriptor y.desc).map (fun d => d.parameters.length) = some n) ∧ maxL ≤ 45
theorem xcallU (hk : Fok k cc nL RJ4 ret nm rk mc ms) (M : Mx (kg k) y cy nLy rety rky mcy msy lay a x (.ref (a q) :: As) post) (cb : CBu y cy nLy rety n) (hw : Cond.methodLink RJ4 idx y ∈ GW) (d : decode cc pc = .ok (.invokespecial idx, 3)) (hs : st0 = As.reverse ++ .ref (a q) :: stk) (hq : lay[q]? = some (.inl (11, ft))) (hn : As.length = n) (hrk : rky < rk) (hc : cells + mcy ≤ mc ∧ slots + msy ≤ ms) (hst : (stk.map fun v => v.category).sum ≤ 8)
    (kk : ∀ (v : Option Value) (x' : XS), post v x' → Wx k (cells + mcy) (slots + msy) lay a x' (pc + 3) L (v.toList ++ stk)) : Wx k cells slots lay a x pc L st0 := by
  rcases k with ⟨p, e, s, m, args, below, meth, c, Q, A, R, g⟩
  obtain ⟨hx, hb, hml, hown, hts, hr, hlk, hK, hA, hA0, hR, hSg, hnm, hb0⟩ := hk
  obtain ⟨hcode, hini, hinst, hsame, hcls, hd, h45⟩ := cb
  subst hs
  obtain ⟨cC, hat⟩ := classAt_of (hts _ w_sbI)
  intro H locs ls hP hD hS hl
  have hRR := room_in (mcy := mcy) (msy := msy) hR hrk h45
  exact xgo hA (va_runSU (ws := Cond.code y cy nLy rety :: GW) (rm := roomX rky mcy msy) (Ts := GW) (own := RJ4) (C := RJ4) (cc := cc) (nL := nL) (As := As) (rest := stk) (n := n) hat ⟨hx, hb, hml, hown, hts⟩ (M H.size) ⟨⟨rfl, rfl, hRR.1, hRR.2, pay_in hts (goodIn_self hcode), List.mem_cons_self⟩, hts _ hw, hts _ hsame, by rw [hcls]; exact hts _ w_sup, hts _ hinst, hts _ hini, hts _ hcode, hd.1, fun sig h => by have h2 := hd.2; rw [h] at h2; exact (Option.some.inj h2).symm⟩
    ⟨preX_blind _ _ _ _ _ _, va_recv hK hP (ci := 11) (q0 := q) rfl (wl_getO hq rfl), preX_at hK hb0 hA0 hSg hP hD hS⟩ rfl hn (hl.1.trans hml) rfl (lv_room hst) d (by subst hR; exact hc)) hD hS hl kk
theorem xcallUZ (hk : Fok k cc nL RJ4 ret nm rk mc ms) (M : Mz (kg k) y cy nLy rety rky mcy msy lay a x (.ref (a q) :: As) postZ) (cb : CBu y cy nLy rety n) (hw : Cond.methodLink RJ4 idx y ∈ GW) (d : decode cc pc = .ok (.invokespecial idx, 3)) (hs : st0 = As.reverse ++ .ref (a q) :: stk) (hq : lay[q]? = some (.inl (11, ft))) (hn : As.length = n) (hrk : rky < rk) (hc : cells + mcy ≤ mc ∧ slots + msy ≤ ms) (hst : (stk.map fun v => v.category).sum ≤ 8)
    (kk : ∀ (v : Option Value) (lay' : List Kd) (a' : Nat → Nat) (x' : XS), postZ v lay' a' x' → Wx k (cells + mcy) (slots + msy) lay' a' x' (pc + 3) L (v.toList ++ stk)) : Wx k cells slots lay a x pc L st0 := by
  rcases k with ⟨p, e, s, m, args, below, meth, c, Q, A, R, g⟩
  obtain ⟨hx, hb, hml, hown, hts, hr, hlk, hK, hA, hA0, hR, hSg, hnm, hb0⟩ := hk
  obtain ⟨hcode, hini, hinst, hsame, hcls, hd, h45⟩ := cb
  subst hs
  obtain ⟨cC, hat⟩ := classAt_of (hts _ w_sbI)
  intro H locs ls hP hD hS hl
  have hRR := room_in (mcy := mcy) (msy := msy) hR hrk h45
  exact xgoZ hA (va_runSU (ws := Cond.code y cy nLy rety :: GW) (rm := roomX rky mcy msy) (Ts := GW) (own := RJ4) (C := RJ4) (cc := cc) (nL := nL) (As := As) (rest := stk) (n := n) hat ⟨hx, hb, hml, hown, hts⟩ (M H.size) ⟨⟨rfl, rfl, hRR.1, hRR.2, pay_in hts (goodIn_self hcode), List.mem_cons_self⟩, hts _ hw, hts _ hsame, by rw [hcls]; exact hts _ w_sup, hts _ hinst, hts _ hini, hts _ hcode, hd.1, fun sig h => by have h2 := hd.2; rw [h] at h2; exact (Option.some.inj h2).symm⟩
    ⟨preX_blind _ _ _ _ _ _, va_recv hK hP (ci := 11) (q0 := q) rfl (wl_getO hq rfl), preX_at hK hb0 hA0 hSg hP hD hS⟩ rfl hn (hl.1.trans hml) rfl (lv_room hst) d (by subst hR; exact hc)) hD hS hl kk
end WSR
