
/-! What is new: arrays, objects; layouts that grow -/
theorem w_objCode : Cond.code Lib.objectInit ⟨#[0xb1]⟩ 1 none ∈ GW := gw_mem 36 (by decide +kernel) (by decide +kernel)
theorem w_objInst : Cond.instanceMethod Lib.objectInit ∈ GW := gw_mem 35 (by decide +kernel) (by decide +kernel)
theorem w_arrInt : Cond.arrayClass .int ∈ GW := gw_mem 140 (by decide +kernel) (by decide +kernel)
theorem w_arrLong : Cond.arrayClass .long ∈ GW := gw_mem 139 (by decide +kernel) (by decide +kernel)
theorem w_arrByte : Cond.arrayClass .byte ∈ GW := gw_mem 52 (by decide +kernel) (by decide +kernel)

def clr (x : XS) (q : Nat) : XS := (fun i j => if i = q then 0 else x.1 i j, fun i j => if i = q then 0 else x.2 i j)
theorem cell_a {T : Nat → ClassId} {a a' : Nat → Nat} {x : XS} {i : Nat} {kd : Kd} (h : ∀ o t, kd = .inl o → t ∈ o.2 → 3 ≤ t → a' (t - 3) = a (t - 3)) : cellOf T a' x i kd = cellOf T a x i kd := by
  match kd, h with
  | .inl o, h =>
    have hf : flist a' x i o.2 = flist a x i o.2 := by
      refine List.map_congr_left fun k hk => ?_
      have hk2 : k < o.2.length := List.mem_range.mp hk
      have hm : o.2.getD k 0 ∈ o.2 := by rw [List.getD, List.getElem?_eq_getElem hk2]; exact List.getElem_mem hk2
      have h2 := fun h3 => h o _ rfl hm h3
      generalize o.2.getD k 0 = t at h2
      match t, h2 with
      | 0, _ => rfl
      | 1, _ => rfl
      | 2, _ => rfl
      | j + 3, h2 => exact congrArg Value.ref (h2 (by omega))
    have hr : (fun j => rfN a' (o.2.getD j 2)) = fun j => rfN a (o.2.getD j 2) := by
      funext j
      by_cases hj : j < o.2.length
      · have hm : o.2.getD j 2 ∈ o.2 := by rw [List.getD, List.getElem?_eq_getElem hj]; exact List.getElem_mem hj
        have h2 := fun h3 => h o _ rfl hm h3
        generalize o.2.getD j 2 = t at h2
        match t, h2 with
        | 0, _ => rfl
        | 1, _ => rfl
        | 2, _ => rfl
        | j + 3, h2 => exact congrArg some (h2 (by omega))
      · rw [List.getD, List.getElem?_eq_none (by omega)]; rfl
    simp only [cellOf, hf, hr]
  | .inr (0, n), _ => rfl
  | .inr (1, n), _ => rfl
  | .inr (c + 2, n), _ => rfl
/-- the cells that a layout names: its own and those that its fields name satisfy P -/
def okR (lay : List Kd) (P : Nat → Bool) : Bool := (List.range lay.length).all P && lay.all (fun kd => match kd with
  | .inl o => o.2.all (fun t => decide (t < 3) || P (t - 3))
  | .inr _ => true)
theorem okR_own {lay : List Kd} {P : Nat → Bool} (h : okR lay P = true) {q : Nat} (hq : q < lay.length) : P q = true := by
  simp only [okR, Bool.and_eq_true, List.all_eq_true] at h
  exact h.1 q (List.mem_range.mpr hq)
theorem okR_ref {lay : List Kd} {P : Nat → Bool} (h : okR lay P = true) {q : Nat} {o : Nat × List Nat} (hq : lay[q]? = some (.inl o)) {t : Nat} (ht : t ∈ o.2) (h3 : 3 ≤ t) : P (t - 3) = true := by
  simp only [okR, Bool.and_eq_true, List.all_eq_true] at h
  have h1 := h.2 _ (List.mem_of_getElem? hq)
  simp only [List.all_eq_true, Bool.or_eq_true, decide_eq_true_eq] at h1
  rcases h1 t ht with z | z
  · omega
  · exact z
/-- a layout's cells out of another's: cell q of the new is cell f q of the old -/
theorem wl_re {T : Nat → ClassId} {lay lay' : List Kd} {a a' : Nat → Nat} {x x' : XS} (f : Nat → Nat)
    (h : ∀ q kd, lay'[q]? = some kd → a' q = a (f q) ∧ (∃ kd0, lay[f q]? = some kd0 ∧ cellOf T a' x' q kd = cellOf T a x (f q) kd0)) :
    ∀ (k : Nat) (q : Nat × va_E), (wl T lay' a' x')[k]? = some q → (wl T lay a x)[f k]? = some q := by
  intro k q hk
  obtain ⟨kd, h1, rfl⟩ := wl_some hk
  obtain ⟨e1, kd0, h2, e2⟩ := h k kd h1
  rw [wl_get h2, e1, e2]
theorem wl_same {T : Nat → ClassId} {lay : List Kd} {a a' : Nat → Nat} {x x' : XS} (P : Nat → Bool) (hok : okR lay P = true) (ha : ∀ j, P j = true → a' j = a j) (hx : ∀ q < lay.length, ∀ k, x'.1 q k = x.1 q k ∧ x'.2 q k = x.2 q k) : wl T lay a' x' = wl T lay a x := by
  apply List.ext_getElem?
  intro i
  by_cases hi : i < lay.length
  · have hg := List.getElem?_eq_getElem hi
    rw [wl_get hg, wl_get hg, ha i (okR_own hok hi), cell_a (a := a) (fun o t ho ht h3 => ha _ (okR_ref hok (by rw [hg, ho]) ht h3)), cell_other (fun k => (hx i hi k).1) (fun k => (hx i hi k).2)]
  · rw [List.getElem?_eq_none (by simp [wl_len]; omega), List.getElem?_eq_none (by simp [wl_len]; omega)]
theorem wl_app {T : Nat → ClassId} {lay : List Kd} {kd : Kd} {a : Nat → Nat} {x : XS} : wl T (lay ++ [kd]) a x = wl T lay a x ++ [(a lay.length, cellOf T a x lay.length kd)] := by
  apply List.ext_getElem?
  intro i
  by_cases hi : i < lay.length
  · rw [List.getElem?_append_left (by rw [wl_len]; exact hi)]
    have hg := List.getElem?_eq_getElem hi
    rw [wl_get hg, wl_get (by rw [List.getElem?_append_left hi]; exact hg)]
  · by_cases he : i = lay.length
    · subst he
      rw [wl_get (by rw [List.getElem?_append_right (Nat.le_refl _), Nat.sub_self]; rfl), List.getElem?_append_right (by rw [wl_len]; exact Nat.le_refl _), wl_len, Nat.sub_self]; rfl
    · rw [List.getElem?_eq_none (by simp [wl_len]; omega), List.getElem?_eq_none (by simp [wl_len]; omega)]
theorem clr_o {x : XS} {lay : List Kd} : ∀ q < lay.length, ∀ k, (clr x lay.length).1 q k = x.1 q k ∧ (clr x lay.length).2 q k = x.2 q k := by
  intro q hq k
  have : q ≠ lay.length := by omega
  simp [clr, this]
section WN
variable {k : Kx} {cc : ByteArray} {nL rk mc ms pc cells slots : Nat} {own nm : String} {ret : Option FieldType} {lay : List Kd} {a : Nat → Nat} {x : XS} {L : List (Nat × Value)} {stk st0 : List Value} {post : Option Value → XS → Prop}
theorem tys_eq {D : va_G} {T : Nat → ClassId} {s : State} {ty : FieldType} {t : Nat} {cA : ClassId} (ht : (tysT T)[t]? = some (T t, ty)) (hK : va_K D vwCl (tysT T) s) (hK2 : va_K D vwCl (tysT T ++ [(cA, ty)]) s) (hp : ∀ U c, va_RA U c ty ↔ U.vm.findClass ("[" ++ ty.toString) = some c) : cA = T t := by
  have h1 := (hp _ _).mp (hK.2 t _ ht).2
  have h2 := (hp _ _).mp (hK2.2 4 (cA, ty) rfl).2
  exact Option.some.inj (h2.symm.trans h1)
theorem xnewI (hk : Fok k cc nL own ret nm rk mc ms) {N : Nat} {n : Int32} (d : decode cc pc = .ok (.newarray .int, 2)) (hn : ¬ n < 0) (hN : n.toNatClampNeg = N) (hb4 : N * componentBytes .int ≤ 536870912) (hc : cells + 1 ≤ mc) (hs : slots + N ≤ ms) (hok : okR lay (fun j => decide (j ≠ lay.length)) = true)
    (kk : ∀ a' : Nat → Nat, (∀ j, j ≠ lay.length → a' j = a j) → Wx k (cells + 1) (slots + N) (lay ++ [.inr (0, N)]) a' (clr x lay.length) (pc + 2) L (.ref (a' lay.length) :: stk)) : Wx k cells slots lay a x pc L (.int n :: stk) := by
  rcases k with ⟨p, e, s, m, args, below, meth, c, Q, A, R, g⟩
  obtain ⟨hx, hb, hml, hown, hts, hr, hlk, hK, hA, hA0, hR, hSg, hnm, hb0⟩ := hk
  intro H locs ls hP hD hS hl
  refine va_newa (atype := .int) (a0 := (N, .inl (fun _ => 0))) hx hb (hts _ w_arrInt) rfl hK hP hD hS hA (fun _ => rfl) hn hN hb4 (by subst hR; exact hc) (by subst hR; exact hs) d (fun q cA H1 hK2 hP2 hD2 hS2 => ?_)
  have hcA := tys_eq (t := 0) rfl hK hK2 (fun U c => Iff.rfl)
  subst hcA
  let a' : Nat → Nat := fun j => if j = lay.length then q else a j
  have ha' : ∀ j, j ≠ lay.length → a' j = a j := fun j hj => if_neg hj
  have haq : a' lay.length = q := if_pos rfl
  have e : wl g.2.2.1 (lay ++ [.inr (0, N)]) a' (clr x lay.length) = wl g.2.2.1 lay a x ++ [(q, .inl (g.2.2.1 0, (N, .inl (fun _ => 0))))] := by
    rw [wl_app, wl_same (a := a) (x := x) _ hok (fun j hj => ha' j (of_decide_eq_true hj)) clr_o, haq]
    simp [cellOf, clr]
  rw [← e] at hP2 hD2
  have := kk a' ha' H1 locs ls hP2 hD2 hS2 hl
  rw [haq] at this
  exact this
theorem xnewL (hk : Fok k cc nL own ret nm rk mc ms) {N : Nat} {n : Int32} (d : decode cc pc = .ok (.newarray .long, 2)) (hn : ¬ n < 0) (hN : n.toNatClampNeg = N) (hb4 : N * componentBytes .long ≤ 536870912) (hc : cells + 1 ≤ mc) (hs : slots + N ≤ ms) (hok : okR lay (fun j => decide (j ≠ lay.length)) = true)
    (kk : ∀ a' : Nat → Nat, (∀ j, j ≠ lay.length → a' j = a j) → Wx k (cells + 1) (slots + N) (lay ++ [.inr (1, N)]) a' (clr x lay.length) (pc + 2) L (.ref (a' lay.length) :: stk)) : Wx k cells slots lay a x pc L (.int n :: stk) := by
  rcases k with ⟨p, e, s, m, args, below, meth, c, Q, A, R, g⟩
  obtain ⟨hx, hb, hml, hown, hts, hr, hlk, hK, hA, hA0, hR, hSg, hnm, hb0⟩ := hk
  intro H locs ls hP hD hS hl
  refine va_newa (atype := .long) (a0 := (N, .inr (.inl (fun _ => 0)))) hx hb (hts _ w_arrLong) rfl hK hP hD hS hA (fun _ => rfl) hn hN hb4 (by subst hR; exact hc) (by subst hR; exact hs) d (fun q cA H1 hK2 hP2 hD2 hS2 => ?_)
  have hcA := tys_eq (t := 1) rfl hK hK2 (fun U c => Iff.rfl)
  subst hcA
  let a' : Nat → Nat := fun j => if j = lay.length then q else a j
  have ha' : ∀ j, j ≠ lay.length → a' j = a j := fun j hj => if_neg hj
  have haq : a' lay.length = q := if_pos rfl
  have e : wl g.2.2.1 (lay ++ [.inr (1, N)]) a' (clr x lay.length) = wl g.2.2.1 lay a x ++ [(q, .inl (g.2.2.1 1, (N, .inr (.inl (fun _ => 0)))))] := by
    rw [wl_app, wl_same (a := a) (x := x) _ hok (fun j hj => ha' j (of_decide_eq_true hj)) clr_o, haq]
    simp [cellOf, clr]
  rw [← e] at hP2 hD2
  have := kk a' ha' H1 locs ls hP2 hD2 hS2 hl
  rw [haq] at this
  exact this
theorem xnewB (hk : Fok k cc nL own ret nm rk mc ms) {N : Nat} {n : Int32} (d : decode cc pc = .ok (.newarray .byte, 2)) (hn : ¬ n < 0) (hN : n.toNatClampNeg = N) (hb4 : N * componentBytes .byte ≤ 536870912) (hc : cells + 1 ≤ mc) (hs : slots + N ≤ ms) (hok : okR lay (fun j => decide (j ≠ lay.length)) = true)
    (kk : ∀ a' : Nat → Nat, (∀ j, j ≠ lay.length → a' j = a j) → Wx k (cells + 1) (slots + N) (lay ++ [.inr (2, N)]) a' (clr x lay.length) (pc + 2) L (.ref (a' lay.length) :: stk)) : Wx k cells slots lay a x pc L (.int n :: stk) := by
  rcases k with ⟨p, e, s, m, args, below, meth, c, Q, A, R, g⟩
  obtain ⟨hx, hb, hml, hown, hts, hr, hlk, hK, hA, hA0, hR, hSg, hnm, hb0⟩ := hk
  intro H locs ls hP hD hS hl
  refine va_newa (atype := .byte) (a0 := (N, .inl (fun _ => 0))) hx hb (hts _ w_arrByte) rfl hK hP hD hS hA (fun _ => rfl) hn hN hb4 (by subst hR; exact hc) (by subst hR; exact hs) d (fun q cA H1 hK2 hP2 hD2 hS2 => ?_)
  have hcA := tys_eq (t := 2) rfl hK hK2 (fun U c => Iff.rfl)
  subst hcA
  let a' : Nat → Nat := fun j => if j = lay.length then q else a j
  have ha' : ∀ j, j ≠ lay.length → a' j = a j := fun j hj => if_neg hj
  have haq : a' lay.length = q := if_pos rfl
  have e : wl g.2.2.1 (lay ++ [.inr (2, N)]) a' (clr x lay.length) = wl g.2.2.1 lay a x ++ [(q, .inl (g.2.2.1 2, (N, .inl (fun _ => 0))))] := by
    rw [wl_app, wl_same (a := a) (x := x) _ hok (fun j hj => ha' j (of_decide_eq_true hj)) clr_o, haq]
    simp [cellOf, clr]
  rw [← e] at hP2 hD2
  have := kk a' ha' H1 locs ls hP2 hD2 hS2 hl
  rw [haq] at this
  exact this
/-- what a field of a type begins with -/
def kd0 : FieldType → Nat
  | .long => 1
  | .int => 0
  | .boolean => 0
  | .byte => 0
  | .char => 0
  | .short => 0
  | _ => 2
theorem xnew (hk : Fok k cc nL own ret nm rk mc ms) {idx ci N : Nat} {C : String} {F : u_T} {ft : List Nat} (tyF : Nat → FieldType) (d : decode cc pc = .ok (.new idx, 3)) (hinst : Cond.instantiable C N ∈ GW) (hini : Cond.initialized C ∈ GW) (hty : ∀ k, k < N → parseFieldDescriptor (F k).2.2.1 = some (tyF k)) (hci : vwCl[ci]? = some (C, F, N)) (hft : ft.length = N) (hkd : ∀ j, j < N → ∀ (a : Nat → Nat) (x : XS) (q : Nat), defaultValue (tyF j) = fval a (clr x q) q j (ft.getD j 0)) (hg : Cond.classLink own idx C ∈ GW) (hc : cells + 1 ≤ mc) (hs : slots + N ≤ ms) (hok : okR lay (fun j => decide (j ≠ lay.length)) = true)
    (kk : ∀ a' : Nat → Nat, (∀ j, j ≠ lay.length → a' j = a j) → Wx k (cells + 1) (slots + N) (lay ++ [.inl (ci, ft)]) a' (clr x lay.length) (pc + 3) L (.ref (a' lay.length) :: stk)) : Wx k cells slots lay a x pc L stk := by
  rcases k with ⟨p, e, s, m, args, below, meth, c, Q, A, R, g⟩
  obtain ⟨hx, hb, hml, hown, hts, hr, hlk, hK, hA, hA0, hR, hSg, hnm, hb0⟩ := hk
  intro H locs ls hP hD hS hl
  have hfs : ∀ j, j < N → defaultValue (tyF j) = vp_V (flist a (clr x lay.length) lay.length ft) j := fun j hj => by
    have h1 : ft[j]? = some (ft.getD j 0) := by rw [List.getD, List.getElem?_eq_getElem (by omega)]; rfl
    rw [hkd j hj a x lay.length]
    simp [vp_V, flist_get h1]
  refine va_new hx hb hts (cls_GW hci) tyF hty hown (hts _ hg) (hts _ hinst) (hts _ hini) hK hP hD hS hA hci (fs := flist a (clr x lay.length) lay.length ft) hfs (by subst hR; exact hc) (by subst hR; exact hs) d (fun q H1 hP2 hD2 hS2 => ?_)
  let a' : Nat → Nat := fun j => if j = lay.length then q else a j
  have ha' : ∀ j, j ≠ lay.length → a' j = a j := fun j hj => if_neg hj
  have haq : a' lay.length = q := if_pos rfl
  have e : wl g.2.2.1 (lay ++ [.inl (ci, ft)]) a' (clr x lay.length) = wl g.2.2.1 lay a x ++ [(q, .inr (ci, flist a (clr x lay.length) lay.length ft))] := by
    rw [wl_app, wl_same (a := a) (x := x) _ hok (fun j hj => ha' j (of_decide_eq_true hj)) clr_o, haq]
    have hfl : flist a' (clr x lay.length) lay.length ft = flist a (clr x lay.length) lay.length ft := by
      refine List.map_congr_left fun j hj => ?_
      have hj2 : j < N := by rw [← hft]; exact List.mem_range.mp hj
      rw [← hkd j hj2 a' x lay.length, ← hkd j hj2 a x lay.length]
    rw [cell_o (vw_lt hci), hfl]
  rw [← e] at hP2 hD2
  have := kk a' ha' H1 locs ls hP2 hD2 hS2 hl
  rw [haq] at this
  exact this
end WN

