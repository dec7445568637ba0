
/-! Arrays of references; null; the kinds of Sim's cells -/
theorem w_cl7 : Cond.classLink RX9 7 "[I" ∈ GW := gw_mem 891 (by decide +kernel) (by decide +kernel)
theorem wl_setRA {T : Nat → ClassId} {lay : List Kd} {a : Nat → Nat} {x : XS} {q t i j : Nat} {ft : List Nat} (h : lay[q]? = some (.inl (100 + t, ft))) (hi : i < ft.length) : (wl T lay a x).set q (a q, .inl (T t, ft.length, .inr (.inr (.inr (.inr (va_up (fun j => rfN a (ft.getD j 2)) i (some (a j)))))))) = wl T (lay.set q (.inl (100 + t, ft.set i (j + 3)))) a x := by
  have hq := (List.getElem?_eq_some_iff.mp h).1
  apply List.ext_getElem?
  intro m
  by_cases hm : m < lay.length
  · have hg := List.getElem?_eq_getElem hm
    by_cases hmq : m = q
    · subst hmq
      rw [List.getElem?_set_self (by rw [wl_len]; exact hm), wl_get (kd := .inl (100 + t, ft.set i (j + 3))) (by rw [List.getElem?_set_self hm]), cell_r, List.length_set]
      have hf : va_up (fun j => rfN a (ft.getD j 2)) i (some (a j)) = fun y => rfN a ((ft.set i (j + 3)).getD y 2) := by
        funext y
        by_cases hy : y = i
        · subst hy
          rw [List.getD_eq_getElem?_getD, List.getElem?_set_self hi]
          simp [va_up, rfN]
        · have h2 : i ≠ y := fun e => hy e.symm
          rw [List.getD_eq_getElem?_getD, List.getElem?_set_ne h2]
          simp [va_up, hy, List.getD_eq_getElem?_getD]
      rw [hf]
    · rw [List.getElem?_set_ne (fun z => hmq z.symm), wl_get hg, wl_get (kd := lay[m]) (by rw [List.getElem?_set_ne (fun z => hmq z.symm)]; exact hg)]
  · rw [List.getElem?_eq_none (by simp [wl_len]; omega), List.getElem?_eq_none (by simp [wl_len]; omega)]
section WRA
variable {k : Kx} {cc : ByteArray} {nL rk mc ms pc cells slots : Nat} {own nm : String} {ret : Option FieldType} {lay : List Kd} {a : Nat → Nat} {x : XS} {L : List (Nat × Value)} {stk st0 : List Value} {post : Option Value → XS → Prop}
theorem xaald (hk : Fok k cc nL own ret nm rk mc ms) {q j : Nat} {i : Int32} {ft : List Nat} (d : decode cc pc = .ok (.aaload, 1)) (hq : lay[q]? = some (.inl (103, ft))) (hi : vp_in i ft.length) (hj : ft[i.toNatClampNeg]? = some (j + 3)) (kk : Wx k cells slots lay a x (pc + 1) L (.ref (a j) :: stk)) : Wx k cells slots lay a x pc L (.int i :: .ref (a q) :: stk) := by
  rcases k with ⟨p, e, s, m, args, below, meth, c, Q, A, R, g⟩
  obtain ⟨hx, hb, hml, hown, hts, hr, hlk, hK, hA, hA0, hR, hSg, hnm, hb0⟩ := hk
  intro H locs ls hP hD hS hl
  have hlt : i.toNatClampNeg < ft.length := Nat.not_le.mp fun z => hi (Or.inr z)
  refine W.aald (v := .ref (a j)) (ty := .array .int) hx hb (hP q _ (wl_getR (t := 3) hq)) ((hK.2 3 _ rfl).1 ft.length (fun j => va_rf (rfN a (ft.getD j 2)))) rfl (fun z => by cases z) (by show ¬ (i < 0 ∨ (arrV _ _ _).slots.size ≤ _); rw [arrV_size]; exact hi) ?_ rfl rfl d (kk H locs ls hP hD hS hl)
  show (arrV _ _ _).slots[_]? = _
  rw [arrV_read _ _ hlt]
  have hg : ft.getD i.toNatClampNeg 2 = j + 3 := by rw [List.getD_eq_getElem?_getD, hj]; rfl
  show some (va_rf (rfN a (ft.getD i.toNatClampNeg 2))) = _
  rw [hg]
  rfl
theorem xaast (hk : Fok k cc nL own ret nm rk mc ms) {q j n : Nat} {i : Int32} {ft : List Nat} (d : decode cc pc = .ok (.aastore, 1)) (hq : lay[q]? = some (.inl (103, ft))) (hj : lay[j]? = some (.inr (0, n))) (hi : vp_in i ft.length) (kk : Wx k cells slots (lay.set q (.inl (103, ft.set i.toNatClampNeg (j + 3)))) a x (pc + 1) L stk) : Wx k cells slots lay a x pc L (.ref (a j) :: .int i :: .ref (a q) :: stk) := by
  rcases k with ⟨p, e, s, m, args, below, meth, c, Q, A, R, g⟩
  obtain ⟨hx, hb, hml, hown, hts, hr, hlk, hK, hA, hA0, hR, hSg, hnm, hb0⟩ := hk
  intro H locs ls hP hD hS hl
  have hlt : i.toNatClampNeg < ft.length := Nat.not_le.mp fun z => hi (Or.inr z)
  obtain ⟨-, kA, hkA, hkk⟩ := hSg.2.2.2.2.1
  obtain ⟨-, k0, hk0, -⟩ := (hK.2 0 _ rfl).1 n (fun j => .int (x.1 j 0))
  have hR0 := wl_getR (T := g.2.2.1) (a := a) (x := x) (t := 3) hq
  refine W.aast (k := kA) (kcomp := k0) (kv := k0) hx hb (hP q _ hR0) (fun z h => by cases h) (fun h => by cases h) hkA hkk rfl hk0 ⟨fun z => hi (Or.inl z), by show _ < (arrV _ _ _).slots.size; rw [arrV_size]; exact hlt⟩ (hP j _ (wl_get hj)) (fun z h => by cases h) hk0 (va_asg _ _) rfl rfl d fun H1 e1 z oq => ?_
  have hv : va_at g.2.1 vwCl (a q, .inl (g.2.2.1 3, ft.length, .inr (.inr (.inr (.inr (va_up (fun j => rfN a (ft.getD j 2)) i.toNatClampNeg (some (a j)))))))) H1 := by
    show H1[a q]? = some (vp_cell _ _)
    rw [e1, vp_cell_q, vp_cell_q, arrV_store]
    congr 2
    funext y
    by_cases hy : y = i.toNatClampNeg
    · subst hy
      simp [updV, va_up, va_rf]
    · simp [updV, va_up, hy]
  have hP1 := hP.set hD hR0 hv oq
  have hD1 := hD.set (e := .inl (g.2.2.1 3, ft.length, .inr (.inr (.inr (.inr (va_up (fun j => rfN a (ft.getD j 2)) i.toNatClampNeg (some (a j)))))))) hR0
  rw [wl_setRA (t := 3) hq hlt] at hP1 hD1
  exact kk H1 _ ls hP1 hD1 (hS.put z oq (hD.2 q _ hR0)) hl
theorem xalenR (hk : Fok k cc nL own ret nm rk mc ms) {q : Nat} {v : Int32} {ft : List Nat} (d : decode cc pc = .ok (.arraylength, 1)) (hq : lay[q]? = some (.inl (103, ft))) (hv : Int32.ofNat ft.length = v) (kk : Wx k cells slots lay a x (pc + 1) L (.int v :: stk)) : Wx k cells slots lay a x pc L (.ref (a q) :: stk) := by
  rcases k with ⟨p, e, s, m, args, below, meth, c, Q, A, R, g⟩
  obtain ⟨hx, hb, hml, hown, hts, hr, hlk, hK, hA, hA0, hR, hSg, hnm, hb0⟩ := hk
  intro H locs ls hP hD hS hl
  exact va_alen (v := v) hx hb hK hP q 3 (wl_getR (t := 3) hq) rfl hv d (kk H locs ls hP hD hS hl)
theorem xanew (hk : Fok k cc nL RX9 ret nm rk mc ms) {N : Nat} {n : Int32} (d : decode cc pc = .ok (.anewarray 7, 3)) (hn : ¬ n < 0) (hN : n.toNatClampNeg = N) (hb4 : N * 4 ≤ 536870912) (hc : cells + 1 ≤ mc) (hs : slots + N ≤ ms) (hok : okR lay (fun j => decide (j ≠ lay.length)) = true)
    (kk : ∀ a' : Nat → Nat, (∀ j, j ≠ lay.length → a' j = a j) → Wx k (cells + 1) (slots + N) (lay ++ [.inl (103, List.replicate N 2)]) a' x (pc + 3) L (.ref (a' lay.length) :: stk)) : Wx k cells slots lay a x pc L (.int n :: stk) := by
  rcases k with ⟨p, e, s, m, args, below, meth, c, Q, A, R, g⟩
  obtain ⟨hx, hb, hml, hown, hts, hr, hlk, hK, hA, hA0, hR, hSg, hnm, hb0⟩ := hk
  intro H locs ls hP hD hS hl
  subst hN
  refine W.anewA (t := .int) hx hb hown (hts _ w_cl7) hSg.2.2.2.2.1.1 rfl d rfl hn hb4 (by subst hR; exact hc) (by subst hR; exact hs) fun cA kA comp f1 f2 f3 f4 => ?_
  have hT : cA = g.2.2.1 3 := Option.some.inj (f1.symm.trans (hK.2 3 _ rfl).2)
  subst hT
  generalize hH1 : H.push ({ cls := g.2.2.1 3, slots := Array.replicate n.toNatClampNeg .null, vm := .none } : Cell) = H1
  have z1 : H1.size = H.size + 1 := by rw [← hH1, Array.size_push]
  have e1 : H1[H.size]? = some (arrV (g.2.2.1 3) n.toNatClampNeg (fun _ => .null)) := by rw [← hH1, Array.getElem?_push_size, ← arrV_new]
  have o1 : ∀ q : Nat, q < H.size → H1[q]? = H[q]? := fun q hq => by rw [← hH1, Array.getElem?_push, if_neg (Nat.ne_of_lt hq)]
  have hkp : ∀ (k : Nat) (z : Nat × va_E), (wl g.2.2.1 lay a x)[k]? = some z → H1[z.1]? = H[z.1]? := fun k z hz => o1 z.1 ((hP k z hz).lt)
  let a' : Nat → Nat := fun j => if j = lay.length then H.size else a j
  have ha' : ∀ j, j ≠ lay.length → a' j = a j := fun j hj => if_neg hj
  have haq : a' lay.length = H.size := if_pos rfl
  have hgd : ∀ j, (List.replicate n.toNatClampNeg 2).getD j 2 = 2 := fun j => by
    rw [List.getD, List.getElem?_replicate]; split <;> rfl
  have e : wl g.2.2.1 (lay ++ [.inl (103, List.replicate n.toNatClampNeg 2)]) a' x = wl g.2.2.1 lay a x ++ [(H.size, .inl (g.2.2.1 3, n.toNatClampNeg, .inr (.inr (.inr (.inr (fun _ => none))))))] := by
    rw [wl_app, wl_same (a := a) (x := x) _ hok (fun j hj => ha' j (of_decide_eq_true hj)) (fun _ _ _ => ⟨rfl, rfl⟩), haq, show (103 : Nat) = 100 + 3 from rfl, cell_r, List.length_replicate]
    have hf : (fun j => rfN a' ((List.replicate n.toNatClampNeg 2).getD j 2)) = fun _ => none := by
      funext j
      rw [hgd]; rfl
    rw [hf]
  have hP2 : va_P g.2.1 vwCl (wl g.2.2.1 lay a x ++ [(H.size, .inl (g.2.2.1 3, n.toNatClampNeg, .inr (.inr (.inr (.inr (fun _ => none))))))]) H1 := (hP.kept hkp).app (fun k z hz => by
    have hz1 : k < 1 := (List.getElem?_eq_some_iff.mp hz).1
    rw [show k = 0 by omega] at hz
    cases hz
    show H1[H.size]? = some (vp_cell _ _)
    rw [vp_cell_q]
    exact e1)
  have hD2 := hD.push (e := .inl (g.2.2.1 3, n.toNatClampNeg, .inr (.inr (.inr (.inr (fun _ => none)))))) hP rfl (hA _ hS.1)
  have hS2 : va_S A s.heap H1 locs := ⟨Nat.le_trans hS.1 (by omega), fun z h1 h2 => (o1 z (Nat.lt_of_lt_of_le h1 hS.1)).trans (hS.2.1 z h1 h2), hS.2.2⟩
  rw [← e] at hP2 hD2
  have := kk a' ha' H1 locs ls hP2 hD2 hS2 hl
  rw [haq] at this
  exact this
theorem xnull (hk : Fok k cc nL own ret nm rk mc ms) (d : decode cc pc = .ok (.aconst_null, 1)) (kk : Wx k cells slots lay a x (pc + 1) L (.null :: stk)) : Wx k cells slots lay a x pc L stk := by
  rcases k with ⟨p, e, s, m, args, below, meth, c, Q, A, R, g⟩
  obtain ⟨hx, hb, hml, hown, hts, hr, hlk, hK, hA, hA0, hR, hSg, hnm, hb0⟩ := hk
  intro H locs ls hP hD hS hl
  exact lv_null hx hb d (kk H locs ls hP hD hS hl)
theorem xnonnull (hk : Fok k cc nL own ret nm rk mc ms) {v : Nat} {off : Int} (tgt : Nat) (d : decode cc pc = .ok (.ifnonnull off, 3)) (ht : (pc : Int) + off = (tgt : Int)) (kk : Wx k cells slots lay a x tgt L stk) : Wx k cells slots lay a x pc L (.ref v :: stk) := by
  rcases k with ⟨p, e, s, m, args, below, meth, c, Q, A, R, g⟩
  obtain ⟨hx, hb, hml, hown, hts, hr, hlk, hK, hA, hA0, hR, hSg, hnm, hb0⟩ := hk
  intro H locs ls hP hD hS hl
  exact lv_ifnonnull hx hb d ht (kk H locs ls hP hD hS hl)
end WRA
/-- every place that a layout names is one of its own -/
def Cl (lay : List Kd) : Prop := ∀ (i : Nat) (o : Nat × List Nat), lay[i]? = some (.inl o) → ∀ t ∈ o.2, 3 ≤ t → t - 3 < lay.length
theorem okR_cl {lay : List Kd} (h : Cl lay) {P : Nat → Bool} (hP : ∀ j, j < lay.length → P j = true) : okR lay P = true := by
  simp only [okR, Bool.and_eq_true, List.all_eq_true]
  refine ⟨fun j hj => hP j (List.mem_range.mp hj), fun kd hkd => ?_⟩
  obtain ⟨i, hi⟩ := List.getElem?_of_mem hkd
  match kd, hi with
  | .inl o, hi =>
    simp only [List.all_eq_true, Bool.or_eq_true, decide_eq_true_eq]
    intro t ht
    by_cases h3 : t < 3
    · exact Or.inl h3
    · exact Or.inr (hP _ (h i o hi t ht (by omega)))
  | .inr z, _ => rfl
theorem okR_new {lay : List Kd} (h : Cl lay) : okR lay (fun j => decide (j ≠ lay.length)) = true := okR_cl h (fun j hj => decide_eq_true (by omega))
theorem okR_in {lay : List Kd} (h : Cl lay) : okR lay (fun j => decide (j < lay.length)) = true := okR_cl h (fun j hj => decide_eq_true hj)
theorem Cl.app {lay : List Kd} {kd : Kd} (h : Cl lay) (h1 : ∀ o : Nat × List Nat, kd = .inl o → ∀ t ∈ o.2, 3 ≤ t → t - 3 ≤ lay.length) : Cl (lay ++ [kd]) := by
  intro i o hi t ht h3
  rw [List.length_append, List.length_singleton]
  by_cases hl : i < lay.length
  · rw [List.getElem?_append_left hl] at hi
    have := h i o hi t ht h3
    omega
  · rw [List.getElem?_append_right (by omega)] at hi
    have hz := (List.getElem?_eq_some_iff.mp hi).1
    simp only [List.length_singleton] at hz
    rw [show i - lay.length = 0 by omega] at hi
    have := h1 o (Option.some.inj hi) t ht h3
    omega
theorem Cl.appR {lay : List Kd} {z : Nat × Nat} (h : Cl lay) : Cl (lay ++ [.inr z]) := h.app (fun o e => by cases e)
theorem Cl.set {lay : List Kd} {q : Nat} {kd : Kd} (h : Cl lay) (h1 : ∀ o : Nat × List Nat, kd = .inl o → ∀ t ∈ o.2, 3 ≤ t → t - 3 < lay.length) : Cl (lay.set q kd) := by
  intro i o hi t ht h3
  rw [List.length_set]
  by_cases hq : q = i
  · subst hq
    have hl := (List.getElem?_eq_some_iff.mp hi).1
    rw [List.length_set] at hl
    rw [List.getElem?_set_self hl] at hi
    exact h1 o (Option.some.inj hi) t ht h3
  · rw [List.getElem?_set_ne hq] at hi
    exact h i o hi t ht h3
