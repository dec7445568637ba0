
/-! A call of a method that knows the last part of the layout, and changes it -/
def sufL (fr lay1 : List Kd) : List Kd := fr ++ lay1.map (mapK (fun j => fr.length + j))
def sufA (off : Nat) (a a1 : Nat → Nat) : Nat → Nat := fun i => if i < off then a i else a1 (i - off)
def sufX (off : Nat) (x x1 : XS) : XS := (fun i j => if i < off then x.1 i j else x1.1 (i - off) j, fun i j => if i < off then x.2 i j else x1.2 (i - off) j)
theorem sufA_ge {off j : Nat} {a a1 : Nat → Nat} : sufA off a a1 (off + j) = a1 j := by
  unfold sufA
  rw [if_neg (by omega), Nat.add_sub_cancel_left]
theorem sufX_ge {off j : Nat} {x x1 : XS} (k : Nat) : x1.1 j k = (sufX off x x1).1 (off + j) k ∧ x1.2 j k = (sufX off x x1).2 (off + j) k := by
  unfold sufX
  simp only [if_neg (show ¬ off + j < off by omega), Nat.add_sub_cancel_left, and_self]
theorem sufL_sub {fr lay1 : List Kd} : Sub fr.length lay1 (sufL fr lay1) = true := by
  refine List.all_eq_true.mpr fun q hq => decide_eq_true ?_
  unfold sufL
  rw [List.getElem?_append_right (Nat.le_add_right _ _), Nat.add_sub_cancel_left, List.getElem?_map]
theorem suf_P {D : va_G} {T : Nat → ClassId} {A : Nat → Prop} {fr lay1 lay1' : List Kd} {a a1' : Nat → Nat} {x x1' : XS} {H H1 : Heap} (hfr : okR fr (fun j => decide (j < fr.length)) = true) (hP : va_P D vwCl (wl T (sufL fr lay1) a x) H) (hD : va_D A (wl T (sufL fr lay1) a x)) (hA : ∀ q : Nat, H.size ≤ q → A q)
    (hk : ∀ q : Nat, q < H.size → ¬ Aw lay1 (fun j => a (fr.length + j)) H.size q → H1[q]? = H[q]?) (hP1 : va_P D vwCl (wl T lay1' a1' x1') H1) (hD1 : va_D (Aw lay1 (fun j => a (fr.length + j)) H.size) (wl T lay1' a1' x1')) :
    va_P D vwCl (wl T (sufL fr lay1') (sufA fr.length a a1') (sufX fr.length x x1')) H1 ∧ va_D A (wl T (sufL fr lay1') (sufA fr.length a a1') (sufX fr.length x x1')) := by
  have hf := sub_Aw sufL_sub hD hA
  have old : ∀ {i : Nat} {kd : Kd}, i < fr.length → (sufL fr lay1')[i]? = some kd → (wl T (sufL fr lay1) a x)[i]? = some (a i, cellOf T (sufA fr.length a a1') (sufX fr.length x x1') i kd) ∧ sufA fr.length a a1' i = a i := by
    intro i kd hi h1
    have h2 : fr[i]? = some kd := by rw [sufL, List.getElem?_append_left hi] at h1; exact h1
    have h3 : (sufL fr lay1)[i]? = some kd := by rw [sufL, List.getElem?_append_left hi]; exact h2
    refine ⟨?_, if_pos hi⟩
    have hc : cellOf T (sufA fr.length a a1') x i kd = cellOf T a x i kd := cell_a (fun o t ho ht ht3 => by
      subst ho
      exact if_pos (of_decide_eq_true (okR_ref hfr h2 ht ht3)))
    rw [wl_get h3, cell_other (x' := sufX fr.length x x1') (x := x) (fun k => by simp only [sufX, if_pos hi]) (fun k => by simp only [sufX, if_pos hi]), hc]
  have new : ∀ {j : Nat} {kd : Kd}, (sufL fr lay1')[fr.length + j]? = some kd → (wl T lay1' a1' x1')[j]? = some (sufA fr.length a a1' (fr.length + j), cellOf T (sufA fr.length a a1') (sufX fr.length x x1') (fr.length + j) kd) := by
    intro j kd h1
    rw [sufL, List.getElem?_append_right (Nat.le_add_right _ _), Nat.add_sub_cancel_left, List.getElem?_map] at h1
    obtain ⟨kd1, h2, rfl⟩ := Option.map_eq_some_iff.mp h1
    have e : (fun j => sufA fr.length a a1' (fr.length + j)) = a1' := by funext j; exact sufA_ge
    rw [wl_get h2, ← cell_map (σ := fun j => fr.length + j) (x' := x1') (q := j) (fun k => sufX_ge k), e, sufA_ge]
  have apart : ∀ {i j : Nat} {p : Nat × va_E} {kd : Kd}, i < fr.length → (sufL fr lay1')[i]? = some kd → (wl T lay1' a1' x1')[j]? = some p → a i ≠ p.1 := by
    intro i j p kd hi h1 h2 e
    have h0 := (old hi h1).1
    rcases hD1.2 j p h2 with ⟨j1, hj1, e1⟩ | z
    · have h3 := wl_get (T := T) (a := a) (x := x) (sub_get (sufL_sub (fr := fr)) (List.getElem?_eq_getElem hj1))
      have := hD.1 _ _ _ _ h0 h3 (e.trans e1)
      omega
    · have h4 := (hP _ _ h0).lt
      rw [← e] at z
      exact absurd h4 (Nat.not_lt.mpr z)
  refine ⟨fun i q hq => ?_, fun i j p q hi hj hpq => ?_, fun i q hq => ?_⟩
  · obtain ⟨kd, h1, rfl⟩ := wl_some hq
    by_cases hi : i < fr.length
    · obtain ⟨h2, h3⟩ := old hi h1
      rw [h3]
      have h4 := hP i _ h2
      refine h4.kept (hk _ h4.lt ?_)
      rintro (⟨j, hj, e⟩ | z)
      · have := hD.1 _ _ _ _ h2 (wl_get (sub_get (sufL_sub (fr := fr)) (List.getElem?_eq_getElem hj))) e
        omega
      · exact absurd h4.lt (Nat.not_lt.mpr z)
    · obtain ⟨j, rfl⟩ : ∃ j, i = fr.length + j := ⟨i - fr.length, by omega⟩
      exact hP1 j _ (new h1)
  · obtain ⟨kd, h1, rfl⟩ := wl_some hi
    obtain ⟨ke, h2, rfl⟩ := wl_some hj
    by_cases hi1 : i < fr.length
    · by_cases hj1 : j < fr.length
      · obtain ⟨p1, p2⟩ := old hi1 h1
        obtain ⟨q1, q2⟩ := old hj1 h2
        exact hD.1 _ _ _ _ p1 q1 (by rw [← p2, ← q2]; exact hpq)
      · obtain ⟨j', rfl⟩ : ∃ j', j = fr.length + j' := ⟨j - fr.length, by omega⟩
        exact absurd ((old hi1 h1).2.symm.trans hpq) (apart hi1 h1 (new h2))
    · obtain ⟨i', rfl⟩ : ∃ i', i = fr.length + i' := ⟨i - fr.length, by omega⟩
      by_cases hj1 : j < fr.length
      · exact absurd ((old hj1 h2).2.symm.trans hpq.symm) (apart hj1 h2 (new h1))
      · obtain ⟨j', rfl⟩ : ∃ j', j = fr.length + j' := ⟨j - fr.length, by omega⟩
        rw [hD1.1 _ _ _ _ (new h1) (new h2) hpq]
  · obtain ⟨kd, h1, rfl⟩ := wl_some hq
    by_cases hi : i < fr.length
    · obtain ⟨h2, h3⟩ := old hi h1
      rw [h3]
      exact hD.2 _ _ h2
    · obtain ⟨j, rfl⟩ : ∃ j, i = fr.length + j := ⟨i - fr.length, by omega⟩
      exact hf _ (hD1.2 j _ (new h1))
section WQ
variable {k : Kx} {cc : ByteArray} {nL rk mc ms pc cells slots : Nat} {own nm : String} {ret : Option FieldType} {fr lay1 : List Kd} {a : Nat → Nat} {x : XS} {L : List (Nat × Value)} {stk st0 : List Value} {post : Option Value → List Kd → (Nat → Nat) → XS → Prop}
variable {y : MethodName} {cy : ByteArray} {nLy rky mcy msy n idx q : Nat} {rety : Option FieldType} {As : List Value}
theorem xgoQ {p : Program} {e : Env} {s : State} {m : MethodId} {args : Array Value} {below : List Frame} {meth : Method} {c : Code} {Q : State → Prop} {A : Nat → Prop} {R : Room} {g : Gx} {mc2 ms2 : Nat} {H : Heap} {locs : List Loc} {ls : Array Slot} {st0 : List Value} {av : Array Value} (hfr : okR fr (fun j => decide (j < fr.length)) = true)
    (hA : ∀ q : Nat, s.heap.size ≤ q → A q) (hr : va_Run p g.1 e R s m args below meth c H locs cells slots mc2 ms2 (F0 m pc ls st0) stk (PostZ g lay1 (fun j => a (fr.length + j)) post H.size av) (Aw lay1 (fun j => a (fr.length + j)) H.size)) (hP : va_P g.2.1 vwCl (wl g.2.2.1 (sufL fr lay1) a x) H) (hD : va_D A (wl g.2.2.1 (sufL fr lay1) a x)) (hS : va_S A s.heap H locs) (hl : lv_has ls c.maxLocals L)
    (kk : ∀ (v : Option Value) (lay1' : List Kd) (a1' : Nat → Nat) (x1 : XS), post v lay1' a1' x1 → Wx (p, e, s, m, args, below, meth, c, Q, A, R, g) (cells + mc2) (slots + ms2) (sufL fr lay1') (sufA fr.length a a1') (sufX fr.length x x1) (pc + 3) L (v.toList ++ stk)) : W p g.1 e R s m args below meth c H locs cells slots Q (F0 m pc ls st0) := by
  have hA' : ∀ q : Nat, H.size ≤ q → A q := fun q h => hA q (Nat.le_trans hS.1 h)
  have hf := sub_Aw sufL_sub hD hA'
  intro T hT X
  obtain ⟨v, st₀, t, T', L2, h0, X', hL, e1, e2, ⟨⟨v', lay', a', x', hv, hp, hb, hd⟩, hz, hkp⟩, st⟩ := hr T hT X
  cases hv
  rw [h0] at hz hkp
  have hkp' : ∀ q : Nat, q < H.size → ¬ Aw lay1 (fun j => a (fr.length + j)) H.size q → T'.heap[q]? = H[q]? := fun q h1 h2 => by rw [e1]; exact hkp q h1 h2
  obtain ⟨hP2, hD2⟩ := suf_P hfr hP hD hA' hkp' (by rw [e1]; exact hb) hd
  obtain ⟨t2, a1, b1⟩ := kk v lay' a' x' hp T'.heap (locs ++ L2) ls hP2 hD2
    ⟨Nat.le_trans hS.1 (by rw [e1]; exact hz), fun q h1 h2 => by rw [hkp' q (Nat.lt_of_lt_of_le h1 hS.1) (fun z => h2 (hf q z))]; exact hS.2.1 q h1 h2, fun q hq => by
      rcases List.mem_append.mp hq with h | h
      · exact hS.2.2 q h
      · exact hf _ (hL q h)⟩ hl T' rfl X'
  exact ⟨t2, st t2 a1, b1⟩
theorem xcallVQ (hfr : okR fr (fun j => decide (j < fr.length)) = true) {a1 : Nat → Nat} {x0 : XS} (hpa : (fun j => a (fr.length + j)) = a1) (hpx : pul fr.length x = x0) (hk : Fok k cc nL own ret nm rk mc ms) (M : Mz (kg k) y cy nLy rety rky mcy msy lay1 a1 x0 (.ref (a1 q) :: As) post) (cb : CBv y cy nLy rety n) (hw : Cond.methodLink own idx y ∈ GW) (d : decode cc pc = .ok (.invokevirtual idx, 3)) (hs : st0 = As.reverse ++ .ref (a (fr.length + q)) :: stk) (hq : ∃ (ci : Nat) (ft : List Nat) (F : u_T) (N : Nat), lay1[q]? = some (.inl (ci, ft)) ∧ vwCl[ci]? = some (y.cls, F, N)) (hn : As.length = n) (hrk : rky < rk) (hc : cells + mcy ≤ mc ∧ slots + msy ≤ ms) (hst : (stk.map fun v => v.category).sum ≤ 8)
    (kk : ∀ (v : Option Value) (lay1' : List Kd) (a1' : Nat → Nat) (x1 : XS), post v lay1' a1' x1 → Wx k (cells + mcy) (slots + msy) (sufL fr lay1') (sufA fr.length a a1') (sufX fr.length x x1) (pc + 3) L (v.toList ++ stk)) : Wx k cells slots (sufL fr lay1) a x pc L st0 := by
  subst hpa
  subst hpx
  rcases k with ⟨p, e, s, m, args, below, meth, c, Q, A, R, g⟩
  obtain ⟨hx, hb, hml, hown, hts, hr, hlk, hK, hA, hA0, hR, hSg, hnm, hb0⟩ := hk
  obtain ⟨⟨hcode, hini, hd, h45⟩, hinst, hsel⟩ := cb
  obtain ⟨ci, ft, F, N, hlay, hcl⟩ := hq
  subst hs
  intro H locs ls hP hD hS hl
  have hRR := room_in (mcy := mcy) (msy := msy) hR hrk h45
  exact xgoQ hfr hA (va_runV (ws := Cond.code y cy nLy rety :: GW) (rm := roomX rky mcy msy) (Ts := GW) (own := own) (C := y.cls) (cc := cc) (nL := nL) (As := As) (rest := stk) (n := n) ⟨hx, hb, hml, hown, hts⟩ (M H.size) ⟨callB_of n hts (goodIn_self hcode) rfl rfl rfl (hts _ hini) (hts _ hw) hd hRR, hts _ hinst, hts _ hsel⟩
    ⟨preX_blind _ _ _ _ _ _, va_recv hK (hP.by _ (sub_wl sufL_sub)) (ci := ci) (q0 := q) hcl (wl_getO hlay hcl), pre_O _ sufL_sub hK hb0 hA0 hSg hP hD hS⟩ rfl hn (hl.1.trans hml) rfl (lv_room hst) d (by subst hR; exact hc)) hP hD hS hl kk
theorem xcallIQ (hfr : okR fr (fun j => decide (j < fr.length)) = true) {a1 : Nat → Nat} {x0 : XS} {b : Nat} (hpa : (fun j => a (fr.length + j)) = a1) (hpx : pul fr.length x = x0) (hk : Fok k cc nL own ret nm rk mc ms) (M : Mz (kg k) y cy nLy none rky mcy msy lay1 a1 x0 (.ref b :: As) post) (cb : CBx y cy nLy none n) (hin : Cond.instanceMethod y ∈ GW) (hy1 : y.name = "<init>") (hw : Cond.methodLink own idx y ∈ GW) (d : decode cc pc = .ok (.invokespecial idx, 3)) (hs : st0 = As.reverse ++ .ref b :: stk) (hn : As.length = n) (hrk : rky < rk) (hc : cells + mcy ≤ mc ∧ slots + msy ≤ ms) (hst : (stk.map fun v => v.category).sum ≤ 8)
    (kk : ∀ (v : Option Value) (lay1' : List Kd) (a1' : Nat → Nat) (x1 : XS), post v lay1' a1' x1 → Wx k (cells + mcy) (slots + msy) (sufL fr lay1') (sufA fr.length a a1') (sufX fr.length x x1) (pc + 3) L (v.toList ++ stk)) : Wx k cells slots (sufL fr lay1) a x pc L st0 := by
  subst hpa
  subst hpx
  rcases k with ⟨p, e, s, m, args, below, meth, c, Q, A, R, g⟩
  obtain ⟨hx, hb, hml, hown, hts, hr, hlk, hK, hA, hA0, hR, hSg, hnm, hb0⟩ := hk
  obtain ⟨hcode, hini, hd, h45⟩ := cb
  subst hs
  intro H locs ls hP hD hS hl
  have hRR := room_in (mcy := mcy) (msy := msy) hR hrk h45
  exact xgoQ hfr hA (va_runI (ws := Cond.code y cy nLy none :: GW) (rm := roomX rky mcy msy) (Ts := GW) (own := own) (cc := cc) (nL := nL) (As := As) (rest := stk) (n := n) ⟨hx, hb, hml, hown, hts⟩ (M H.size) (cwI n hts (goodIn_self hcode) rfl rfl rfl (hts _ hini) (hts _ hw) (hts _ hin) hy1 hd hRR)
    ⟨preX_blind _ _ _ _ _ _, pre_O _ sufL_sub hK hb0 hA0 hSg hP hD hS⟩ rfl hn (hl.1.trans hml) rfl (lv_room hst) d (by subst hR; exact hc)) hP hD hS hl kk
end WQ

