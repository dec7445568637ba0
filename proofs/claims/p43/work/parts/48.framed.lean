
/-! A call beside cells that it doesn't touch -/
/-- behind a call, the cells ws that are not the callee's are as they were -/
theorem xgoF {p : Program} {e : Env} {s : State} {m : MethodId} {args : Array Value} {below : List Frame} {meth : Method} {c : Code} {Q : State → Prop} {A : Nat → Prop} {R : Room} {g : Gx} {mc2 ms2 pc cells slots : Nat} {H : Heap} {locs : List Loc} {ls : Array Slot} {st0 stk : List Value} {av : Array Value} {lay : List Kd} {a : Nat → Nat} {x : XS} {post : Option Value → XS → Prop} (ws : va_W)
    (hA : ∀ q : Nat, s.heap.size ≤ q → A q) (hr : va_Run p g.1 e R s m args below meth c H locs cells slots mc2 ms2 (F0 m pc ls st0) stk (PostX g lay a post H.size av) (Aw lay a H.size)) (hD : va_D A (wl g.2.2.1 lay a x)) (hS : va_S A s.heap H locs) (hP2 : va_P g.2.1 vwCl ws H) (hdis : ∀ (k : Nat) (q : Nat × va_E), ws[k]? = some q → ∀ j < lay.length, q.1 ≠ a j)
    (kk : ∀ (v : Option Value) (x' : XS), post v x' → ∀ (H1 : Heap) (locs1 : List Loc), va_P g.2.1 vwCl (wl g.2.2.1 lay a x') H1 → va_P g.2.1 vwCl ws H1 → va_S A s.heap H1 locs1 → W p g.1 e R s m args below meth c H1 locs1 (cells + mc2) (slots + ms2) Q (F0 m (pc + 3) ls (v.toList ++ stk))) : W p g.1 e R s m args below meth c H locs cells slots Q (F0 m pc ls st0) := by
  have hf : ∀ q, Aw lay a H.size q → A q := Aw_of hD (fun q h => hA q (Nat.le_trans hS.1 h))
  intro T hT X
  obtain ⟨v, st₀, t, T', L2, h0, X', hL, e1, e2, ⟨⟨v', x', hv, hp, hb⟩, hz, hkp⟩, st⟩ := hr T hT X
  cases hv
  rw [h0] at hz hkp
  have hP3 : va_P g.2.1 vwCl ws t.heap := hP2.kept (fun k q hk => hkp q.1 ((hP2 k q hk).lt) (fun z => by
    rcases z with ⟨j, hj, e⟩ | z
    · exact hdis k q hk j hj e
    · exact absurd ((hP2 k q hk).lt) (by omega)))
  obtain ⟨t2, a1, b1⟩ := kk v x' hp T'.heap (locs ++ L2) (by rw [e1]; exact hb) (by rw [e1]; exact hP3)
    ⟨Nat.le_trans hS.1 (by rw [e1]; exact hz), fun q h1 h2 => by rw [e1, hkp q (Nat.lt_of_lt_of_le h1 hS.1) (fun z => h2 (hf q z))]; exact hS.2.1 q h1 h2, fun q hq => by
      rcases List.mem_append.mp hq with h | h
      · exact hS.2.2 q h
      · exact hf _ (hL q h)⟩ T' rfl X'
  exact ⟨t2, st t2 a1, b1⟩
/-- the world x' but for the cell n, which is x's -/
def mixX (x' x : XS) (n : Nat) : XS := (fun i j => if i = n then x.1 i j else x'.1 i j, fun i j => if i = n then x.2 i j else x'.2 i j)
theorem wl_mix {T : Nat → ClassId} {lay : List Kd} {c n : Nat} {a : Nat → Nat} {x x' : XS} : wl T (lay ++ [.inr (c, n)]) a (mixX x' x lay.length) = wl T lay a x' ++ [(a lay.length, cellOf T a x lay.length (.inr (c, n)))] := by
  rw [wl_app]
  congr 1
  · apply List.ext_getElem?
    intro i
    by_cases hi : i < lay.length
    · have hg := List.getElem?_eq_getElem hi
      rw [wl_get hg, wl_get hg, cell_other (x := x') (fun k => by simp [mixX]; omega) (fun k => by simp [mixX]; omega)]
    · rw [List.getElem?_eq_none (by simp [wl_len]; omega), List.getElem?_eq_none (by simp [wl_len]; omega)]
  · rw [cell_other (x := x) (fun k => by simp [mixX]) (fun k => by simp [mixX])]
section WF
variable {k : Kx} {cc : ByteArray} {nL rk mc ms pc cells slots : Nat} {own nm : String} {ret : Option FieldType} {lay : List Kd} {a : Nat → Nat} {x : XS} {L : List (Nat × Value)} {stk st0 : List Value} {post : Option Value → XS → Prop} {c1 n1 : Nat}
variable {y : MethodName} {cy : ByteArray} {nLy rky mcy msy n idx q : Nat} {rety : Option FieldType} {As : List Value}
theorem fr_split {A : Nat → Prop} {D : va_G} {T : Nat → ClassId} {H : Heap} (hP : va_P D vwCl (wl T (lay ++ [.inr (c1, n1)]) a x) H) (hD : va_D A (wl T (lay ++ [.inr (c1, n1)]) a x)) :
    va_P D vwCl (wl T lay a x) H ∧ va_P D vwCl [(a lay.length, cellOf T a x lay.length (.inr (c1, n1)))] H ∧ va_D A (wl T lay a x) ∧ (∀ (k : Nat) (q : Nat × va_E), ([(a lay.length, cellOf T a x lay.length (.inr (c1, n1)))] : va_W)[k]? = some q → ∀ j < lay.length, q.1 ≠ a j) := by
  rw [wl_app] at hP hD
  have g1 : ∀ (k : Nat) (q : Nat × va_E), (wl T lay a x)[k]? = some q → (wl T lay a x ++ [(a lay.length, cellOf T a x lay.length (.inr (c1, n1)))])[id k]? = some q := fun k q hk => by
    rw [id, List.getElem?_append_left (List.getElem?_eq_some_iff.mp hk).1]; exact hk
  have g2 : ∀ (k : Nat) (q : Nat × va_E), ([(a lay.length, cellOf T a x lay.length (.inr (c1, n1)))] : va_W)[k]? = some q → (wl T lay a x ++ [(a lay.length, cellOf T a x lay.length (.inr (c1, n1)))])[lay.length + k]? = some q := fun k q hk => by
    rw [List.getElem?_append_right (by rw [wl_len]; omega), wl_len, Nat.add_sub_cancel_left]; exact hk
  refine ⟨hP.by id g1, hP.by _ g2, hD.by id g1 (fun i j _ _ h => h), fun k q hk j hj e => ?_⟩
  have h1 := g2 k q hk
  have h2 := g1 j _ (wl_get (List.getElem?_eq_getElem hj))
  have h3 := hD.1 _ _ _ _ h1 h2 e
  simp only [id] at h3
  omega
theorem fr_D {A : Nat → Prop} {T : Nat → ClassId} {x' : XS} (hD : va_D A (wl T (lay ++ [.inr (c1, n1)]) a x)) : va_D A (wl T (lay ++ [.inr (c1, n1)]) a x') := wl_D hD
theorem xcallVF (hk : Fok k cc nL own ret nm rk mc ms) (M : Mx (kg k) y cy nLy rety rky mcy msy lay a x (.ref (a q) :: As) post) (cb : CBv y cy nLy rety n) (hw : Cond.methodLink own idx y ∈ GW) (d : decode cc pc = .ok (.invokevirtual idx, 3)) (hs : st0 = As.reverse ++ .ref (a q) :: stk) (hq : ∃ (ci : Nat) (ft : List Nat) (F : u_T) (N : Nat), lay[q]? = some (.inl (ci, ft)) ∧ vwCl[ci]? = some (y.cls, F, N)) (hn : As.length = n) (hrk : rky < rk) (hc : cells + mcy ≤ mc ∧ slots + msy ≤ ms) (hst : (stk.map fun v => v.category).sum ≤ 8)
    (kk : ∀ (v : Option Value) (x' : XS), post v x' → Wx k (cells + mcy) (slots + msy) (lay ++ [.inr (c1, n1)]) a (mixX x' x lay.length) (pc + 3) L (v.toList ++ stk)) : Wx k cells slots (lay ++ [.inr (c1, n1)]) a x pc L st0 := by
  rcases k with ⟨p, e, s, m, args, below, meth, c, Q, A, R, g⟩
  obtain ⟨hx, hb, hml, hown, hts, hr, hlk, hK, hA, hA0, hR, hSg, hnm, hb0⟩ := hk
  obtain ⟨⟨hcode, hini, hd, h45⟩, hinst, hsel⟩ := cb
  obtain ⟨ci, ft, F, N, hlay, hcl⟩ := hq
  subst hs
  intro H locs ls hP hD hS hl
  obtain ⟨hP1, hP2, hD1, hdis⟩ := fr_split hP hD
  have hRR := room_in (mcy := mcy) (msy := msy) hR hrk h45
  refine xgoF _ hA (va_runV (ws := Cond.code y cy nLy rety :: GW) (rm := roomX rky mcy msy) (Ts := GW) (own := own) (C := y.cls) (cc := cc) (nL := nL) (As := As) (rest := stk) (n := n) ⟨hx, hb, hml, hown, hts⟩ (M H.size) ⟨callB_of n hts (goodIn_self hcode) rfl rfl rfl (hts _ hini) (hts _ hw) hd hRR, hts _ hinst, hts _ hsel⟩
    ⟨preX_blind _ _ _ _ _ _, va_recv hK hP1 (ci := ci) (q0 := q) hcl (wl_getO hlay hcl), preX_at hK hb0 hA0 hSg hP1 hD1 hS⟩ rfl hn (hl.1.trans hml) rfl (lv_room hst) d (by subst hR; exact hc)) hD1 hS hP2 hdis (fun v x' hp H1 locs1 q1 q2 hS1 => ?_)
  exact kk v x' hp H1 locs1 ls (by rw [wl_mix]; exact q1.app q2) (wl_D hD) hS1 hl
theorem xcallVNF {host : String} (hk : Fok k cc nL own ret nm rk mc ms) (M : Mx (kg k) y cy nLy rety rky mcy msy lay a x (.ref (a q) :: As) post) (cb : CBv y cy nLy rety n) (hw : Cond.methodLinkNest own idx y host ∈ NW) (d : decode cc pc = .ok (.invokevirtual idx, 3)) (hs : st0 = As.reverse ++ .ref (a q) :: stk) (hq : ∃ (ci : Nat) (ft : List Nat) (F : u_T) (N : Nat), lay[q]? = some (.inl (ci, ft)) ∧ vwCl[ci]? = some (y.cls, F, N)) (hn : As.length = n) (hrk : rky < rk) (hc : cells + mcy ≤ mc ∧ slots + msy ≤ ms) (hst : (stk.map fun v => v.category).sum ≤ 8)
    (kk : ∀ (v : Option Value) (x' : XS), post v x' → Wx k (cells + mcy) (slots + msy) (lay ++ [.inr (c1, n1)]) a (mixX x' x lay.length) (pc + 3) L (v.toList ++ stk)) : Wx k cells slots (lay ++ [.inr (c1, n1)]) a x pc L st0 := by
  rcases k with ⟨p, e, s, m, args, below, meth, c, Q, A, R, g⟩
  obtain ⟨hx, hb, hml, hown, hts, hr, hlk, hK, hA, hA0, hR, hSg, hnm, hb0⟩ := hk
  obtain ⟨⟨hcode, hini, hd, h45⟩, hinst, hsel⟩ := cb
  obtain ⟨ci, ft, F, N, hlay, hcl⟩ := hq
  subst hs
  intro H locs ls hP hD hS hl
  obtain ⟨hP1, hP2, hD1, hdis⟩ := fr_split hP hD
  have hRR := room_in (mcy := mcy) (msy := msy) hR hrk h45
  refine xgoF _ hA (va_runVN (ws := Cond.code y cy nLy rety :: GW) (rm := roomX rky mcy msy) (Ts := GW) (own := own) (C := y.cls) (cc := cc) (nL := nL) (As := As) (rest := stk) (n := n) ⟨hx, hb, hml, hown, hts⟩ (M H.size) ⟨va_cnB n hts (goodIn_self hcode) rfl rfl rfl (hSg.1 _ hw) (hts _ hini) hd hRR, hts _ hinst, hts _ hsel⟩
    ⟨preX_blind _ _ _ _ _ _, va_recv hK hP1 (ci := ci) (q0 := q) hcl (wl_getO hlay hcl), preX_at hK hb0 hA0 hSg hP1 hD1 hS⟩ rfl hn (hl.1.trans hml) rfl (lv_room hst) d (by subst hR; exact hc)) hD1 hS hP2 hdis (fun v x' hp H1 locs1 q1 q2 hS1 => ?_)
  exact kk v x' hp H1 locs1 ls (by rw [wl_mix]; exact q1.app q2) (wl_D hD) hS1 hl
end WF

