
/-! The class is asked by one that has more cells: its own are the first 48 -/
theorem map_LF : ∀ q, q < 48 → LF[q]? = (LF[q]?).map (mapK (fun j => 0 + j)) := by decide +kernel
theorem sub_LF (R : List Kd) : Sub 0 LF (LF ++ R) = true := by
  unfold Sub
  rw [List.all_eq_true]
  intro q hq
  have hl : q < 48 := List.mem_range.mp hq
  apply decide_eq_true
  rw [Nat.zero_add, List.getElem?_append_left (show q < LF.length from hl)]
  exact map_LF q hl
theorem pul0 (x : XS) : pul 0 x = x := by
  unfold pul
  refine Prod.ext ?_ ?_ <;> · funext i j; simp only [Nat.zero_add]
theorem mix_in {x1 x : XS} {i : Nat} (h : i < 48) (j : Nat) : (xmix 0 48 x1 x).1 i j = x1.1 i j ∧ (xmix 0 48 x1 x).2 i j = x1.2 i j := by
  simp [xmix, h]
theorem mix_out {x1 x : XS} {i : Nat} (h : 48 ≤ i) (j : Nat) : (xmix 0 48 x1 x).1 i j = x.1 i j ∧ (xmix 0 48 x1 x).2 i j = x.2 i j := by
  simp [xmix, Nat.not_lt.mpr h]
theorem Cls.of {b : Bok} {m dy ca : Nat} {x y : XS} (h : Cls b m dy ca x) (e : ∀ i, i < 48 → ∀ j, y.1 i j = x.1 i j ∧ y.2 i j = x.2 i j) : Cls b m dy ca y := by
  obtain ⟨hB, h1, h2, h3, h4⟩ := h
  refine ⟨hB.mv (fun q hq k => (e q (by omega) k).1) (e 40 (by decide) 4).1 (fun k => (e 43 (by decide) k).2) ?_ ?_, h1, by rw [(e 46 (by decide) 1).1]; exact h2, by rw [(e 46 (by decide) 0).1]; exact h3, by rw [(e 46 (by decide) 2).1]; exact h4⟩
  · rw [(e 37 (by decide) 5).1]
    rcases hB.2.1 with h | h
    · exact Or.inl h
    · exact Or.inr (WebC_of (fun q k hq => (e q (by omega) k).1) h)
  · rw [(e 40 (by decide) 6).1]
    rcases hB.2.2.1 with h | h
    · exact Or.inl h
    · exact Or.inr (LandC_of (e 40 (by decide) 5).1 (fun k => (e 41 (by decide) k).2) h)
theorem Cls.mix {b : Bok} {m dy ca : Nat} {x1 x : XS} (h : Cls b m dy ca x1) : Cls b m dy ca (xmix 0 48 x1 x) := h.of (fun _ hi j => mix_in hi j)
theorem SimX.mix {b : Bok} {m dy ca q : Nat} {x1 x : XS} (h : SimX x q b m dy ca) (hq : 48 ≤ q) : SimX (xmix 0 48 x1 x) q b m dy ca := h.of (fun i j h1 _ => (mix_out (by omega) j).1)
section WASK
variable {k : Kx} {cc : ByteArray} {nL rk mc ms pc cells slots : Nat} {own nm : String} {ret : Option FieldType} {lay lay1 R : List Kd} {a : Nat → Nat} {x : XS} {L : List (Nat × Value)} {stk st0 : List Value}
variable {y : MethodName} {cy : ByteArray} {nLy rky mcy msy n idx q : Nat} {rety : Option FieldType} {As : List Value} {r : RT}
/-- a call that may throw and does not -/
theorem xcallVTO (off : Nat) (hsub : Sub off lay1 lay = true) {a1 : Nat → Nat} {x0 x9 : XS} {v0 : Option Value} (hr0 : r = .inr (v0, x9)) (hpa : (fun j => a (off + j)) = a1) (hpx : pul off x = x0) (hk : Fok k cc nL own ret nm rk mc ms) (M : Tx (kg k) y cy nLy rety rky mcy msy lay1 a1 x0 (.ref (a1 q) :: As) r) (cb : CBv y cy nLy rety n) (hw : Cond.methodLink own idx y ∈ GW) (d : decode cc pc = .ok (.invokevirtual idx, 3)) (hs : st0 = As.reverse ++ .ref (a (off + q)) :: stk) (hq : ∃ (ci : Nat) (ft : List Nat) (F : u_T) (N : Nat), lay1[q]? = some (.inl (ci, ft)) ∧ vwCl[ci]? = some (y.cls, F, N)) (hn : As.length = n) (hrk : rky < rk) (hc : cells + mcy ≤ mc ∧ slots + msy ≤ ms) (hst : (stk.map fun v => v.category).sum ≤ 8)
    (kk : Wx k (cells + mcy) (slots + msy) lay a (xmix off lay1.length x9 x) (pc + 3) L (v0.toList ++ stk)) : Wx k cells slots lay a x pc L st0 := by
  subst hpa
  subst hpx
  rcases k with ⟨p, e, s, m, args, below, meth, c, Q, A, R, g⟩
  obtain ⟨hx, hb, hml, hown, hts, hr, hlk, hK, hA, hA0, hR, hSg, hnm, hb0⟩ := hk
  obtain ⟨⟨hcode, hini, hd, h45⟩, hinst, hsel⟩ := cb
  obtain ⟨ci, ft, F, N, hlay, hcl⟩ := hq
  subst hs
  intro H locs ls hP hD hS hl
  have hRR := room_in (mcy := mcy) (msy := msy) hR hrk h45
  have hD1 : va_D A (wl g.2.2.1 lay1 (fun j => a (off + j)) (pul off x)) := hD.by _ (sub_wl hsub) (fun i j _ _ h => by omega)
  refine xgoT hA (vx_runV (ws := Cond.code y cy nLy rety :: GW) (rm := roomX rky mcy msy) (Ts := GW) (own := own) (C := y.cls) (cc := cc) (nL := nL) (As := As) (rest := stk) (n := n) ⟨hx, hb, hml, hown, hts⟩ (M H.size) ⟨callB_of n hts (goodIn_self hcode) rfl rfl rfl (hts _ hini) (hts _ hw) hd hRR, hts _ hinst, hts _ hsel⟩
    ⟨preX_blind _ _ _ _ _ _, va_recv hK (hP.by _ (sub_wl hsub)) (ci := ci) (q0 := q) hcl (wl_getO hlay hcl), pre_O off hsub hK hb0 hA0 hSg hP hD hS⟩ rfl hn (hl.1.trans hml) rfl (lv_room hst) d (by subst hR; exact hc)) hD1 hS ?_ ?_
  · intro E x1 H1 locs1 ce q9 hr9 hkp hP1 hS1 hce hcv hcl9
    rw [hr0] at hr9
    cases hr9
  · intro v x1 H1 locs1 hr9 hkp hP1 hS1
    rw [hr0] at hr9
    cases hr9
    exact kk H1 locs1 ls (mix_P hsub hP hD hkp hP1) (wl_D hD) hS1 hl
def Same48 (x x' : XS) : Prop := ∀ i, 48 ≤ i → ∀ j, x'.1 i j = x.1 i j ∧ x'.2 i j = x.2 i j
/-- a question that may throw -/
theorem xask {b : Bok} {m dy ca : Nat} {f : Option RT} {v : Value} (hk : Fok k cc nL own ret nm rk mc ms) (hA : Ans b m dy ca f v) (M : ∀ u, f = some u → Tx (kg k) y cy nLy rety 9 3 18 LF a x (.ref (a 0) :: As) u) (cb : CBv y cy nLy rety n) (hcl : y.cls = RX8) (hw : Cond.methodLink own idx y ∈ GW) (d : decode cc pc = .ok (.invokevirtual idx, 3)) (hs : st0 = As.reverse ++ .ref (a 0) :: stk) (hn : As.length = n) (hrk : 9 < rk) (hc : cells + 3 ≤ mc ∧ slots + 18 ≤ ms) (hst : (stk.map fun v => v.category).sum ≤ 8)
    (kk : ∀ x', Cls b m dy ca x' → Same48 x x' → Wx k (cells + 3) (slots + 18) (LF ++ R) a x' (pc + 3) L (v :: stk)) : Wx k cells slots (LF ++ R) a x pc L st0 := by
  obtain ⟨x1, e, hC1⟩ := hA
  refine xcallVTO (q := 0) 0 (sub_LF R) rfl (a1 := a) (by funext j; rw [Nat.zero_add]) (pul0 x) hk (M _ e) cb hw d hs ⟨_, _, _, _, rfl, by rw [hcl]; rfl⟩ hn hrk hc hst ?_
  exact kk _ hC1.mix (fun i hi j => mix_out hi j)
/-- one that never throws -/
theorem xaskP {b : Bok} {m dy ca : Nat} {x1 : XS} {v : Value} (hk : Fok k cc nL own ret nm rk mc ms) (hC1 : Cls b m dy ca x1) (M : Mx (kg k) y cy nLy rety 9 0 0 LF a x (.ref (a 0) :: As) (pr (some v) x1)) (cb : CBv y cy nLy rety n) (hcl : y.cls = RX8) (hw : Cond.methodLink own idx y ∈ GW) (d : decode cc pc = .ok (.invokevirtual idx, 3)) (hs : st0 = As.reverse ++ .ref (a 0) :: stk) (hn : As.length = n) (hrk : 9 < rk) (hc : cells ≤ mc ∧ slots ≤ ms) (hst : (stk.map fun v => v.category).sum ≤ 8)
    (kk : ∀ x', Cls b m dy ca x' → Same48 x x' → Wx k cells slots (LF ++ R) a x' (pc + 3) L (v :: stk)) : Wx k cells slots (LF ++ R) a x pc L st0 := by
  refine xcallVO (q := 0) 0 (sub_LF R) (a1 := a) (by funext j; rw [Nat.zero_add]) (pul0 x) hk M cb hw d hs ⟨_, _, _, _, rfl, by rw [hcl]; rfl⟩ hn hrk hc hst ?_
  rintro _ _ ⟨rfl, rfl⟩
  exact kk _ hC1.mix (fun i hi j => mix_out hi j)
end WASK
theorem Same48.tr {x y z : XS} (h1 : Same48 x y) (h2 : Same48 y z) : Same48 x z := fun i hi j => ⟨((h2 i hi j).1).trans (h1 i hi j).1, ((h2 i hi j).2).trans (h1 i hi j).2⟩
theorem SimX.s48 {b : Bok} {m dy ca q : Nat} {x y : XS} (h : SimX x q b m dy ca) (hq : 48 ≤ q) (e : Same48 x y) : SimX y q b m dy ca := h.of (fun i j h1 _ => (e i (by omega) j).1)
