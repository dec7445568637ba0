theorem bX8_families : CBv yX8_families cX8_families 1 (some .int) 0 := ⟨⟨gw_mem 369 (by decide +kernel) (by decide +kernel), gw_mem 13 (by decide +kernel) (by decide +kernel), by decide +kernel, by decide⟩, gw_mem 367 (by decide +kernel) (by decide +kernel), gw_mem 368 (by decide +kernel) (by decide +kernel)⟩
theorem kX9_89 : Cond.methodLink RX9 89 yX8_families ∈ GW := gw_mem 907 (by decide +kernel) (by decide +kernel)
theorem bX8_statements : CBv yX8_statements cX8_statements 1 (some .int) 0 := ⟨⟨gw_mem 373 (by decide +kernel) (by decide +kernel), gw_mem 13 (by decide +kernel) (by decide +kernel), by decide +kernel, by decide⟩, gw_mem 371 (by decide +kernel) (by decide +kernel), gw_mem 372 (by decide +kernel) (by decide +kernel)⟩
theorem kX9_93 : Cond.methodLink RX9 93 yX8_statements ∈ GW := gw_mem 908 (by decide +kernel) (by decide +kernel)
theorem bX8_orders : CBv yX8_orders cX8_orders 1 (some .int) 0 := ⟨⟨gw_mem 377 (by decide +kernel) (by decide +kernel), gw_mem 13 (by decide +kernel) (by decide +kernel), by decide +kernel, by decide⟩, gw_mem 375 (by decide +kernel) (by decide +kernel), gw_mem 376 (by decide +kernel) (by decide +kernel)⟩
theorem kX9_95 : Cond.methodLink RX9 95 yX8_orders ∈ GW := gw_mem 909 (by decide +kernel) (by decide +kernel)
theorem bX8_days : CBv yX8_days cX8_days 1 (some .int) 0 := ⟨⟨gw_mem 913 (by decide +kernel) (by decide +kernel), gw_mem 13 (by decide +kernel) (by decide +kernel), by decide +kernel, by decide⟩, gw_mem 911 (by decide +kernel) (by decide +kernel), gw_mem 912 (by decide +kernel) (by decide +kernel)⟩
theorem kX9_97 : Cond.methodLink RX9 97 yX8_days ∈ GW := gw_mem 910 (by decide +kernel) (by decide +kernel)
theorem bX8_ordersCarriedOut : CBv yX8_ordersCarriedOut cX8_ordersCarriedOut 1 (some .int) 0 := ⟨⟨gw_mem 381 (by decide +kernel) (by decide +kernel), gw_mem 13 (by decide +kernel) (by decide +kernel), by decide +kernel, by decide⟩, gw_mem 379 (by decide +kernel) (by decide +kernel), gw_mem 380 (by decide +kernel) (by decide +kernel)⟩
theorem kX9_99 : Cond.methodLink RX9 99 yX8_ordersCarriedOut ∈ GW := gw_mem 914 (by decide +kernel) (by decide +kernel)
theorem bX8_standing : CBv yX8_standing cX8_standing 1 (some .int) 0 := ⟨⟨gw_mem 385 (by decide +kernel) (by decide +kernel), gw_mem 13 (by decide +kernel) (by decide +kernel), by decide +kernel, by decide⟩, gw_mem 383 (by decide +kernel) (by decide +kernel), gw_mem 384 (by decide +kernel) (by decide +kernel)⟩
theorem kX9_102 : Cond.methodLink RX9 102 yX8_standing ∈ GW := gw_mem 915 (by decide +kernel) (by decide +kernel)
theorem bX8_kindOf : CBv yX8_kindOf cX8_kindOf 2 (some .int) 1 := ⟨⟨gw_mem 395 (by decide +kernel) (by decide +kernel), gw_mem 13 (by decide +kernel) (by decide +kernel), by decide +kernel, by decide⟩, gw_mem 393 (by decide +kernel) (by decide +kernel), gw_mem 394 (by decide +kernel) (by decide +kernel)⟩
theorem kX9_103 : Cond.methodLink RX9 103 yX8_kindOf ∈ GW := gw_mem 916 (by decide +kernel) (by decide +kernel)
theorem bX8_firstClaimOf : CBv yX8_firstClaimOf cX8_firstClaimOf 2 (some .int) 1 := ⟨⟨gw_mem 477 (by decide +kernel) (by decide +kernel), gw_mem 13 (by decide +kernel) (by decide +kernel), by decide +kernel, by decide⟩, gw_mem 475 (by decide +kernel) (by decide +kernel), gw_mem 476 (by decide +kernel) (by decide +kernel)⟩
theorem kX9_106 : Cond.methodLink RX9 106 yX8_firstClaimOf ∈ GW := gw_mem 917 (by decide +kernel) (by decide +kernel)
theorem bX8_secondClaimOf : CBv yX8_secondClaimOf cX8_secondClaimOf 2 (some .int) 1 := ⟨⟨gw_mem 485 (by decide +kernel) (by decide +kernel), gw_mem 13 (by decide +kernel) (by decide +kernel), by decide +kernel, by decide⟩, gw_mem 483 (by decide +kernel) (by decide +kernel), gw_mem 484 (by decide +kernel) (by decide +kernel)⟩
theorem kX9_109 : Cond.methodLink RX9 109 yX8_secondClaimOf ∈ GW := gw_mem 918 (by decide +kernel) (by decide +kernel)
theorem bX8_stands : CBv yX8_stands cX8_stands 2 (some .boolean) 1 := ⟨⟨gw_mem 493 (by decide +kernel) (by decide +kernel), gw_mem 13 (by decide +kernel) (by decide +kernel), by decide +kernel, by decide⟩, gw_mem 491 (by decide +kernel) (by decide +kernel), gw_mem 492 (by decide +kernel) (by decide +kernel)⟩
theorem kX9_112 : Cond.methodLink RX9 112 yX8_stands ∈ GW := gw_mem 919 (by decide +kernel) (by decide +kernel)
theorem bX8_ridersInPeace : CBv yX8_ridersInPeace cX8_ridersInPeace 1 (some .int) 0 := ⟨⟨gw_mem 684 (by decide +kernel) (by decide +kernel), gw_mem 13 (by decide +kernel) (by decide +kernel), by decide +kernel, by decide⟩, gw_mem 682 (by decide +kernel) (by decide +kernel), gw_mem 683 (by decide +kernel) (by decide +kernel)⟩
theorem kX9_155 : Cond.methodLink RX9 155 yX8_ridersInPeace ∈ GW := gw_mem 933 (by decide +kernel) (by decide +kernel)
theorem bX8_ridesInPeace : CBv yX8_ridesInPeace cX8_ridesInPeace 2 (some .boolean) 1 := ⟨⟨gw_mem 670 (by decide +kernel) (by decide +kernel), gw_mem 13 (by decide +kernel) (by decide +kernel), by decide +kernel, by decide⟩, gw_mem 668 (by decide +kernel) (by decide +kernel), gw_mem 669 (by decide +kernel) (by decide +kernel)⟩
theorem kX9_152 : Cond.methodLink RX9 152 yX8_ridesInPeace ∈ GW := gw_mem 932 (by decide +kernel) (by decide +kernel)
theorem bX8_blamedFamily : CBv yX8_blamedFamily cX8_blamedFamily 2 (some .int) 0 := ⟨⟨gw_mem 688 (by decide +kernel) (by decide +kernel), gw_mem 13 (by decide +kernel) (by decide +kernel), by decide +kernel, by decide⟩, gw_mem 686 (by decide +kernel) (by decide +kernel), gw_mem 687 (by decide +kernel) (by decide +kernel)⟩
theorem kX9_149 : Cond.methodLink RX9 149 yX8_blamedFamily ∈ GW := gw_mem 931 (by decide +kernel) (by decide +kernel)
theorem bX8_isSettled : CBv yX8_isSettled cX8_isSettled 2 (some .boolean) 1 := ⟨⟨gw_mem 661 (by decide +kernel) (by decide +kernel), gw_mem 13 (by decide +kernel) (by decide +kernel), by decide +kernel, by decide⟩, gw_mem 659 (by decide +kernel) (by decide +kernel), gw_mem 660 (by decide +kernel) (by decide +kernel)⟩
theorem kX9_146 : Cond.methodLink RX9 146 yX8_isSettled ∈ GW := gw_mem 930 (by decide +kernel) (by decide +kernel)
theorem bX8_whatFollowsFrom : CBv yX8_whatFollowsFrom cX8_whatFollowsFrom 2 (some .int) 1 := ⟨⟨gw_mem 598 (by decide +kernel) (by decide +kernel), gw_mem 13 (by decide +kernel) (by decide +kernel), by decide +kernel, by decide⟩, gw_mem 596 (by decide +kernel) (by decide +kernel), gw_mem 597 (by decide +kernel) (by decide +kernel)⟩
theorem kX9_131 : Cond.methodLink RX9 131 yX8_whatFollowsFrom ∈ GW := gw_mem 925 (by decide +kernel) (by decide +kernel)
theorem bX8_partOf : CBv yX8_partOf cX8_partOf 2 (some .int) 1 := ⟨⟨gw_mem 623 (by decide +kernel) (by decide +kernel), gw_mem 13 (by decide +kernel) (by decide +kernel), by decide +kernel, by decide⟩, gw_mem 621 (by decide +kernel) (by decide +kernel), gw_mem 622 (by decide +kernel) (by decide +kernel)⟩
theorem kX9_134 : Cond.methodLink RX9 134 yX8_partOf ∈ GW := gw_mem 926 (by decide +kernel) (by decide +kernel)
theorem bX8_partSize : CBv yX8_partSize cX8_partSize 2 (some .int) 1 := ⟨⟨gw_mem 632 (by decide +kernel) (by decide +kernel), gw_mem 13 (by decide +kernel) (by decide +kernel), by decide +kernel, by decide⟩, gw_mem 630 (by decide +kernel) (by decide +kernel), gw_mem 631 (by decide +kernel) (by decide +kernel)⟩
theorem kX9_137 : Cond.methodLink RX9 137 yX8_partSize ∈ GW := gw_mem 927 (by decide +kernel) (by decide +kernel)
theorem bX8_peacesWith : CBv yX8_peacesWith cX8_peacesWith 2 (some .int) 1 := ⟨⟨gw_mem 644 (by decide +kernel) (by decide +kernel), gw_mem 13 (by decide +kernel) (by decide +kernel), by decide +kernel, by decide⟩, gw_mem 642 (by decide +kernel) (by decide +kernel), gw_mem 643 (by decide +kernel) (by decide +kernel)⟩
theorem kX9_140 : Cond.methodLink RX9 140 yX8_peacesWith ∈ GW := gw_mem 928 (by decide +kernel) (by decide +kernel)
theorem bX8_isPossible : CBv yX8_isPossible cX8_isPossible 2 (some .boolean) 1 := ⟨⟨gw_mem 657 (by decide +kernel) (by decide +kernel), gw_mem 13 (by decide +kernel) (by decide +kernel), by decide +kernel, by decide⟩, gw_mem 655 (by decide +kernel) (by decide +kernel), gw_mem 656 (by decide +kernel) (by decide +kernel)⟩
theorem kX9_143 : Cond.methodLink RX9 143 yX8_isPossible ∈ GW := gw_mem 929 (by decide +kernel) (by decide +kernel)
theorem bX8_follows : CBv yX8_follows cX8_follows 3 (some .boolean) 2 := ⟨⟨gw_mem 551 (by decide +kernel) (by decide +kernel), gw_mem 13 (by decide +kernel) (by decide +kernel), by decide +kernel, by decide⟩, gw_mem 549 (by decide +kernel) (by decide +kernel), gw_mem 550 (by decide +kernel) (by decide +kernel)⟩
theorem kX9_127 : Cond.methodLink RX9 127 yX8_follows ∈ GW := gw_mem 924 (by decide +kernel) (by decide +kernel)
theorem bX8_meanRiders : CBv yX8_meanRiders cX8_meanRiders 4 (some .double) 0 := ⟨⟨gw_mem 832 (by decide +kernel) (by decide +kernel), gw_mem 13 (by decide +kernel) (by decide +kernel), by decide +kernel, by decide⟩, gw_mem 830 (by decide +kernel) (by decide +kernel), gw_mem 831 (by decide +kernel) (by decide +kernel)⟩
theorem kX9_123 : Cond.methodLink RX9 123 yX8_meanRiders ∈ GW := gw_mem 923 (by decide +kernel) (by decide +kernel)
theorem bX8_parts : CBv yX8_parts cX8_parts 1 (some .int) 0 := ⟨⟨gw_mem 615 (by decide +kernel) (by decide +kernel), gw_mem 13 (by decide +kernel) (by decide +kernel), by decide +kernel, by decide⟩, gw_mem 613 (by decide +kernel) (by decide +kernel), gw_mem 614 (by decide +kernel) (by decide +kernel)⟩
theorem kX9_116 : Cond.methodLink RX9 116 yX8_parts ∈ GW := gw_mem 920 (by decide +kernel) (by decide +kernel)
theorem bX8_peaces : CBv yX8_peaces cX8_peaces 1 (some .int) 0 := ⟨⟨gw_mem 640 (by decide +kernel) (by decide +kernel), gw_mem 13 (by decide +kernel) (by decide +kernel), by decide +kernel, by decide⟩, gw_mem 638 (by decide +kernel) (by decide +kernel), gw_mem 639 (by decide +kernel) (by decide +kernel)⟩
theorem kX9_118 : Cond.methodLink RX9 118 yX8_peaces ∈ GW := gw_mem 921 (by decide +kernel) (by decide +kernel)
theorem bX8_isPeacePossible : CBv yX8_isPeacePossible cX8_isPeacePossible 1 (some .boolean) 0 := ⟨⟨gw_mem 636 (by decide +kernel) (by decide +kernel), gw_mem 13 (by decide +kernel) (by decide +kernel), by decide +kernel, by decide⟩, gw_mem 634 (by decide +kernel) (by decide +kernel), gw_mem 635 (by decide +kernel) (by decide +kernel)⟩
theorem kX9_119 : Cond.methodLink RX9 119 yX8_isPeacePossible ∈ GW := gw_mem 922 (by decide +kernel) (by decide +kernel)
/-! Sim.isSame: all is as by hand -/
def IsL (lay : List Kd) : Prop := ∃ R, lay = LF ++ R
theorem IsL.app {lay l : List Kd} (h : IsL lay) : IsL (lay ++ l) := by
  obtain ⟨R, rfl⟩ := h; exact ⟨R ++ l, List.append_assoc _ _ _⟩
theorem cmp00 : Op.cmpValue (FP.dcmp 0 0) .l = 0 := by decide +kernel
section WSM
variable {k : Kx} {cc : ByteArray} {nL rk mc ms pc cells slots : Nat} {own nm : String} {ret : Option FieldType} {lay lay0 : List Kd} {a a0 : Nat → Nat} {x : XS} {L : List (Nat × Value)} {stk st0 : List Value} {post : Option Value → List Kd → (Nat → Nat) → XS → Prop}
variable {y : MethodName} {cy : ByteArray} {nLy n idx : Nat} {rety : Option FieldType} {As : List Value}
theorem xaskL {b : Bok} {m dy ca : Nat} {f : Option RT} {v : Value} (hI : IsL lay) (hk : Fok k cc nL own ret nm rk mc ms) (hA : Ans b m dy ca f v) (M : ∀ u, f = some u → Tx (kg k) y cy nLy rety 9 3 18 LF a x (.ref (a 0) :: As) u) (cb : CBv y cy nLy rety n) (hcl : y.cls = RX8) (hw : Cond.methodLink own idx y ∈ GW) (d : decode cc pc = .ok (.invokevirtual idx, 3)) (hs : st0 = As.reverse ++ .ref (a 0) :: stk) (hn : As.length = n) (hrk : 9 < rk) (hc : cells + 3 ≤ mc ∧ slots + 18 ≤ ms) (hst : (stk.map fun v => v.category).sum ≤ 8)
    (kk : ∀ x', Cls b m dy ca x' → Same48 x x' → Wx k (cells + 3) (slots + 18) lay a x' (pc + 3) L (v :: stk)) : Wx k cells slots lay a x pc L st0 := by
  obtain ⟨R, rfl⟩ := hI
  exact xask hk hA M cb hcl hw d hs hn hrk hc hst kk
theorem xaskPL {b : Bok} {m dy ca : Nat} {x1 : XS} {v : Value} (hI : IsL lay) (hk : Fok k cc nL own ret nm rk mc ms) (hC1 : Cls b m dy ca x1) (M : Mx (kg k) y cy nLy rety 9 0 0 LF a x (.ref (a 0) :: As) (pr (some v) x1)) (cb : CBv y cy nLy rety n) (hcl : y.cls = RX8) (hw : Cond.methodLink own idx y ∈ GW) (d : decode cc pc = .ok (.invokevirtual idx, 3)) (hs : st0 = As.reverse ++ .ref (a 0) :: stk) (hn : As.length = n) (hrk : 9 < rk) (hc : cells ≤ mc ∧ slots ≤ ms) (hst : (stk.map fun v => v.category).sum ≤ 8)
    (kk : ∀ x', Cls b m dy ca x' → Same48 x x' → Wx k cells slots lay a x' (pc + 3) L (v :: stk)) : Wx k cells slots lay a x pc L st0 := by
  obtain ⟨R, rfl⟩ := hI
  exact xaskP hk hC1 M cb hcl hw d hs hn hrk hc hst kk
theorem xdcmp (hk : Fok k cc nL own ret nm rk mc ms) {v w : UInt64} {op : CmpOp} (d : decode cc pc = .ok (.dcmp op, 1)) (kk : Wx k cells slots lay a x (pc + 1) L (.int (Op.cmpValue (FP.dcmp v w) op) :: stk)) : Wx k cells slots lay a x pc L (.double w :: .double v :: stk) := by
  rcases k with ⟨p, e, s, m, args, below, meth, c, Q, A, R, g⟩
  obtain ⟨hx, hb, hml, hown, hts, hr, hlk, hK, hA, hA0, hR, hSg, hnm, hb0⟩ := hk
  intro H locs ls hP hD hS hl
  exact lv_dcmp hx hb d (kk H locs ls hP hD hS hl)
theorem xzretZ (hk : Fok k cc nL own (some .boolean) nm rk mc ms) (he : EndsZ k lay0 a0 post mc ms) {v : Int32} (d : decode cc pc = .ok (.ireturn, 1)) (hc : cells ≤ mc ∧ slots ≤ ms) (hv : narrow .boolean (.int v) = .int v) (hp : post (some (.int v)) lay a x) : Wx k cells slots lay a x pc L [.int v] := by
  rcases k with ⟨p, e, s, m, args, below, meth, c, Q, A, R, g⟩
  obtain ⟨hx, hb, hml, hown, hts, hr, hlk, hK, hA, hA0, hR, hSg, hnm, hb0⟩ := hk
  obtain ⟨rfl, rfl⟩ := he
  intro H locs ls hP hD hS hl
  refine W.widen hc.1 hc.2 ?_
  exact W.zret hx hb hr hv (fun t ht hW => ⟨⟨_, lay, a, x, rfl, hp, by rw [ht]; exact hP, hD⟩, hS.F ht⟩) hS.2.2 d hlk
end WSM
/-- what isSame has made by hand: behind n the rows of what follows, the parts, the told peace, the peaces -/
def Hand (x : XS) (n : Nat) (b : Bok) (m t : Nat) : Prop := (∀ c, c < 2 * bF b → ∀ d, d < 2 * bF b → x.1 (n + 1 + c) d = nI (fromD b m c d)) ∧ (∀ c, c < 2 * bF b → x.1 (n + 1 + 2 * bF b) c = nI (lst (RB b m) c)) ∧ (nP b m ≠ 0 → Best (Pm b m) (2 ^ bF b) t ∧ ∀ f, f < bF b → x.1 (n + 1 + 2 * bF b + 1) f = b2i (!t.testBit f)) ∧ ∀ j, j < 2 + 2 * bF b → x.1 (n + 1 + 2 * bF b + 2) j = nI (cN (Pm b m) (bF b) j)
theorem Hand.s48 {x y : XS} {n : Nat} {b : Bok} {m t : Nat} (h : Hand x n b m t) (hn : 48 ≤ n) (e : Same48 x y) : Hand y n b m t :=
  ⟨fun c hc d hd => by rw [(e _ (by omega) d).1]; exact h.1 c hc d hd, fun c hc => by rw [(e _ (by omega) c).1]; exact h.2.1 c hc, fun hp => ⟨(h.2.2.1 hp).1, fun f hf => by rw [(e _ (by omega) f).1]; exact (h.2.2.1 hp).2 f hf⟩, fun j hj => by rw [(e _ (by omega) j).1]; exact h.2.2.2 j hj⟩
/-- which claim's part is its opposite's: the least from n on, as isSame finds it -/
def BlI (b : Bok) (m n : Nat) (v : Int32) : Prop := (v = -1 ∧ ∀ c, n ≤ c → c < 2 * bF b → lst (RB b m) c ≠ lst (RB b m) (c ^^^ 1)) ∨ ∃ c0, v = nI (c0 / 2) ∧ n ≤ c0 ∧ c0 < 2 * bF b ∧ lst (RB b m) c0 = lst (RB b m) (c0 ^^^ 1) ∧ ∀ c, n ≤ c → c < c0 → lst (RB b m) c ≠ lst (RB b m) (c ^^^ 1)
theorem BlI.fin {b : Bok} (hW : BW b) {m : Nat} (hm : m < 2 ^ 32) {v : Int32} (h : BlI b m 0 v) : (v = -1 ∧ nP b m ≠ 0) ∨ ∃ f0, v = nI f0 ∧ f0 < bF b ∧ nP b m = 0 ∧ mutB b m f0 = true ∧ ∀ f, f < f0 → mutB b m f = false := by
  have hF := hW.1
  have hx : ∀ f, f < bF b → (2 * f) ^^^ 1 = 2 * f + 1 := fun f hf => by rw [← opp_x _ (by omega)]; exact if_pos (by omega)
  have hx2 : ∀ f, f < bF b → (2 * f + 1) ^^^ 1 = 2 * f := fun f hf => by rw [← opp_x _ (by omega)]; exact if_neg (by omega)
  rcases h with ⟨rfl, h⟩ | ⟨c0, rfl, h1, h2, h3, h4⟩
  · refine Or.inl ⟨rfl, fun hp => ?_⟩
    obtain ⟨f0, k1, k2, k3⟩ := blame_ex hW hp
    rw [mut_part hW k1] at k2
    have := h (2 * f0) (Nat.zero_le _) (by omega)
    rw [hx f0 k1] at this
    exact this (of_decide_eq_true k2)
  · have hf0 : c0 / 2 < bF b := by omega
    have he : c0 = 2 * (c0 / 2) := by
      apply Classical.byContradiction
      intro hn
      have hod : c0 = 2 * (c0 / 2) + 1 := by omega
      have e1 : c0 ^^^ 1 = 2 * (c0 / 2) := by rw [hod, hx2 _ (by omega)]; omega
      have := h4 (2 * (c0 / 2)) (Nat.zero_le _) (by omega)
      rw [hx _ hf0] at this
      rw [e1] at h3
      rw [← hod] at this
      exact this h3.symm
    have hmu : mutB b m (c0 / 2) = true := by
      rw [mut_part hW hf0]
      refine decide_eq_true ?_
      rw [← hx _ hf0, ← he]; exact h3
    refine Or.inr ⟨c0 / 2, rfl, hf0, mut_zero hW hm hf0 hmu, hmu, fun f hf => ?_⟩
    rw [mut_part hW (by omega)]
    refine decide_eq_false (fun e => ?_)
    have := h4 (2 * f) (Nat.zero_le _) (by omega)
    rw [hx f (by omega)] at this
    exact this e
theorem BlI.ne {b : Bok} {m c : Nat} {v : Int32} (h : BlI b m (c + 1) v) (hne : lst (RB b m) c ≠ lst (RB b m) (c ^^^ 1)) : BlI b m c v := by
  rcases h with ⟨rfl, h⟩ | ⟨c0, rfl, h1, h2, h3, h4⟩
  · refine Or.inl ⟨rfl, fun d h1 h2 => ?_⟩
    by_cases e : d = c
    · subst e; exact hne
    · exact h d (by omega) h2
  · refine Or.inr ⟨c0, rfl, by omega, h2, h3, fun d k1 k2 => ?_⟩
    by_cases e : d = c
    · subst e; exact hne
    · exact h4 d (by omega) k2
theorem BlI.eq {b : Bok} {m c : Nat} (he : lst (RB b m) c = lst (RB b m) (c ^^^ 1)) (hc : c < 2 * bF b) : BlI b m c (nI (c / 2)) := Or.inr ⟨c, rfl, Nat.le_refl _, hc, he, fun d h1 h2 => absurd h2 (Nat.not_lt.mpr h1)⟩
set_option maxHeartbeats 4000000 in
set_option maxRecDepth 100000 in
theorem c_X9_isSame {g : Gx} {a : Nat → Nat} {x : XS} {lay : List Kd} {q m dy ca : Nat} {b : Bok} (hI : IsL lay) (hL : SimL lay q b) (hW : BW b) (hq48 : 48 ≤ q) (hX : SimX x q b m dy ca) (hCx : Cls b m dy ca x) (hC : Cl lay) (hdy : dy < 1000) (hfl : g.1.stackTraces = false) : Mz g yX9_isSame cX9_isSame 12 (some .boolean) 13 700 5000 lay a x [.ref (a q), .ref (a 0)] (fun r _ _ _ => r = some (.int 1)) := by
  refine Mz_of (by decide +kernel) (Nat.le_of_ble_eq_true rfl) ?_
  intro k hk he hg
  subst hg
  have hF := hW.1
  have hS1 := hW.2.1
  have hM1 := hW.2.2.2.1
  have hm : m < 2 ^ 32 := hCx.m32
  have hlt := hL.lt
  have hn48 : 48 ≤ lay.length := by omega
  have partC : ∀ (lay6 : List Kd) (a6 : Nat → Nat) (t : Nat), SimL lay6 q b → IsL lay6 → lay6[lay.length]? = some (.inl (103, rowsK (lay.length + 1) (2 * bF b))) → (∀ c, c < 2 * bF b → lay6[lay.length + 1 + c]? = some (.inr (0, 2 * bF b))) → lay6[lay.length + 1 + 2 * bF b]? = some (.inr (0, 2 * bF b)) → lay6[lay.length + 1 + 2 * bF b + 1]? = some (.inr (0, bF b)) → lay6[lay.length + 1 + 2 * bF b + 2]? = some (.inr (0, 2 + 2 * bF b)) → ∀ (x2 : XS), Cls b m dy ca x2 → SimX x2 q b m dy ca → Hand x2 lay.length b m t → Wx k 160 1010 lay6 a6 x2 188 [(0, .ref (a6 q)), (1, .ref (a6 0)), (2, .int (nI (2 * bF b))), (3, .ref (a6 lay.length)), (4, .ref (a6 (lay.length + 1 + 2 * bF b))), (5, .ref (a6 (lay.length + 1 + 2 * bF b + 1))), (6, .ref (a6 (lay.length + 1 + 2 * bF b + 2)))] [] := by
    intro lay6 a6 t hL hI hf hr hpt htt hpq
    have partF : ∀ (v : Int32) (x2 : XS), BlI b m 0 v → Cls b m dy ca x2 → SimX x2 q b m dy ca → Hand x2 lay.length b m t → Wx k (160 + 48 * (2 * bF b)) (1010 + 288 * (2 * bF b)) lay6 a6 x2 531 [(0, .ref (a6 q)), (1, .ref (a6 0)), (2, .int (nI (2 * bF b))), (3, .ref (a6 lay.length)), (4, .ref (a6 (lay.length + 1 + 2 * bF b))), (5, .ref (a6 (lay.length + 1 + 2 * bF b + 1))), (6, .ref (a6 (lay.length + 1 + 2 * bF b + 2))), (7, .int v)] [] := by
      intro v x2 hv hCx hX hH
      rcases hv.fin hW hm with ⟨rfl, hp⟩ | ⟨f0, rfl, hf0, hp, hm1, hm2⟩
      · have hpp : 0 < nP b m := by omega
        obtain ⟨hBt, hTt⟩ := hH.2.2.1 hp
        clear hTt
        refine xiload hk dX9_isSame_531 rfl ?_
        refine xif_lt hk 540 dX9_isSame_533 (by decide) (fun h533 => ?_) (fun h533 => ?_)
        · refine xiconst (v := 0) hk dX9_isSame_540 (by decide) ?_
          refine xaload hk dX9_isSame_541 rfl ?_
          refine xiconst (v := 0) hk dX9_isSame_543 (by decide) ?_
          refine xiald hk dX9_isSame_544 hpq (show vp_in (nI 0) (2 + 2 * bF b) from vp_in_nI (by omega) (by omega)) ?_
          rw [show x2.1 (lay.length + 1 + 2 * bF b + 2) (Int32.toNatClampNeg 0) = nI (nP b m) from (hH.2.2.2 0 (by omega)).trans (by rw [cN_0]; rfl)]
          refine xif_ne hk 552 dX9_isSame_545 (by decide) (fun h545 => ?_) (fun h545 => ?_)
          · refine xiconst (v := 0) hk dX9_isSame_552 (by decide) ?_
            refine xicmp_eq hk 558 dX9_isSame_553 (by decide) (fun h553 => ?_) (fun h553 => ?_)
            · refine xiload hk dX9_isSame_558 rfl ?_
              refine xif_lt hk 578 dX9_isSame_560 (by decide) (fun h560 => ?_) (fun h560 => ?_)
              · refine xiconst (v := 0) hk dX9_isSame_578 (by decide) ?_
                refine xistore hk dX9_isSame_579 (by decide) ?_
                refine xiconst (v := 0) hk dX9_isSame_581 (by decide) ?_
                refine xistore hk dX9_isSame_582 (by decide) ?_
                have loopR : ∀ (z f : Nat) (x2 : XS), bF b - f < z → f ≤ bF b → Cls b m dy ca x2 → SimX x2 q b m dy ca → Hand x2 lay.length b m t → Wx k (160 + 48 * (2 * bF b) + 3 * f) (1010 + 288 * (2 * bF b) + 18 * f) lay6 a6 x2 584 [(0, .ref (a6 q)), (1, .ref (a6 0)), (2, .int (nI (2 * bF b))), (3, .ref (a6 lay.length)), (4, .ref (a6 (lay.length + 1 + 2 * bF b))), (5, .ref (a6 (lay.length + 1 + 2 * bF b + 1))), (6, .ref (a6 (lay.length + 1 + 2 * bF b + 2))), (7, .int (-1)), (8, .int (nI (fb_ct t.testBit f))), (9, .int (nI f))] [] := by
                  intro z
                  induction z with
                  | zero => intro f x2 h; omega
                  | succ z ih =>
                    intro f x2 hz hfl2 hCx hX hH
                    refine xiload hk dX9_isSame_584 rfl ?_
                    refine xaload_n hk dX9_isSame_586 rfl ?_
                    refine xgetI (ci := 9) (f := 0) hk dX9_isSame_587 ⟨rfl, by decide, _, hL.1, rfl⟩ kX9_19 ?_
                    rw [hX.1.1]
                    refine xicmp_ge hk 635 dX9_isSame_590 (by decide) (fun h590 => ?_) (fun h590 => ?_)
                    · have hfe : f = bF b := Nat.le_antisymm hfl2 ((nI_leq (by omega) (by omega)).mp h590)
                      subst hfe
                      refine xaload_n hk dX9_isSame_635 rfl ?_
                      refine xaskL hI hk (q_ridersInPeace hCx hp hBt) (fun u e => c_X8_ridersInPeace hfl e) bX8_ridersInPeace rfl kX9_155 dX9_isSame_636 rfl rfl (by decide) ⟨by omega, by omega⟩ (Nat.le_of_ble_eq_true rfl) (fun x2 hCx hS => ?_)
                      have hX := hX.s48 hq48 hS
                      have hH := hH.s48 hn48 hS
                      refine xiload hk dX9_isSame_639 rfl ?_
                      refine xicmp_ne hk 648 dX9_isSame_641 (by decide) (fun h641 => ?_) (fun h641 => ?_)
                      · exact absurd rfl h641
                      · refine xiconst (v := 1) hk dX9_isSame_644 (by decide) ?_
                        refine xgoto hk 649 dX9_isSame_645 (by decide) ?_
                        exact xzretZ hk he dX9_isSame_649 ⟨by omega, by omega⟩ rfl rfl
                    · have hfl3 : f < bF b := Nat.not_le.mp (fun u => h590 ((nI_leq (by omega) (by omega)).mpr u))
                      refine xaload_n hk dX9_isSame_593 rfl ?_
                      refine xiload hk dX9_isSame_594 rfl ?_
                      refine xaskL hI hk (q_ridesInPeace hCx hp hBt hfl3) (fun u e => c_X8_ridesInPeace hfl e) bX8_ridesInPeace rfl kX9_152 dX9_isSame_596 rfl rfl (by decide) ⟨by omega, by omega⟩ (Nat.le_of_ble_eq_true rfl) (fun x2 hCx hS => ?_)
                      have hX := hX.s48 hq48 hS
                      have hH := hH.s48 hn48 hS
                      refine xaload hk dX9_isSame_599 rfl ?_
                      refine xiload hk dX9_isSame_601 rfl ?_
                      refine xiald hk dX9_isSame_603 htt (vp_in_nI hfl3 (by omega)) ?_
                      rw [nI_clamp (by omega), (hH.2.2.1 hp).2 f hfl3]
                      refine xif_ne hk 611 dX9_isSame_604 (by decide) (fun h604 => ?_) (fun h604 => ?_)
                      · cases hbb : t.testBit f with
                        | true => rw [hbb] at h604; exact absurd rfl h604
                        | false =>
                          refine xiconst (v := 0) hk dX9_isSame_611 (by decide) ?_
                          refine xicmp_eq hk 617 dX9_isSame_612 (by decide) (fun h612 => ?_) (fun h612 => ?_)
                          · refine xiload hk dX9_isSame_617 rfl ?_
                            refine xiconst (v := 1) hk dX9_isSame_619 (by decide) ?_
                            refine xaload hk dX9_isSame_620 rfl ?_
                            refine xiload hk dX9_isSame_622 rfl ?_
                            refine xiald hk dX9_isSame_624 htt (vp_in_nI hfl3 (by omega)) ?_
                            rw [nI_clamp (by omega), (hH.2.2.1 hp).2 f hfl3]
                            refine xisub hk dX9_isSame_625 ?_
                            refine xiadd hk dX9_isSame_626 ?_
                            rw [show nI (fb_ct t.testBit f) + (1 - b2i (!t.testBit f)) = nI (fb_ct t.testBit (f + 1)) by rw [← ct_b2i, hbb]; rfl]
                            refine xistore hk dX9_isSame_627 (by decide) ?_
                            refine xiinc (v := nI (f + 1)) hk dX9_isSame_629 rfl (by decide) (nI_inc f) ?_
                            refine xgoto hk 584 dX9_isSame_632 (by decide) ?_
                            refine xsub [(0, _), (1, _), (2, _), (3, _), (4, _), (5, _), (6, _), (7, _), (8, _), (9, _)] rfl ?_
                            exact xwiden (by omega) (by omega) (ih (f + 1) x2 (by omega) (by omega) hCx hX hH)
                          · exact absurd rfl h612
                      · cases hbb : t.testBit f with
                        | false => rw [hbb] at h604; exact absurd h604 (by decide)
                        | true =>
                          refine xiconst (v := 1) hk dX9_isSame_607 (by decide) ?_
                          refine xgoto hk 612 dX9_isSame_608 (by decide) ?_
                          refine xicmp_eq hk 617 dX9_isSame_612 (by decide) (fun h612 => ?_) (fun h612 => ?_)
                          · refine xiload hk dX9_isSame_617 rfl ?_
                            refine xiconst (v := 1) hk dX9_isSame_619 (by decide) ?_
                            refine xaload hk dX9_isSame_620 rfl ?_
                            refine xiload hk dX9_isSame_622 rfl ?_
                            refine xiald hk dX9_isSame_624 htt (vp_in_nI hfl3 (by omega)) ?_
                            rw [nI_clamp (by omega), (hH.2.2.1 hp).2 f hfl3]
                            refine xisub hk dX9_isSame_625 ?_
                            refine xiadd hk dX9_isSame_626 ?_
                            rw [show nI (fb_ct t.testBit f) + (1 - b2i (!t.testBit f)) = nI (fb_ct t.testBit (f + 1)) by rw [← ct_b2i, hbb]; rfl]
                            refine xistore hk dX9_isSame_627 (by decide) ?_
                            refine xiinc (v := nI (f + 1)) hk dX9_isSame_629 rfl (by decide) (nI_inc f) ?_
                            refine xgoto hk 584 dX9_isSame_632 (by decide) ?_
                            refine xsub [(0, _), (1, _), (2, _), (3, _), (4, _), (5, _), (6, _), (7, _), (8, _), (9, _)] rfl ?_
                            exact xwiden (by omega) (by omega) (ih (f + 1) x2 (by omega) (by omega) hCx hX hH)
                          · exact absurd rfl h612
                refine xsub [(0, _), (1, _), (2, _), (3, _), (4, _), (5, _), (6, _), (7, _), (8, _), (9, _)] rfl ?_
                exact loopR (bF b + 1) 0 x2 (by omega) (Nat.zero_le _) hCx hX hH
              · exact absurd (by decide) h560
            · exact absurd rfl h553
          · exact absurd ((nI_inj (b := 0) (by have := nP_le hW m; omega) (by decide)).mp h545) hp
        · exact absurd (by decide) h533
      · refine xiload hk dX9_isSame_531 rfl ?_
        refine xif_lt hk 540 dX9_isSame_533 (by decide) (fun h533 => ?_) (fun h533 => ?_)
        · exact absurd h533 (nI_pos (by omega))
        · refine xiconst (v := 1) hk dX9_isSame_536 (by decide) ?_
          refine xgoto hk 541 dX9_isSame_537 (by decide) ?_
          refine xaload hk dX9_isSame_541 rfl ?_
          refine xiconst (v := 0) hk dX9_isSame_543 (by decide) ?_
          refine xiald hk dX9_isSame_544 hpq (show vp_in (nI 0) (2 + 2 * bF b) from vp_in_nI (by omega) (by omega)) ?_
          rw [show x2.1 (lay.length + 1 + 2 * bF b + 2) (Int32.toNatClampNeg 0) = nI (nP b m) from (hH.2.2.2 0 (by omega)).trans (by rw [cN_0]; rfl)]
          refine xif_ne hk 552 dX9_isSame_545 (by decide) (fun h545 => ?_) (fun h545 => ?_)
          · exact absurd (by rw [hp]; rfl) h545
          · refine xiconst (v := 1) hk dX9_isSame_548 (by decide) ?_
            refine xgoto hk 553 dX9_isSame_549 (by decide) ?_
            refine xicmp_eq hk 558 dX9_isSame_553 (by decide) (fun h553 => ?_) (fun h553 => ?_)
            · refine xiload hk dX9_isSame_558 rfl ?_
              refine xif_lt hk 578 dX9_isSame_560 (by decide) (fun h560 => ?_) (fun h560 => ?_)
              · exact absurd h560 (nI_pos (by omega))
              · refine xaload_n hk dX9_isSame_563 rfl ?_
                refine xaskL hI hk (q_blamed hCx hp hf0 hm1 hm2) (fun u e => c_X8_blamedFamily hfl e) bX8_blamedFamily rfl kX9_149 dX9_isSame_564 rfl rfl (by decide) ⟨by omega, by omega⟩ (Nat.le_of_ble_eq_true rfl) (fun x2 hCx hS => ?_)
                have hX := hX.s48 hq48 hS
                have hH := hH.s48 hn48 hS
                refine xiload hk dX9_isSame_567 rfl ?_
                refine xicmp_ne hk 576 dX9_isSame_569 (by decide) (fun h569 => ?_) (fun h569 => ?_)
                · exact absurd rfl h569
                · refine xiconst (v := 1) hk dX9_isSame_572 (by decide) ?_
                  refine xgoto hk 577 dX9_isSame_573 (by decide) ?_
                  exact xzretZ hk he dX9_isSame_577 ⟨by omega, by omega⟩ rfl rfl
            · exact absurd rfl h553
    have partE : ∀ (x2 : XS), Cls b m dy ca x2 → SimX x2 q b m dy ca → Hand x2 lay.length b m t → Wx k 160 1010 lay6 a6 x2 262 [(0, .ref (a6 q)), (1, .ref (a6 0)), (2, .int (nI (2 * bF b))), (3, .ref (a6 lay.length)), (4, .ref (a6 (lay.length + 1 + 2 * bF b))), (5, .ref (a6 (lay.length + 1 + 2 * bF b + 1))), (6, .ref (a6 (lay.length + 1 + 2 * bF b + 2)))] [] := by
      have loopC : ∀ (n : Nat) (v : Int32) (x2 : XS), n ≤ 2 * bF b → BlI b m n v → Cls b m dy ca x2 → SimX x2 q b m dy ca → Hand x2 lay.length b m t → Wx k (160 + 48 * (2 * bF b - n)) (1010 + 288 * (2 * bF b - n)) lay6 a6 x2 270 [(0, .ref (a6 q)), (1, .ref (a6 0)), (2, .int (nI (2 * bF b))), (3, .ref (a6 lay.length)), (4, .ref (a6 (lay.length + 1 + 2 * bF b))), (5, .ref (a6 (lay.length + 1 + 2 * bF b + 1))), (6, .ref (a6 (lay.length + 1 + 2 * bF b + 2))), (7, .int v), (8, .int (tpI n))] [] := by
        intro n
        induction n with
        | zero =>
          intro v x2 hn hv hCx hX hH
          refine xiload hk dX9_isSame_270 rfl ?_
          refine xif_lt hk 531 dX9_isSame_272 (by decide) (fun h272 => ?_) (fun h272 => ?_)
          · exact xsub [(0, _), (1, _), (2, _), (3, _), (4, _), (5, _), (6, _), (7, _)] rfl (partF v x2 hv hCx hX hH)
          · exact absurd (by decide) h272
        | succ c ihC =>
          intro v x2 hn hv hCx hX hH
          have hc : c < 2 * bF b := by omega
          have hlc := (lst_p hW (m := m) hc).1
          have hc1 := x1_lt (bF b) (by omega) c hc
          have hlo := (lst_p hW (m := m) hc1).1
          obtain ⟨C0, hC0⟩ : ∃ C0, C0 = 160 + 48 * (2 * bF b - (c + 1)) := ⟨_, rfl⟩
          obtain ⟨S0, hS0⟩ : ∃ S0, S0 = 1010 + 288 * (2 * bF b - (c + 1)) := ⟨_, rfl⟩
          rw [tpI_s, ← hC0, ← hS0]
          have C503 : ∀ (x2 : XS), Cls b m dy ca x2 → SimX x2 q b m dy ca → Hand x2 lay.length b m t → Wx k (C0 + 48) (S0 + 288) lay6 a6 x2 503 [(0, .ref (a6 q)), (1, .ref (a6 0)), (2, .int (nI (2 * bF b))), (3, .ref (a6 lay.length)), (4, .ref (a6 (lay.length + 1 + 2 * bF b))), (5, .ref (a6 (lay.length + 1 + 2 * bF b + 1))), (6, .ref (a6 (lay.length + 1 + 2 * bF b + 2))), (7, .int v), (8, .int (nI c))] [] := by
            intro x2 hCx hX hH
            refine xaload hk dX9_isSame_503 rfl ?_
            refine xiload hk dX9_isSame_505 rfl ?_
            refine xiald hk dX9_isSame_507 hpt (vp_in_nI (by omega) (by omega)) ?_
            rw [nI_clamp (by omega), hH.2.1 c hc]
            refine xaload hk dX9_isSame_508 rfl ?_
            refine xiload hk dX9_isSame_510 rfl ?_
            refine xcallS hk (c_X9_opposite (c := c) (by omega)) bX9_opposite kX9_53 dX9_isSame_512 rfl rfl (by decide) ⟨by omega, by omega⟩ (Nat.le_of_ble_eq_true rfl) (det ?_)
            refine xiald hk dX9_isSame_515 hpt (vp_in_nI (by omega) (by omega)) ?_
            rw [nI_clamp (by omega), hH.2.1 (c ^^^ 1) hc1]
            refine xicmp_ne hk 525 dX9_isSame_516 (by decide) (fun h516 => ?_) (fun h516 => ?_)
            · refine xiinc (v := tpI c) hk dX9_isSame_525 rfl (by decide) rfl ?_
              refine xgoto hk 270 dX9_isSame_528 (by decide) ?_
              refine xsub [(0, _), (1, _), (2, _), (3, _), (4, _), (5, _), (6, _), (7, _), (8, _)] rfl ?_
              exact xwiden (by omega) (by omega) (ihC _ x2 (by omega) (BlI.ne hv (fun e => h516 (by rw [e]))) hCx hX hH)
            · refine xiload hk dX9_isSame_519 rfl ?_
              refine xiconst (v := 2) hk dX9_isSame_521 (by decide) ?_
              refine xidiv hk dX9_isSame_522 (by decide) ?_
              rw [show (2 : Int32) = nI 2 from rfl, div_nI (by omega) (by decide) (by decide)]
              refine xistore hk dX9_isSame_523 (by decide) ?_
              refine xiinc (v := tpI c) hk dX9_isSame_525 rfl (by decide) rfl ?_
              refine xgoto hk 270 dX9_isSame_528 (by decide) ?_
              refine xsub [(0, _), (1, _), (2, _), (3, _), (4, _), (5, _), (6, _), (7, _), (8, _)] rfl ?_
              exact xwiden (by omega) (by omega) (ihC _ x2 (by omega) (BlI.eq ((nI_inj (by omega) (by omega)).mp h516) hc) hCx hX hH)
          have C466 : ∀ (x2 : XS), Cls b m dy ca x2 → SimX x2 q b m dy ca → Hand x2 lay.length b m t → Wx k (C0 + 45) (S0 + 270) lay6 a6 x2 466 [(0, .ref (a6 q)), (1, .ref (a6 0)), (2, .int (nI (2 * bF b))), (3, .ref (a6 lay.length)), (4, .ref (a6 (lay.length + 1 + 2 * bF b))), (5, .ref (a6 (lay.length + 1 + 2 * bF b + 1))), (6, .ref (a6 (lay.length + 1 + 2 * bF b + 2))), (7, .int v), (8, .int (nI c))] [] := by
            intro x2 hCx hX hH
            refine xaload hk dX9_isSame_466 rfl ?_
            refine xiconst (v := 0) hk dX9_isSame_468 (by decide) ?_
            refine xiald hk dX9_isSame_469 hpq (show vp_in (nI 0) (2 + 2 * bF b) from vp_in_nI (by omega) (by omega)) ?_
            rw [show x2.1 (lay.length + 1 + 2 * bF b + 2) (Int32.toNatClampNeg 0) = nI (nP b m) from (hH.2.2.2 0 (by omega)).trans (by rw [cN_0]; rfl)]
            refine xif_le hk 503 dX9_isSame_470 (by decide) (fun h470 => ?_) (fun h470 => ?_)
            · exact xwiden (by omega) (by omega) (C503 x2 hCx hX hH)
            · have hpp : 0 < nP b m := by
                have : ¬ nP b m = 0 := fun e => h470 (by rw [e]; decide)
                omega
              refine xaload_n hk dX9_isSame_473 rfl ?_
              refine xiload hk dX9_isSame_474 rfl ?_
              refine xaskL hI hk (q_isSettled hCx (by omega) hc) (fun u e => c_X8_isSettled hfl e) bX8_isSettled rfl kX9_146 dX9_isSame_476 rfl rfl (by decide) ⟨by omega, by omega⟩ (Nat.le_of_ble_eq_true rfl) (fun x2 hCx hS => ?_)
              have hX := hX.s48 hq48 hS
              have hH := hH.s48 hn48 hS
              refine xaload hk dX9_isSame_479 rfl ?_
              refine xiconst (v := 2) hk dX9_isSame_481 (by decide) ?_
              refine xiload hk dX9_isSame_482 rfl ?_
              refine xiadd hk dX9_isSame_484 ?_
              rw [show (2 : Int32) + nI c = nI (2 + c) by rw [← nI_addN]; rfl]
              refine xiald hk dX9_isSame_485 hpq (vp_in_nI (by omega) (by omega)) ?_
              rw [nI_clamp (by omega), hH.2.2.2 (2 + c) (by omega), cN_c]
              refine xaload hk dX9_isSame_486 rfl ?_
              refine xiconst (v := 0) hk dX9_isSame_488 (by decide) ?_
              refine xiald hk dX9_isSame_489 hpq (show vp_in (nI 0) (2 + 2 * bF b) from vp_in_nI (by omega) (by omega)) ?_
              rw [show x2.1 (lay.length + 1 + 2 * bF b + 2) (Int32.toNatClampNeg 0) = nI (nP b m) from (hH.2.2.2 0 (by omega)).trans (by rw [cN_0]; rfl)]
              refine xicmp_ne hk 497 dX9_isSame_490 (by decide) (fun h490 => ?_) (fun h490 => ?_)
              · have hd : decide (nW b m c = nP b m) = false := decide_eq_false (fun e => h490 (by rw [e]))
                refine xiconst (v := 0) hk dX9_isSame_497 (by decide) ?_
                refine xicmp_eq hk 503 dX9_isSame_498 (by decide) (fun h498 => ?_) (fun h498 => ?_)
                · exact xwiden (by omega) (by omega) (C503 x2 hCx hX hH)
                · exact absurd (by rw [hd]; rfl) h498
              · have hd : decide (nW b m c = nP b m) = true := decide_eq_true ((nI_inj (by have := nW_le hW m c; omega) (by have := nP_le hW m; omega)).mp h490)
                refine xiconst (v := 1) hk dX9_isSame_493 (by decide) ?_
                refine xgoto hk 498 dX9_isSame_494 (by decide) ?_
                refine xicmp_eq hk 503 dX9_isSame_498 (by decide) (fun h498 => ?_) (fun h498 => ?_)
                · exact xwiden (by omega) (by omega) (C503 x2 hCx hX hH)
                · exact absurd (by rw [hd]; rfl) h498
          have C388 : ∀ (x2 : XS), Cls b m dy ca x2 → SimX x2 q b m dy ca → Hand x2 lay.length b m t → Wx k (C0 + 30) (S0 + 180) lay6 a6 x2 388 [(0, .ref (a6 q)), (1, .ref (a6 0)), (2, .int (nI (2 * bF b))), (3, .ref (a6 lay.length)), (4, .ref (a6 (lay.length + 1 + 2 * bF b))), (5, .ref (a6 (lay.length + 1 + 2 * bF b + 1))), (6, .ref (a6 (lay.length + 1 + 2 * bF b + 2))), (7, .int v), (8, .int (nI c)), (9, .int (nI (fb_ct (RB b m c) (2 * bF b)))), (10, .int (nI (fb_ct (fun i => decide (lst (RB b m) i = lst (RB b m) c)) (2 * bF b))))] [] := by
            intro x2 hCx hX hH
            rw [size_eq hW hc]
            refine xaload_n hk dX9_isSame_388 rfl ?_
            refine xiload hk dX9_isSame_389 rfl ?_
            refine xaskL hI hk (q_what hCx hc) (fun u e => c_X8_whatFollowsFrom hfl e) bX8_whatFollowsFrom rfl kX9_131 dX9_isSame_391 rfl rfl (by decide) ⟨by omega, by omega⟩ (Nat.le_of_ble_eq_true rfl) (fun x2 hCx hS => ?_)
            have hX := hX.s48 hq48 hS
            have hH := hH.s48 hn48 hS
            refine xiload hk dX9_isSame_394 rfl ?_
            refine xicmp_ne hk 464 dX9_isSame_396 (by decide) (fun h396 => ?_) (fun h396 => ?_)
            · exact absurd rfl h396
            · refine xaload_n hk dX9_isSame_399 rfl ?_
              refine xiload hk dX9_isSame_400 rfl ?_
              refine xaskL hI hk (q_partOf hCx hc) (fun u e => c_X8_partOf hfl e) bX8_partOf rfl kX9_134 dX9_isSame_402 rfl rfl (by decide) ⟨by omega, by omega⟩ (Nat.le_of_ble_eq_true rfl) (fun x2 hCx hS => ?_)
              have hX := hX.s48 hq48 hS
              have hH := hH.s48 hn48 hS
              refine xaload hk dX9_isSame_405 rfl ?_
              refine xiload hk dX9_isSame_407 rfl ?_
              refine xiald hk dX9_isSame_409 hpt (vp_in_nI (by omega) (by omega)) ?_
              rw [nI_clamp (by omega), hH.2.1 c hc]
              refine xicmp_ne hk 464 dX9_isSame_410 (by decide) (fun h410 => ?_) (fun h410 => ?_)
              · exact absurd rfl h410
              · refine xaload_n hk dX9_isSame_413 rfl ?_
                refine xiload hk dX9_isSame_414 rfl ?_
                refine xaskL hI hk (q_partSize hCx hc) (fun u e => c_X8_partSize hfl e) bX8_partSize rfl kX9_137 dX9_isSame_416 rfl rfl (by decide) ⟨by omega, by omega⟩ (Nat.le_of_ble_eq_true rfl) (fun x2 hCx hS => ?_)
                have hX := hX.s48 hq48 hS
                have hH := hH.s48 hn48 hS
                refine xiload hk dX9_isSame_419 rfl ?_
                refine xicmp_ne hk 464 dX9_isSame_421 (by decide) (fun h421 => ?_) (fun h421 => ?_)
                · exact absurd rfl h421
                · refine xaload_n hk dX9_isSame_424 rfl ?_
                  refine xiload hk dX9_isSame_425 rfl ?_
                  refine xaskL hI hk (q_peacesWith hCx hc) (fun u e => c_X8_peacesWith hfl e) bX8_peacesWith rfl kX9_140 dX9_isSame_427 rfl rfl (by decide) ⟨by omega, by omega⟩ (Nat.le_of_ble_eq_true rfl) (fun x2 hCx hS => ?_)
                  have hX := hX.s48 hq48 hS
                  have hH := hH.s48 hn48 hS
                  refine xaload hk dX9_isSame_430 rfl ?_
                  refine xiconst (v := 2) hk dX9_isSame_432 (by decide) ?_
                  refine xiload hk dX9_isSame_433 rfl ?_
                  refine xiadd hk dX9_isSame_435 ?_
                  rw [show (2 : Int32) + nI c = nI (2 + c) by rw [← nI_addN]; rfl]
                  refine xiald hk dX9_isSame_436 hpq (vp_in_nI (by omega) (by omega)) ?_
                  rw [nI_clamp (by omega), hH.2.2.2 (2 + c) (by omega), cN_c]
                  refine xicmp_ne hk 464 dX9_isSame_437 (by decide) (fun h437 => ?_) (fun h437 => ?_)
                  · exact absurd rfl h437
                  · refine xaload_n hk dX9_isSame_440 rfl ?_
                    refine xiload hk dX9_isSame_441 rfl ?_
                    refine xaskL hI hk (q_isPossible hCx hc) (fun u e => c_X8_isPossible hfl e) bX8_isPossible rfl kX9_143 dX9_isSame_443 rfl rfl (by decide) ⟨by omega, by omega⟩ (Nat.le_of_ble_eq_true rfl) (fun x2 hCx hS => ?_)
                    have hX := hX.s48 hq48 hS
                    have hH := hH.s48 hn48 hS
                    refine xaload hk dX9_isSame_446 rfl ?_
                    refine xiconst (v := 2) hk dX9_isSame_448 (by decide) ?_
                    refine xiload hk dX9_isSame_449 rfl ?_
                    refine xiadd hk dX9_isSame_451 ?_
                    rw [show (2 : Int32) + nI c = nI (2 + c) by rw [← nI_addN]; rfl]
                    refine xiald hk dX9_isSame_452 hpq (vp_in_nI (by omega) (by omega)) ?_
                    rw [nI_clamp (by omega), hH.2.2.2 (2 + c) (by omega), cN_c]
                    refine xif_le hk 460 dX9_isSame_453 (by decide) (fun h453 => ?_) (fun h453 => ?_)
                    · have hd : decide (0 < nW b m c) = false := decide_eq_false (by have := (nz_le (by have := nW_le hW m c; omega)).mp h453; omega)
                      refine xiconst (v := 0) hk dX9_isSame_460 (by decide) ?_
                      refine xicmp_eq hk 466 dX9_isSame_461 (by decide) (fun h461 => ?_) (fun h461 => ?_)
                      · refine xsub [(0, _), (1, _), (2, _), (3, _), (4, _), (5, _), (6, _), (7, _), (8, _)] rfl ?_
                        exact xwiden (by omega) (by omega) (C466 x2 hCx hX hH)
                      · exact absurd (by rw [hd]; rfl) h461
                    · have hd : decide (0 < nW b m c) = true := decide_eq_true (by
                        have : ¬ nW b m c = 0 := fun e => h453 (by rw [e]; decide)
                        omega)
                      refine xiconst (v := 1) hk dX9_isSame_456 (by decide) ?_
                      refine xgoto hk 461 dX9_isSame_457 (by decide) ?_
                      refine xicmp_eq hk 466 dX9_isSame_461 (by decide) (fun h461 => ?_) (fun h461 => ?_)
                      · refine xsub [(0, _), (1, _), (2, _), (3, _), (4, _), (5, _), (6, _), (7, _), (8, _)] rfl ?_
                        exact xwiden (by omega) (by omega) (C466 x2 hCx hX hH)
                      · exact absurd (by rw [hd]; rfl) h461
          have loopD : ∀ (z o : Nat) (x2 : XS), 2 * bF b - o < z → o ≤ 2 * bF b → Cls b m dy ca x2 → SimX x2 q b m dy ca → Hand x2 lay.length b m t → Wx k (C0 + 3 * o) (S0 + 18 * o) lay6 a6 x2 284 [(0, .ref (a6 q)), (1, .ref (a6 0)), (2, .int (nI (2 * bF b))), (3, .ref (a6 lay.length)), (4, .ref (a6 (lay.length + 1 + 2 * bF b))), (5, .ref (a6 (lay.length + 1 + 2 * bF b + 1))), (6, .ref (a6 (lay.length + 1 + 2 * bF b + 2))), (7, .int v), (8, .int (nI c)), (9, .int (nI (fb_ct (RB b m c) (o)))), (10, .int (nI (fb_ct (fun i => decide (lst (RB b m) i = lst (RB b m) c)) (o)))), (11, .int (nI o))] [] := by
            intro z
            induction z with
            | zero => intro o x2 h; omega
            | succ z ih =>
              intro o x2 hz hol hCx hX hH
              refine xiload hk dX9_isSame_284 rfl ?_
              refine xiload_n hk dX9_isSame_286 rfl ?_
              refine xicmp_ge hk 388 dX9_isSame_287 (by decide) (fun h287 => ?_) (fun h287 => ?_)
              · have hoe : o = 2 * bF b := Nat.le_antisymm hol ((nI_leq (by omega) (by omega)).mp h287)
                subst hoe
                refine xsub [(0, _), (1, _), (2, _), (3, _), (4, _), (5, _), (6, _), (7, _), (8, _), (9, _), (10, _)] rfl ?_
                exact xwiden (by omega) (by omega) (C388 x2 hCx hX hH)
              · have ho : o < 2 * bF b := Nat.not_le.mp (fun u => h287 ((nI_leq (by omega) (by omega)).mpr u))
                have hfi := from_iff hW hm hc ho
                have hlo2 := (lst_p hW (m := m) ho).1
                have D382 : ∀ (x2 : XS), Cls b m dy ca x2 → SimX x2 q b m dy ca → Hand x2 lay.length b m t → Wx k (C0 + 3 * o + 3) (S0 + 18 * o + 18) lay6 a6 x2 382 [(0, .ref (a6 q)), (1, .ref (a6 0)), (2, .int (nI (2 * bF b))), (3, .ref (a6 lay.length)), (4, .ref (a6 (lay.length + 1 + 2 * bF b))), (5, .ref (a6 (lay.length + 1 + 2 * bF b + 1))), (6, .ref (a6 (lay.length + 1 + 2 * bF b + 2))), (7, .int v), (8, .int (nI c)), (9, .int (nI (fb_ct (RB b m c) (o + 1)))), (10, .int (nI (fb_ct (fun i => decide (lst (RB b m) i = lst (RB b m) c)) (o + 1)))), (11, .int (nI o))] [] := by
                  intro x2 hCx hX hH
                  refine xiinc (v := nI (o + 1)) hk dX9_isSame_382 rfl (by decide) (nI_inc o) ?_
                  refine xgoto hk 284 dX9_isSame_385 (by decide) ?_
                  refine xsub [(0, _), (1, _), (2, _), (3, _), (4, _), (5, _), (6, _), (7, _), (8, _), (9, _), (10, _), (11, _)] rfl ?_
                  exact xwiden (by omega) (by omega) (ih (o + 1) x2 (by omega) (by omega) hCx hX hH)
                have D334 : Wx k (C0 + 3 * o) (S0 + 18 * o) lay6 a6 x2 334 [(0, .ref (a6 q)), (1, .ref (a6 0)), (2, .int (nI (2 * bF b))), (3, .ref (a6 lay.length)), (4, .ref (a6 (lay.length + 1 + 2 * bF b))), (5, .ref (a6 (lay.length + 1 + 2 * bF b + 1))), (6, .ref (a6 (lay.length + 1 + 2 * bF b + 2))), (7, .int v), (8, .int (nI c)), (9, .int (nI (fb_ct (RB b m c) (o + 1)))), (11, .int (nI o))] [.int (nI (fb_ct (fun i => decide (lst (RB b m) i = lst (RB b m) c)) (o + 1)))] := by
                  refine xistore hk dX9_isSame_334 (by decide) ?_
                  refine xiload hk dX9_isSame_336 rfl ?_
                  refine xiload hk dX9_isSame_338 rfl ?_
                  refine xiadd hk dX9_isSame_340 ?_
                  refine xaload_n hk dX9_isSame_341 rfl ?_
                  refine xgetI (ci := 9) (f := 3) hk dX9_isSame_342 ⟨rfl, by decide, _, hL.1, rfl⟩ kX9_23 ?_
                  rw [hX.1.2.1]
                  refine xiadd hk dX9_isSame_345 ?_
                  refine xiconst (v := 3) hk dX9_isSame_346 (by decide) ?_
                  refine xirem hk dX9_isSame_347 (by decide) ?_
                  refine xif_ne hk 382 dX9_isSame_348 (by decide) (fun h348 => ?_) (fun h348 => ?_)
                  · refine xsub [(0, _), (1, _), (2, _), (3, _), (4, _), (5, _), (6, _), (7, _), (8, _), (9, _), (10, _), (11, _)] rfl ?_
                    exact xwiden (by omega) (by omega) (D382 x2 hCx hX hH)
                  · refine xaload_n hk dX9_isSame_351 rfl ?_
                    refine xiload hk dX9_isSame_352 rfl ?_
                    refine xiload hk dX9_isSame_354 rfl ?_
                    refine xaskL hI hk (q_follows hCx ho hc) (fun u e => c_X8_follows hfl e) bX8_follows rfl kX9_127 dX9_isSame_356 rfl rfl (by decide) ⟨by omega, by omega⟩ (Nat.le_of_ble_eq_true rfl) (fun x2 hCx hS => ?_)
                    have hX := hX.s48 hq48 hS
                    have hH := hH.s48 hn48 hS
                    refine xaload_n hk dX9_isSame_359 rfl ?_
                    refine xiload hk dX9_isSame_360 rfl ?_
                    refine xaald (j := lay.length + 1 + c) hk dX9_isSame_362 hf (rows_in hc (by omega)) (rows_at hc (by omega)) ?_
                    refine xiload hk dX9_isSame_363 rfl ?_
                    refine xiald hk dX9_isSame_365 (hr c hc) (vp_in_nI ho (by omega)) ?_
                    rw [nI_clamp (by omega), hH.1 c hc o ho]
                    refine xsipush (v := 999) hk dX9_isSame_366 (by decide) ?_
                    refine xicmp_ge hk 376 dX9_isSame_369 (by decide) (fun h369 => ?_) (fun h369 => ?_)
                    · have hb : RB b m c o = false := by
                        cases hb : RB b m c o with
                        | false => rfl
                        | true => have := hfi.2.mpr hb; have := (nI_leq (a := 999) (by decide) (by omega)).mp h369; omega
                      refine xiconst (v := 0) hk dX9_isSame_376 (by decide) ?_
                      refine xicmp_eq hk 382 dX9_isSame_377 (by decide) (fun h377 => ?_) (fun h377 => ?_)
                      · refine xsub [(0, _), (1, _), (2, _), (3, _), (4, _), (5, _), (6, _), (7, _), (8, _), (9, _), (10, _), (11, _)] rfl ?_
                        exact xwiden (by omega) (by omega) (D382 x2 hCx hX hH)
                      · exact absurd (by rw [hb]; rfl) h377
                    · have hb : RB b m c o = true := hfi.2.mp (Nat.not_le.mp (fun u => h369 ((nI_leq (a := 999) (by decide) (by omega)).mpr u)))
                      refine xiconst (v := 1) hk dX9_isSame_372 (by decide) ?_
                      refine xgoto hk 377 dX9_isSame_373 (by decide) ?_
                      refine xicmp_eq hk 382 dX9_isSame_377 (by decide) (fun h377 => ?_) (fun h377 => ?_)
                      · refine xsub [(0, _), (1, _), (2, _), (3, _), (4, _), (5, _), (6, _), (7, _), (8, _), (9, _), (10, _), (11, _)] rfl ?_
                        exact xwiden (by omega) (by omega) (D382 x2 hCx hX hH)
                      · exact absurd (by rw [hb]; rfl) h377
                have D311 : Wx k (C0 + 3 * o) (S0 + 18 * o) lay6 a6 x2 311 [(0, .ref (a6 q)), (1, .ref (a6 0)), (2, .int (nI (2 * bF b))), (3, .ref (a6 lay.length)), (4, .ref (a6 (lay.length + 1 + 2 * bF b))), (5, .ref (a6 (lay.length + 1 + 2 * bF b + 1))), (6, .ref (a6 (lay.length + 1 + 2 * bF b + 2))), (7, .int v), (8, .int (nI c)), (10, .int (nI (fb_ct (fun i => decide (lst (RB b m) i = lst (RB b m) c)) o))), (11, .int (nI o))] [.int (nI (fb_ct (RB b m c) (o + 1)))] := by
                  refine xistore hk dX9_isSame_311 (by decide) ?_
                  refine xiload hk dX9_isSame_313 rfl ?_
                  refine xaload hk dX9_isSame_315 rfl ?_
                  refine xiload hk dX9_isSame_317 rfl ?_
                  refine xiald hk dX9_isSame_319 hpt (vp_in_nI (by omega) (by omega)) ?_
                  rw [nI_clamp (by omega), hH.2.1 o ho]
                  refine xaload hk dX9_isSame_320 rfl ?_
                  refine xiload hk dX9_isSame_322 rfl ?_
                  refine xiald hk dX9_isSame_324 hpt (vp_in_nI (by omega) (by omega)) ?_
                  rw [nI_clamp (by omega), hH.2.1 c hc]
                  refine xicmp_ne hk 332 dX9_isSame_325 (by decide) (fun h325 => ?_) (fun h325 => ?_)
                  · have hb : decide (lst (RB b m) o = lst (RB b m) c) = false := decide_eq_false (fun e => h325 (by rw [e]))
                    refine xiconst (v := 0) hk dX9_isSame_332 (by decide) ?_
                    refine xiadd hk dX9_isSame_333 ?_
                    rw [show nI (fb_ct (fun i => decide (lst (RB b m) i = lst (RB b m) c)) o) + 0 = nI (fb_ct (fun i => decide (lst (RB b m) i = lst (RB b m) c)) (o + 1)) by rw [← ct_b2i]; show _ = _ + b2i (decide (lst (RB b m) o = lst (RB b m) c)); rw [hb]; rfl]
                    refine xsub [(0, _), (1, _), (2, _), (3, _), (4, _), (5, _), (6, _), (7, _), (8, _), (9, _), (11, _)] rfl ?_
                    exact D334
                  · have hb : decide (lst (RB b m) o = lst (RB b m) c) = true := decide_eq_true ((nI_inj (by omega) (by omega)).mp h325)
                    refine xiconst (v := 1) hk dX9_isSame_328 (by decide) ?_
                    refine xgoto hk 333 dX9_isSame_329 (by decide) ?_
                    refine xiadd hk dX9_isSame_333 ?_
                    rw [show nI (fb_ct (fun i => decide (lst (RB b m) i = lst (RB b m) c)) o) + 1 = nI (fb_ct (fun i => decide (lst (RB b m) i = lst (RB b m) c)) (o + 1)) by rw [← ct_b2i]; show _ = _ + b2i (decide (lst (RB b m) o = lst (RB b m) c)); rw [hb]; rfl]
                    refine xsub [(0, _), (1, _), (2, _), (3, _), (4, _), (5, _), (6, _), (7, _), (8, _), (9, _), (11, _)] rfl ?_
                    exact D334
                refine xiload hk dX9_isSame_290 rfl ?_
                refine xaload_n hk dX9_isSame_292 rfl ?_
                refine xiload hk dX9_isSame_293 rfl ?_
                refine xaald (j := lay.length + 1 + c) hk dX9_isSame_295 hf (rows_in hc (by omega)) (rows_at hc (by omega)) ?_
                refine xiload hk dX9_isSame_296 rfl ?_
                refine xiald hk dX9_isSame_298 (hr c hc) (vp_in_nI ho (by omega)) ?_
                rw [nI_clamp (by omega), hH.1 c hc o ho]
                refine xsipush (v := 999) hk dX9_isSame_299 (by decide) ?_
                refine xicmp_ge hk 309 dX9_isSame_302 (by decide) (fun h302 => ?_) (fun h302 => ?_)
                · have hb : RB b m c o = false := by
                    cases hb : RB b m c o with
                    | false => rfl
                    | true => have := hfi.2.mpr hb; have := (nI_leq (a := 999) (by decide) (by omega)).mp h302; omega
                  refine xiconst (v := 0) hk dX9_isSame_309 (by decide) ?_
                  refine xiadd hk dX9_isSame_310 ?_
                  rw [show nI (fb_ct (RB b m c) o) + 0 = nI (fb_ct (RB b m c) (o + 1)) by rw [← ct_b2i, hb]; rfl]
                  refine xsub [(0, _), (1, _), (2, _), (3, _), (4, _), (5, _), (6, _), (7, _), (8, _), (10, _), (11, _)] rfl ?_
                  exact D311
                · have hb : RB b m c o = true := hfi.2.mp (Nat.not_le.mp (fun u => h302 ((nI_leq (a := 999) (by decide) (by omega)).mpr u)))
                  refine xiconst (v := 1) hk dX9_isSame_305 (by decide) ?_
                  refine xgoto hk 310 dX9_isSame_306 (by decide) ?_
                  refine xiadd hk dX9_isSame_310 ?_
                  rw [show nI (fb_ct (RB b m c) o) + 1 = nI (fb_ct (RB b m c) (o + 1)) by rw [← ct_b2i, hb]; rfl]
                  refine xsub [(0, _), (1, _), (2, _), (3, _), (4, _), (5, _), (6, _), (7, _), (8, _), (10, _), (11, _)] rfl ?_
                  exact D311
          refine xiload hk dX9_isSame_270 rfl ?_
          refine xif_lt hk 531 dX9_isSame_272 (by decide) (fun h272 => ?_) (fun h272 => ?_)
          · exact absurd h272 (nI_pos (by omega))
          · refine xiconst (v := 0) hk dX9_isSame_275 (by decide) ?_
            refine xistore hk dX9_isSame_276 (by decide) ?_
            refine xiconst (v := 0) hk dX9_isSame_278 (by decide) ?_
            refine xistore hk dX9_isSame_279 (by decide) ?_
            refine xiconst (v := 0) hk dX9_isSame_281 (by decide) ?_
            refine xistore hk dX9_isSame_282 (by decide) ?_
            refine xsub [(0, _), (1, _), (2, _), (3, _), (4, _), (5, _), (6, _), (7, _), (8, _), (9, _), (10, _), (11, _)] rfl ?_
            exact loopD (2 * bF b + 1) 0 x2 (by omega) (Nat.zero_le _) hCx hX hH
      intro x2 hCx hX hH
      refine xiconst (v := (-1)) hk dX9_isSame_262 (by decide) ?_
      refine xistore hk dX9_isSame_263 (by decide) ?_
      refine xiload_n hk dX9_isSame_265 rfl ?_
      refine xiconst (v := 1) hk dX9_isSame_266 (by decide) ?_
      refine xisub hk dX9_isSame_267 ?_
      rw [tpI_sub]
      refine xistore hk dX9_isSame_268 (by decide) ?_
      exact xwiden (by omega) (by omega) (loopC (2 * bF b) (-1) x2 (Nat.le_refl _) (Or.inl ⟨rfl, fun c h1 h2 => absurd h2 (Nat.not_lt.mpr h1)⟩) hCx hX hH)
    have partD : ∀ (x2 : XS), Cls b m dy ca x2 → SimX x2 q b m dy ca → Hand x2 lay.length b m t → Wx k 160 1010 lay6 a6 x2 230 [(0, .ref (a6 q)), (1, .ref (a6 0)), (2, .int (nI (2 * bF b))), (3, .ref (a6 lay.length)), (4, .ref (a6 (lay.length + 1 + 2 * bF b))), (5, .ref (a6 (lay.length + 1 + 2 * bF b + 1))), (6, .ref (a6 (lay.length + 1 + 2 * bF b + 2)))] [] := by
      intro x2 hCx hX hH
      refine xaload_n hk dX9_isSame_230 rfl ?_
      obtain ⟨y231, e231, hCy231⟩ := q_mean hCx
      refine xaskPL (v := .double (mnV b m)) hI hk hCy231 (c_X8_meanRiders e231) bX8_meanRiders rfl kX9_123 dX9_isSame_231 rfl rfl (by decide) ⟨by omega, by omega⟩ (Nat.le_of_ble_eq_true rfl) (fun x2 hCx hS => ?_)
      have hX := hX.s48 hq48 hS
      have hH := hH.s48 hn48 hS
      refine xaload hk dX9_isSame_234 rfl ?_
      refine xiconst (v := 0) hk dX9_isSame_236 (by decide) ?_
      refine xiald hk dX9_isSame_237 hpq (show vp_in (nI 0) (2 + 2 * bF b) from vp_in_nI (by omega) (by omega)) ?_
      rw [show x2.1 (lay.length + 1 + 2 * bF b + 2) (Int32.toNatClampNeg 0) = nI (nP b m) from (hH.2.2.2 0 (by omega)).trans (by rw [cN_0]; rfl)]
      refine xif_ne hk 245 dX9_isSame_238 (by decide) (fun h238 => ?_) (fun h238 => ?_)
      · have hnz : nI (nP b m) ≠ 0 := h238
        refine xaload hk dX9_isSame_245 rfl ?_
        refine xiconst (v := 1) hk dX9_isSame_247 (by decide) ?_
        refine xiald hk dX9_isSame_248 hpq (show vp_in (nI 1) (2 + 2 * bF b) from vp_in_nI (by omega) (by omega)) ?_
        rw [show x2.1 (lay.length + 1 + 2 * bF b + 2) (Int32.toNatClampNeg 1) = nI (fb_sm (fun f => nW b m (2 * f)) (bF b)) from (hH.2.2.2 1 (by omega)).trans (by rw [cN_1 hW])]
        refine xi2d hk dX9_isSame_249 ?_
        refine xaload hk dX9_isSame_250 rfl ?_
        refine xiconst (v := 0) hk dX9_isSame_252 (by decide) ?_
        refine xiald hk dX9_isSame_253 hpq (show vp_in (nI 0) (2 + 2 * bF b) from vp_in_nI (by omega) (by omega)) ?_
        rw [show x2.1 (lay.length + 1 + 2 * bF b + 2) (Int32.toNatClampNeg 0) = nI (nP b m) from (hH.2.2.2 0 (by omega)).trans (by rw [cN_0]; rfl)]
        refine xi2d hk dX9_isSame_254 ?_
        refine xddiv hk dX9_isSame_255 (mean_n hnz) ?_
        refine xdcmp hk dX9_isSame_256 ?_
        rw [show mnV b m = FP.ddiv (FP.i2d (nI (fb_sm (fun f => nW b m (2 * f)) (bF b)))) (FP.i2d (nI (nP b m))) from if_neg (fun e => hnz (by rw [e]; rfl)), mean_cmp hnz]
        refine xif_eq hk 262 dX9_isSame_257 (by decide) (fun h257 => ?_) (fun h257 => ?_)
        · exact partE x2 hCx hX hH
        · exact absurd rfl h257
      · have hp0 : nP b m = 0 := (nz_eq (by have := nP_le hW m; omega)).mp h238
        refine xdconst0 hk dX9_isSame_241 ?_
        refine xgoto hk 256 dX9_isSame_242 (by decide) ?_
        refine xdcmp hk dX9_isSame_256 ?_
        rw [show mnV b m = 0 from if_pos hp0, cmp00]
        refine xif_eq hk 262 dX9_isSame_257 (by decide) (fun h257 => ?_) (fun h257 => ?_)
        · exact partE x2 hCx hX hH
        · exact absurd rfl h257
    intro x2 hCx hX hH
    refine xaload_n hk dX9_isSame_188 rfl ?_
    obtain ⟨y189, e189, hCy189⟩ := q_parts hCx
    refine xaskPL (v := .int (nI (pN (bF b) (RB b m)))) hI hk hCy189 (c_X8_parts e189) bX8_parts rfl kX9_116 dX9_isSame_189 rfl rfl (by decide) ⟨by omega, by omega⟩ (Nat.le_of_ble_eq_true rfl) (fun x2 hCx hS => ?_)
    have hX := hX.s48 hq48 hS
    have hH := hH.s48 hn48 hS
    refine xaload hk dX9_isSame_192 rfl ?_
    refine xcallS hk (c_X9_many (n := 2 * bF b) (pt := lst (RB b m)) hpt (by omega) (fun c hc => ⟨hH.2.1 c hc, by have := lst_le (A := RB b m) (show c < 20 by omega) (RR_refl c); omega⟩)) bX9_many kX9_79 dX9_isSame_194 rfl rfl (by decide) ⟨by omega, by omega⟩ (Nat.le_of_ble_eq_true rfl) (det ?_)
    refine xicmp_ne hk 260 dX9_isSame_197 (by decide) (fun h197 => ?_) (fun h197 => ?_)
    · exact absurd rfl h197
    · refine xaload_n hk dX9_isSame_200 rfl ?_
      obtain ⟨y201, e201, hCy201⟩ := q_peaces hCx
      refine xaskPL (v := .int (nI (nP b m))) hI hk hCy201 (c_X8_peaces e201) bX8_peaces rfl kX9_118 dX9_isSame_201 rfl rfl (by decide) ⟨by omega, by omega⟩ (Nat.le_of_ble_eq_true rfl) (fun x2 hCx hS => ?_)
      have hX := hX.s48 hq48 hS
      have hH := hH.s48 hn48 hS
      refine xaload hk dX9_isSame_204 rfl ?_
      refine xiconst (v := 0) hk dX9_isSame_206 (by decide) ?_
      refine xiald hk dX9_isSame_207 hpq (show vp_in (nI 0) (2 + 2 * bF b) from vp_in_nI (by omega) (by omega)) ?_
      rw [show x2.1 (lay.length + 1 + 2 * bF b + 2) (Int32.toNatClampNeg 0) = nI (nP b m) from (hH.2.2.2 0 (by omega)).trans (by rw [cN_0]; rfl)]
      refine xicmp_ne hk 260 dX9_isSame_208 (by decide) (fun h208 => ?_) (fun h208 => ?_)
      · exact absurd rfl h208
      · refine xaload_n hk dX9_isSame_211 rfl ?_
        obtain ⟨y212, e212, hCy212⟩ := q_isPeacePossible hCx
        refine xaskPL (v := .int (b2i (decide (0 < nP b m)))) hI hk hCy212 (c_X8_isPeacePossible e212) bX8_isPeacePossible rfl kX9_119 dX9_isSame_212 rfl rfl (by decide) ⟨by omega, by omega⟩ (Nat.le_of_ble_eq_true rfl) (fun x2 hCx hS => ?_)
        have hX := hX.s48 hq48 hS
        have hH := hH.s48 hn48 hS
        refine xaload hk dX9_isSame_215 rfl ?_
        refine xiconst (v := 0) hk dX9_isSame_217 (by decide) ?_
        refine xiald hk dX9_isSame_218 hpq (show vp_in (nI 0) (2 + 2 * bF b) from vp_in_nI (by omega) (by omega)) ?_
        rw [show x2.1 (lay.length + 1 + 2 * bF b + 2) (Int32.toNatClampNeg 0) = nI (nP b m) from (hH.2.2.2 0 (by omega)).trans (by rw [cN_0]; rfl)]
        refine xif_le hk 226 dX9_isSame_219 (by decide) (fun h219 => ?_) (fun h219 => ?_)
        · have hd : decide (0 < nP b m) = false := decide_eq_false (by have := (nz_le (by have := nP_le hW m; omega)).mp h219; omega)
          refine xiconst (v := 0) hk dX9_isSame_226 (by decide) ?_
          refine xicmp_ne hk 260 dX9_isSame_227 (by decide) (fun h227 => ?_) (fun h227 => ?_)
          · exact absurd (by rw [hd]; rfl) h227
          · exact partD x2 hCx hX hH
        · have hd : decide (0 < nP b m) = true := decide_eq_true (by
            have : ¬ nP b m = 0 := fun e => h219 (by rw [e]; decide)
            omega)
          refine xiconst (v := 1) hk dX9_isSame_222 (by decide) ?_
          refine xgoto hk 227 dX9_isSame_223 (by decide) ?_
          refine xicmp_ne hk 260 dX9_isSame_227 (by decide) (fun h227 => ?_) (fun h227 => ?_)
          · exact absurd (by rw [hd]; rfl) h227
          · exact partD x2 hCx hX hH
  have partB : ∀ (x2 : XS), Cls b m dy ca x2 → SimX x2 q b m dy ca → Wx k 144 864 lay a x2 161 [(0, .ref (a q)), (1, .ref (a 0)), (2, .int (nI (2 * bF b)))] [] := by
    intro x2 hCx hX
    refine xaload_n hk dX9_isSame_161 rfl ?_
    refine xcallVZ hk (q := q) (c_X9_following (dy := dy) (ca := ca) (m := m) hL hW hX hm hC) bX9_following kX9_71 dX9_isSame_162 rfl ⟨_, _, _, _, hL.1, rfl⟩ rfl (by decide) ⟨by omega, by omega⟩ (Nat.le_of_ble_eq_true rfl) (fun v lay3 a3 x3 hv => ?_)
    obtain ⟨rfl, rfl, K3, V3⟩ := hv
    refine xastore_n hk dX9_isSame_165 (by decide) ?_
    refine xaload_n hk dX9_isSame_166 rfl ?_
    refine xcallSZ hk (c_X9_parts (N := 2 * bF b) (V := fun c d => fromD b m c d) (A := RB b m) (folL_cl hC _ _) (by omega) (folL_full lay (2 * bF b)) (fun c hc => folL_row _ _ _ hc) (fun c hc d hd => ⟨V3 c hc d hd, from_iff hW hm hc hd⟩) (fun c => RR_refl c)) bX9_parts kX9_75 dX9_isSame_167 rfl rfl (by decide) ⟨by omega, by omega⟩ (Nat.le_of_ble_eq_true rfl) (fun v lay4 a4 x4 hv => ?_)
    obtain ⟨rfl, rfl, K4, V4⟩ := hv
    have hl2 : (folL lay (2 * bF b) (2 * bF b)).length = lay.length + 1 + 2 * bF b := folL_len _ _ _
    rw [← K3.1 q (by omega), ← K3.1 0 (by omega), ← K4.1 q (by omega), ← K4.1 0 (by omega), ← K4.1 lay.length (by omega)]
    rw [hl2] at V4 ⊢
    have hL4 : SimL (folL lay (2 * bF b) (2 * bF b) ++ [(.inr (0, 2 * bF b) : Kd)]) q b := by
      unfold folL; exact (hL.app.app).app
    have hC4 : Cl (folL lay (2 * bF b) (2 * bF b) ++ [(.inr (0, 2 * bF b) : Kd)]) := (folL_cl hC _ _).appR
    have hX4 : SimX x4 q b m dy ca := hX.of (fun i j h1 h2 => ((K4.2 i (by omega) id j).1).trans (K3.2 i (by omega) id j).1)
    refine xastore hk dX9_isSame_170 (by decide) ?_
    refine xaload_n hk dX9_isSame_172 rfl ?_
    refine xgetI (ci := 9) (f := 0) hk dX9_isSame_173 ⟨rfl, by decide, _, hL4.1, rfl⟩ kX9_19 ?_
    rw [hX4.1.1]
    refine xnewI (N := bF b) hk dX9_isSame_176 (nI_pos (by omega)) (nI_clamp (by omega)) (by show bF b * 4 ≤ _; omega) (by omega) (by omega) (okR_new hC4) (fun a5 ha5 => ?_)
    have hl4 : (folL lay (2 * bF b) (2 * bF b) ++ [(.inr (0, 2 * bF b) : Kd)]).length = lay.length + 1 + 2 * bF b + 1 := by rw [List.length_append, hl2]; rfl
    rw [hl4] at ha5 ⊢
    rw [← ha5 q (by omega), ← ha5 0 (by omega), ← ha5 lay.length (by omega), ← ha5 (lay.length + 1 + 2 * bF b) (by omega)]
    have hc5 : ∀ i, i < lay.length + 1 + 2 * bF b + 1 → ∀ j, (clr x4 (lay.length + 1 + 2 * bF b + 1)).1 i j = x4.1 i j ∧ (clr x4 (lay.length + 1 + 2 * bF b + 1)).2 i j = x4.2 i j := fun i hi j => by have := Nat.ne_of_lt hi; simp [clr, this]
    have hX5 : SimX (clr x4 (lay.length + 1 + 2 * bF b + 1)) q b m dy ca := hX4.of (fun i j h1 h2 => (hc5 i (by omega) j).1)
    refine xastore hk dX9_isSame_178 (by decide) ?_
    refine xaload_n hk dX9_isSame_180 rfl ?_
    refine xaload hk dX9_isSame_181 rfl ?_
    have hat : (folL lay (2 * bF b) (2 * bF b) ++ [(.inr (0, 2 * bF b) : Kd)] ++ [.inr (0, bF b)])[lay.length + 1 + 2 * bF b + 1]? = some (.inr (0, bF b)) := by rw [← hl4]; exact app_n
    refine xcallVZ hk (q := q) (c_X9_peaces (qt := lay.length + 1 + 2 * bF b + 1) (hL4.app) hW hX5 hm hC4.appR hat (Or.inr (by omega))) bX9_peaces kX9_49 dX9_isSame_183 rfl ⟨_, _, _, _, hL4.app.1, rfl⟩ rfl (by decide) ⟨by omega, by omega⟩ (Nat.le_of_ble_eq_true rfl) (fun v lay6 a6 x6 hv => ?_)
    obtain ⟨rfl, rfl, K6, V6, T6⟩ := hv
    have hl5 : (folL lay (2 * bF b) (2 * bF b) ++ [(.inr (0, 2 * bF b) : Kd)] ++ [(.inr (0, bF b) : Kd)]).length = lay.length + 1 + 2 * bF b + 2 := by rw [List.length_append, hl4]; rfl
    rw [hl5] at V6 ⊢
    have K6a : ∀ j, j < lay.length + 1 + 2 * bF b + 2 → a6 j = a5 j := fun j hj => K6.1 j (by omega)
    rw [← K6a q (by omega), ← K6a 0 (by omega), ← K6a lay.length (by omega), ← K6a (lay.length + 1 + 2 * bF b) (by omega), ← K6a (lay.length + 1 + 2 * bF b + 1) (by omega)]
    have hx6 : ∀ i, i < lay.length + 1 + 2 * bF b + 1 → ∀ j, x6.1 i j = x4.1 i j ∧ x6.2 i j = x4.2 i j := fun i hi j => ⟨((K6.2 i (by omega) (by omega) j).1).trans (hc5 i hi j).1, ((K6.2 i (by omega) (by omega) j).2).trans (hc5 i hi j).2⟩
    have hCx6 : Cls b m dy ca x6 := hCx.of (fun i hi j => ⟨((hx6 i (by omega) j).1.trans (K4.2 i (by omega) id j).1).trans (K3.2 i (by omega) id j).1, ((hx6 i (by omega) j).2.trans (K4.2 i (by omega) id j).2).trans (K3.2 i (by omega) id j).2⟩)
    have hX6 : SimX x6 q b m dy ca := hX4.of (fun i j h1 h2 => (hx6 i (by omega) j).1)
    obtain ⟨t, hH⟩ : ∃ t, Hand x6 lay.length b m t := by
      have h1 : ∀ c, c < 2 * bF b → ∀ d, d < 2 * bF b → x6.1 (lay.length + 1 + c) d = nI (fromD b m c d) := fun c hc d hd => by rw [(hx6 _ (by omega) d).1, (K4.2 _ (by omega) id d).1]; exact V3 c hc d hd
      have h2 : ∀ c, c < 2 * bF b → x6.1 (lay.length + 1 + 2 * bF b) c = nI (lst (RB b m) c) := fun c hc => by rw [(hx6 _ (by omega) c).1]; exact V4 c hc
      by_cases hp : nP b m = 0
      · exact ⟨0, h1, h2, fun h => absurd hp h, V6⟩
      · obtain ⟨t, t1, t2⟩ := T6 (by rw [cN_0]; exact hp)
        exact ⟨t, h1, h2, fun _ => ⟨t1, t2⟩, V6⟩
    have hLn : SimL (folL lay (2 * bF b) (2 * bF b) ++ [(.inr (0, 2 * bF b) : Kd)] ++ [.inr (0, bF b)] ++ [.inr (0, 2 + 2 * bF b)]) q b := hL4.app.app
    have hIn : IsL (folL lay (2 * bF b) (2 * bF b) ++ [(.inr (0, 2 * bF b) : Kd)] ++ [.inr (0, bF b)] ++ [.inr (0, 2 + 2 * bF b)]) := by
      have hI := hI
      unfold folL; exact hI.app.app.app.app.app
    have hf : (folL lay (2 * bF b) (2 * bF b) ++ [(.inr (0, 2 * bF b) : Kd)] ++ [.inr (0, bF b)] ++ [.inr (0, 2 + 2 * bF b)])[lay.length]? = some (.inl (103, rowsK (lay.length + 1) (2 * bF b))) := app_o (app_o (app_o (folL_full lay (2 * bF b))))
    have hr : ∀ c, c < 2 * bF b → (folL lay (2 * bF b) (2 * bF b) ++ [(.inr (0, 2 * bF b) : Kd)] ++ [.inr (0, bF b)] ++ [.inr (0, 2 + 2 * bF b)])[lay.length + 1 + c]? = some (.inr (0, 2 * bF b)) := fun c hc => app_o (app_o (app_o (folL_row _ _ _ hc)))
    have hpt : (folL lay (2 * bF b) (2 * bF b) ++ [(.inr (0, 2 * bF b) : Kd)] ++ [.inr (0, bF b)] ++ [.inr (0, 2 + 2 * bF b)])[lay.length + 1 + 2 * bF b]? = some (.inr (0, 2 * bF b)) := by rw [← hl2]; exact app_o (app_o app_n)
    have htt : (folL lay (2 * bF b) (2 * bF b) ++ [(.inr (0, 2 * bF b) : Kd)] ++ [.inr (0, bF b)] ++ [.inr (0, 2 + 2 * bF b)])[lay.length + 1 + 2 * bF b + 1]? = some (.inr (0, bF b)) := app_o hat
    have hpq : (folL lay (2 * bF b) (2 * bF b) ++ [(.inr (0, 2 * bF b) : Kd)] ++ [.inr (0, bF b)] ++ [.inr (0, 2 + 2 * bF b)])[lay.length + 1 + 2 * bF b + 2]? = some (.inr (0, 2 + 2 * bF b)) := by rw [← hl5]; exact app_n
    refine xastore hk dX9_isSame_186 (by decide) ?_
    refine xwiden (c2 := 160) (s2 := 1010) (by omega) (by omega) ?_
    clear K3 V3 K4 V4 ha5 hc5 hX5 hat K6 V6 T6 K6a hx6 hX4 hL4 hC4 hl2 hl4 hl5 hCx hX
    generalize folL lay (2 * bF b) (2 * bF b) ++ [(.inr (0, 2 * bF b) : Kd)] ++ [.inr (0, bF b)] ++ [.inr (0, 2 + 2 * bF b)] = lay6 at hLn hIn hf hr hpt htt hpq ⊢
    have hcm := partC lay6 a6 t hLn hIn hf hr hpt htt hpq x6 hCx6 hX6 hH
    exact xsub [(0, _), (1, _), (2, _), (3, _), (4, _), (5, _), (6, _)] rfl hcm
  have loopA : ∀ (z t : Nat) (x2 : XS), bS b - t < z → t ≤ bS b → Cls b m dy ca x2 → Same48 x x2 → Wx k (12 * t) (72 * t) lay a x2 79 [(0, .ref (a q)), (1, .ref (a 0)), (2, .int (nI (2 * bF b))), (3, .int (nI t))] [] := by
    intro z
    induction z with
    | zero => intro t x2 h; omega
    | succ z ih =>
      intro t x2 hz ht hCx hXX
      have hX := hX.s48 hq48 hXX
      refine xiload_n hk dX9_isSame_79 rfl ?_
      refine xaload_n hk dX9_isSame_80 rfl ?_
      refine xgetR (ci := 9) (f := 1) hk dX9_isSame_81 ⟨rfl, by decide, _, hL.1, rfl⟩ kX9_9 ?_
      refine xalenR (v := nI (bS b)) hk dX9_isSame_84 hL.2.1 (by rw [rows_len]; rfl) ?_
      refine xicmp_ge hk 161 dX9_isSame_85 (by decide) (fun h85 => ?_) (fun h85 => ?_)
      · have hte : t = bS b := Nat.le_antisymm ht ((nI_leq (by omega) (by omega)).mp h85)
        refine xwiden (c2 := 144) (s2 := 864) (by omega) (by omega) ?_
        exact xsub [(0, _), (1, _), (2, _)] rfl (partB x2 hCx hX)
      · have htl : t < bS b := Nat.not_le.mp (fun u => h85 ((nI_leq (by omega) (by omega)).mpr u))
        refine xaload_n hk dX9_isSame_88 rfl ?_
        refine xgetR (ci := 9) (f := 1) hk dX9_isSame_89 ⟨rfl, by decide, _, hL.1, rfl⟩ kX9_9 ?_
        refine xiload_n hk dX9_isSame_92 rfl ?_
        refine xaald (j := q + 3 + t) hk dX9_isSame_93 hL.2.1 (rows_in htl (by omega)) (rows_at htl (by omega)) ?_
        refine xastore hk dX9_isSame_94 (by decide) ?_
        refine xaload_n hk dX9_isSame_96 rfl ?_
        refine xiload_n hk dX9_isSame_97 rfl ?_
        refine xaskL hI hk (q_kindOf hCx htl) (fun u e => c_X8_kindOf hfl e) bX8_kindOf rfl kX9_103 dX9_isSame_98 rfl rfl (by decide) ⟨by omega, by omega⟩ (Nat.le_of_ble_eq_true rfl) (fun x2 hCx hS => ?_)
        have hX := hX.s48 hq48 hS
        have hXX := hXX.tr hS
        refine xaload hk dX9_isSame_101 rfl ?_
        refine xiconst (v := 0) hk dX9_isSame_103 (by decide) ?_
        refine xiald hk dX9_isSame_104 (hL.2.2.2.1 t htl) (show vp_in (nI 0) 4 from vp_in_nI (by decide) (by decide)) ?_
        rw [show x2.1 (q + 3 + t) (Int32.toNatClampNeg 0) = nI (bk b t) from (hX.2.1 t htl).1]
        refine xicmp_ne hk 153 dX9_isSame_105 (by decide) (fun h105 => ?_) (fun h105 => ?_)
        · exact absurd rfl h105
        · refine xaload_n hk dX9_isSame_108 rfl ?_
          refine xiload_n hk dX9_isSame_109 rfl ?_
          refine xaskL hI hk (q_first hCx htl) (fun u e => c_X8_firstClaimOf hfl e) bX8_firstClaimOf rfl kX9_106 dX9_isSame_110 rfl rfl (by decide) ⟨by omega, by omega⟩ (Nat.le_of_ble_eq_true rfl) (fun x2 hCx hS => ?_)
          have hX := hX.s48 hq48 hS
          have hXX := hXX.tr hS
          refine xaload hk dX9_isSame_113 rfl ?_
          refine xiconst (v := 1) hk dX9_isSame_115 (by decide) ?_
          refine xiald hk dX9_isSame_116 (hL.2.2.2.1 t htl) (show vp_in (nI 1) 4 from vp_in_nI (by decide) (by decide)) ?_
          rw [show x2.1 (q + 3 + t) (Int32.toNatClampNeg 1) = nI (b1 b t) from (hX.2.1 t htl).2.1]
          refine xicmp_ne hk 153 dX9_isSame_117 (by decide) (fun h117 => ?_) (fun h117 => ?_)
          · exact absurd rfl h117
          · refine xaload_n hk dX9_isSame_120 rfl ?_
            refine xiload_n hk dX9_isSame_121 rfl ?_
            refine xaskL hI hk (q_second hCx htl) (fun u e => c_X8_secondClaimOf hfl e) bX8_secondClaimOf rfl kX9_109 dX9_isSame_122 rfl rfl (by decide) ⟨by omega, by omega⟩ (Nat.le_of_ble_eq_true rfl) (fun x2 hCx hS => ?_)
            have hX := hX.s48 hq48 hS
            have hXX := hXX.tr hS
            refine xaload hk dX9_isSame_125 rfl ?_
            refine xiconst (v := 2) hk dX9_isSame_127 (by decide) ?_
            refine xiald hk dX9_isSame_128 (hL.2.2.2.1 t htl) (show vp_in (nI 2) 4 from vp_in_nI (by decide) (by decide)) ?_
            rw [show x2.1 (q + 3 + t) (Int32.toNatClampNeg 2) = nI (b2 b t) from (hX.2.1 t htl).2.2.1]
            refine xicmp_ne hk 153 dX9_isSame_129 (by decide) (fun h129 => ?_) (fun h129 => ?_)
            · exact absurd rfl h129
            · refine xaload_n hk dX9_isSame_132 rfl ?_
              refine xiload_n hk dX9_isSame_133 rfl ?_
              refine xaskL hI hk (q_stands hCx htl) (fun u e => c_X8_stands hfl e) bX8_stands rfl kX9_112 dX9_isSame_134 rfl rfl (by decide) ⟨by omega, by omega⟩ (Nat.le_of_ble_eq_true rfl) (fun x2 hCx hS => ?_)
              have hX := hX.s48 hq48 hS
              have hXX := hXX.tr hS
              refine xaload hk dX9_isSame_137 rfl ?_
              refine xiconst (v := 3) hk dX9_isSame_139 (by decide) ?_
              refine xiald hk dX9_isSame_140 (hL.2.2.2.1 t htl) (show vp_in (nI 3) 4 from vp_in_nI (by decide) (by decide)) ?_
              rw [show x2.1 (q + 3 + t) (Int32.toNatClampNeg 3) = b2i (m.testBit t) from (hX.2.1 t htl).2.2.2]
              refine xiconst (v := 1) hk dX9_isSame_141 (by decide) ?_
              refine xicmp_ne hk 149 dX9_isSame_142 (by decide) (fun h142 => ?_) (fun h142 => ?_)
              · cases hbb : m.testBit t with
                | true => rw [hbb] at h142; exact absurd rfl h142
                | false =>
                  refine xiconst (v := 0) hk dX9_isSame_149 (by decide) ?_
                  refine xicmp_eq hk 155 dX9_isSame_150 (by decide) (fun h150 => ?_) (fun h150 => ?_)
                  · refine xiinc (v := nI (t + 1)) hk dX9_isSame_155 rfl (by decide) (nI_inc t) ?_
                    refine xgoto hk 79 dX9_isSame_158 (by decide) ?_
                    refine xsub [(0, _), (1, _), (2, _), (3, _)] rfl ?_
                    exact xwiden (by omega) (by omega) (ih (t + 1) x2 (by omega) (by omega) hCx hXX)
                  · exact absurd rfl h150
              · cases hbb : m.testBit t with
                | false => rw [hbb] at h142; exact absurd h142 (by decide)
                | true =>
                  refine xiconst (v := 1) hk dX9_isSame_145 (by decide) ?_
                  refine xgoto hk 150 dX9_isSame_146 (by decide) ?_
                  refine xicmp_eq hk 155 dX9_isSame_150 (by decide) (fun h150 => ?_) (fun h150 => ?_)
                  · refine xiinc (v := nI (t + 1)) hk dX9_isSame_155 rfl (by decide) (nI_inc t) ?_
                    refine xgoto hk 79 dX9_isSame_158 (by decide) ?_
                    refine xsub [(0, _), (1, _), (2, _), (3, _)] rfl ?_
                    exact xwiden (by omega) (by omega) (ih (t + 1) x2 (by omega) (by omega) hCx hXX)
                  · exact absurd rfl h150
  have start : ∀ (x2 : XS), Cls b m dy ca x2 → SimX x2 q b m dy ca → Same48 x x2 → Wx k 0 0 lay a x2 0 (lv_args 0 [.ref (a q), .ref (a 0)]) [] := by
    intro x2 hCx hX hXX
    refine xiconst (v := 2) hk dX9_isSame_0 (by decide) ?_
    refine xaload_n hk dX9_isSame_1 rfl ?_
    refine xgetI (ci := 9) (f := 0) hk dX9_isSame_2 ⟨rfl, by decide, _, hL.1, rfl⟩ kX9_19 ?_
    rw [hX.1.1]
    refine ximul hk dX9_isSame_5 ?_
    rw [show (2 : Int32) = nI 2 from rfl, mul_nI]
    refine xistore_n hk dX9_isSame_6 (by decide) ?_
    refine xaload_n hk dX9_isSame_7 rfl ?_
    obtain ⟨y8, e8, hCy8⟩ := q_families hCx
    refine xaskPL (v := .int (nI (bF b))) hI hk hCy8 (c_X8_families e8) bX8_families rfl kX9_89 dX9_isSame_8 rfl rfl (by decide) ⟨by omega, by omega⟩ (Nat.le_of_ble_eq_true rfl) (fun x2 hCx hS => ?_)
    have hX := hX.s48 hq48 hS
    have hXX := hXX.tr hS
    refine xaload_n hk dX9_isSame_11 rfl ?_
    refine xgetI (ci := 9) (f := 0) hk dX9_isSame_12 ⟨rfl, by decide, _, hL.1, rfl⟩ kX9_19 ?_
    rw [hX.1.1]
    refine xicmp_ne hk 75 dX9_isSame_15 (by decide) (fun h15 => ?_) (fun h15 => ?_)
    · exact absurd rfl h15
    · refine xaload_n hk dX9_isSame_18 rfl ?_
      obtain ⟨y19, e19, hCy19⟩ := q_statements hCx
      refine xaskPL (v := .int (nI (bS b))) hI hk hCy19 (c_X8_statements e19) bX8_statements rfl kX9_93 dX9_isSame_19 rfl rfl (by decide) ⟨by omega, by omega⟩ (Nat.le_of_ble_eq_true rfl) (fun x2 hCx hS => ?_)
      have hX := hX.s48 hq48 hS
      have hXX := hXX.tr hS
      refine xaload_n hk dX9_isSame_22 rfl ?_
      refine xgetR (ci := 9) (f := 1) hk dX9_isSame_23 ⟨rfl, by decide, _, hL.1, rfl⟩ kX9_9 ?_
      refine xalenR (v := nI (bS b)) hk dX9_isSame_26 hL.2.1 (by rw [rows_len]; rfl) ?_
      refine xicmp_ne hk 75 dX9_isSame_27 (by decide) (fun h27 => ?_) (fun h27 => ?_)
      · exact absurd rfl h27
      · refine xaload_n hk dX9_isSame_30 rfl ?_
        obtain ⟨y31, e31, hCy31⟩ := q_orders hCx
        refine xaskPL (v := .int (nI (bM b))) hI hk hCy31 (c_X8_orders e31) bX8_orders rfl kX9_95 dX9_isSame_31 rfl rfl (by decide) ⟨by omega, by omega⟩ (Nat.le_of_ble_eq_true rfl) (fun x2 hCx hS => ?_)
        have hX := hX.s48 hq48 hS
        have hXX := hXX.tr hS
        refine xaload_n hk dX9_isSame_34 rfl ?_
        refine xgetR (ci := 9) (f := 2) hk dX9_isSame_35 ⟨rfl, by decide, _, hL.1, rfl⟩ kX9_15 ?_
        refine xalenR (v := nI (bM b)) hk dX9_isSame_38 hL.2.2.1 (by rw [rows_len]; rfl) ?_
        refine xicmp_ne hk 75 dX9_isSame_39 (by decide) (fun h39 => ?_) (fun h39 => ?_)
        · exact absurd rfl h39
        · refine xaload_n hk dX9_isSame_42 rfl ?_
          obtain ⟨y43, e43, hCy43⟩ := q_days hCx
          refine xaskPL (v := .int (nI dy)) hI hk hCy43 (c_X8_days e43) bX8_days rfl kX9_97 dX9_isSame_43 rfl rfl (by decide) ⟨by omega, by omega⟩ (Nat.le_of_ble_eq_true rfl) (fun x2 hCx hS => ?_)
          have hX := hX.s48 hq48 hS
          have hXX := hXX.tr hS
          refine xaload_n hk dX9_isSame_46 rfl ?_
          refine xgetI (ci := 9) (f := 3) hk dX9_isSame_47 ⟨rfl, by decide, _, hL.1, rfl⟩ kX9_23 ?_
          rw [hX.1.2.1]
          refine xicmp_ne hk 75 dX9_isSame_50 (by decide) (fun h50 => ?_) (fun h50 => ?_)
          · exact absurd rfl h50
          · refine xaload_n hk dX9_isSame_53 rfl ?_
            obtain ⟨y54, e54, hCy54⟩ := q_carried hCx
            refine xaskPL (v := .int (nI ca)) hI hk hCy54 (c_X8_ordersCarriedOut e54) bX8_ordersCarriedOut rfl kX9_99 dX9_isSame_54 rfl rfl (by decide) ⟨by omega, by omega⟩ (Nat.le_of_ble_eq_true rfl) (fun x2 hCx hS => ?_)
            have hX := hX.s48 hq48 hS
            have hXX := hXX.tr hS
            refine xaload_n hk dX9_isSame_57 rfl ?_
            refine xgetI (ci := 9) (f := 4) hk dX9_isSame_58 ⟨rfl, by decide, _, hL.1, rfl⟩ kX9_26 ?_
            rw [hX.1.2.2]
            refine xicmp_ne hk 75 dX9_isSame_61 (by decide) (fun h61 => ?_) (fun h61 => ?_)
            · exact absurd rfl h61
            · refine xaload_n hk dX9_isSame_64 rfl ?_
              obtain ⟨y65, e65, hCy65⟩ := q_standing hCx
              refine xaskPL (v := .int (nI (nS b m))) hI hk hCy65 (c_X8_standing e65) bX8_standing rfl kX9_102 dX9_isSame_65 rfl rfl (by decide) ⟨by omega, by omega⟩ (Nat.le_of_ble_eq_true rfl) (fun x2 hCx hS => ?_)
              have hX := hX.s48 hq48 hS
              have hXX := hXX.tr hS
              refine xaload_n hk dX9_isSame_68 rfl ?_
              refine xcallV hk (c_X9_standing hL hW hX) bX9_standing kX9_67 dX9_isSame_69 rfl ⟨_, _, _, _, hL.1, rfl⟩ rfl (by decide) ⟨by omega, by omega⟩ (Nat.le_of_ble_eq_true rfl) (det ?_)
              refine xicmp_eq hk 77 dX9_isSame_72 (by decide) (fun h72 => ?_) (fun h72 => ?_)
              · refine xiconst (v := 0) hk dX9_isSame_77 (by decide) ?_
                refine xistore_n hk dX9_isSame_78 (by decide) ?_
                exact loopA (bS b + 1) 0 x2 (by omega) (Nat.zero_le _) hCx hXX
              · exact absurd rfl h72
  exact start x hCx hX (fun _ _ _ => ⟨rfl, rfl⟩)
