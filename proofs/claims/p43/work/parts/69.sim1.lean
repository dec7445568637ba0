theorem kX9_9 : Cond.fieldLink RX9 9 "FeudBookLaw$Sim" "statements" "[[I" ∈ GW := gw_mem 1144 (by decide +kernel) (by decide +kernel)
/-! The book by hand: what it is, where its cells lie -/
/-- families, statements, their kinds, first and second claims, orders, their six numbers -/
abbrev Bok : Type := Nat × Nat × (Nat → Nat) × (Nat → Nat) × (Nat → Nat) × Nat × (Nat → Nat → Nat)
def bF (b : Bok) : Nat := b.1
def bS (b : Bok) : Nat := b.2.1
def bk (b : Bok) : Nat → Nat := b.2.2.1
def b1 (b : Bok) : Nat → Nat := b.2.2.2.1
def b2 (b : Bok) : Nat → Nat := b.2.2.2.2.1
def bM (b : Bok) : Nat := b.2.2.2.2.2.1
def bo (b : Bok) : Nat → Nat → Nat := b.2.2.2.2.2.2
/-- a statement's two claims of which one holds in each peace -/
def bl (b : Bok) (k : Nat) : Nat := if bk b k = 0 ∨ bk b k = 2 then b1 b k ^^^ 1 else b1 b k
def br (b : Bok) (k : Nat) : Nat := if bk b k = 2 then b2 b k ^^^ 1 else b2 b k
def BW (b : Bok) : Prop := (1 ≤ bF b ∧ bF b ≤ 5) ∧ bS b ≤ 12 ∧ (∀ k, k < bS b → bk b k < 4 ∧ b1 b k < 2 * bF b ∧ b2 b k < 2 * bF b ∧ (bk b k = 3 → b2 b k = b1 b k)) ∧ bM b ≤ 5 ∧ ∀ k, k < bM b → (bo b k 0 = 1 ∨ bo b k 0 = 2) ∧ bo b k 1 < bS b ∧ bo b k 2 < 6 ∧ bo b k 3 < 21 ∧ bo b k 4 < bS b ∧ bo b k 5 < 8
def rowsK (q n : Nat) : List Nat := (List.range n).map (fun k => q + k + 3)
def SimL (lay : List Kd) (q : Nat) (b : Bok) : Prop := lay[q]? = some (.inl (9, [0, q + 1 + 3, q + 2 + 3, 0, 0])) ∧ lay[q + 1]? = some (.inl (103, rowsK (q + 3) (bS b))) ∧ lay[q + 2]? = some (.inl (103, rowsK (q + 3 + bS b) (bM b))) ∧ (∀ k, k < bS b → lay[q + 3 + k]? = some (.inr (0, 4))) ∧ ∀ k, k < bM b → lay[q + 3 + bS b + k]? = some (.inr (0, 6))
def SimX (x : XS) (q : Nat) (b : Bok) (m dy ca : Nat) : Prop := (x.1 q 0 = nI (bF b) ∧ x.1 q 3 = nI dy ∧ x.1 q 4 = nI ca) ∧ (∀ k, k < bS b → x.1 (q + 3 + k) 0 = nI (bk b k) ∧ x.1 (q + 3 + k) 1 = nI (b1 b k) ∧ x.1 (q + 3 + k) 2 = nI (b2 b k) ∧ x.1 (q + 3 + k) 3 = b2i (m.testBit k)) ∧ ∀ k, k < bM b → ∀ j, j < 6 → x.1 (q + 3 + bS b + k) j = nI (bo b k j)
theorem rows_at {q n k : Nat} (h : k < n) (hn : n < 2 ^ 31) : (rowsK q n)[(nI k).toNatClampNeg]? = some (q + k + 3) := by
  rw [nI_clamp (by omega), rowsK, List.getElem?_map, List.getElem?_range h]; rfl
theorem rows_len (q n : Nat) : (rowsK q n).length = n := by rw [rowsK, List.length_map, List.length_range]
theorem rows_in {q n k : Nat} (h : k < n) (hn : n < 2 ^ 31) : vp_in (nI k) (rowsK q n).length := by rw [rows_len]; exact vp_in_nI h hn
theorem SimX.of {x y : XS} {q : Nat} {b : Bok} {m dy ca : Nat} (h : SimX x q b m dy ca) (e : ∀ i j, q ≤ i → i < q + 3 + bS b + bM b → y.1 i j = x.1 i j) : SimX y q b m dy ca := by
  obtain ⟨⟨h0, h3, h4⟩, hs, ho⟩ := h
  exact ⟨⟨by rw [e _ _ (by omega) (by omega)]; exact h0, by rw [e _ _ (by omega) (by omega)]; exact h3, by rw [e _ _ (by omega) (by omega)]; exact h4⟩, fun k hk => by rw [e _ _ (by omega) (by omega), e _ _ (by omega) (by omega), e _ _ (by omega) (by omega), e _ _ (by omega) (by omega)]; exact hs k hk, fun k hk j hj => by rw [e _ _ (by omega) (by omega)]; exact ho k hk j hj⟩
theorem ct_b2i (p : Nat → Bool) (j : Nat) : nI (fb_ct p j) + b2i (p j) = nI (fb_ct p (j + 1)) := by
  rw [fb_ct_succ]
  cases p j
  · show nI _ + 0 = _
    exact nI_add _ 0
  · show nI _ + 1 = _
    exact nI_add _ 1
theorem half20b : ∀ c, c < 20 → nI c / 2 = nI (c / 2) ∧ nI c - nI c / 2 * 2 = nI (c % 2) := by decide +kernel
theorem holds_not : ∀ c, c < 20 → ∀ p, holdsP p (c ^^^ 1) = !holdsP p c := by
  intro c hc p
  have h : (c ^^^ 1) / 2 = c / 2 ∧ decide ((c ^^^ 1) % 2 = 0) = !decide (c % 2 = 0) := by
    revert c; decide +kernel
  unfold holdsP
  rw [h.1, h.2]
  cases p.testBit (c / 2) <;> cases decide (c % 2 = 0) <;> rfl
def oppN (c : Nat) : Nat := if c % 2 = 0 then c + 1 else c - 1
theorem opp_x : ∀ c, c < 20 → oppN c = c ^^^ 1 := by decide +kernel

set_option maxHeartbeats 4000000 in
set_option maxRecDepth 100000 in
theorem c_X9_standing {g : Gx} {a : Nat → Nat} {x : XS} {lay : List Kd} {q : Nat} {b : Bok} {m dy ca : Nat} (hL : SimL lay q b) (hW : BW b) (hX : SimX x q b m dy ca) : Mx g yX9_standing cX9_standing 6 (some .int) 1 0 0 lay a x [.ref (a q)] (pr (some (.int (nI (fb_ct m.testBit (bS b))))) x) := by
  refine Mx_of (by decide +kernel) (Nat.le_of_ble_eq_true rfl) ?_
  intro k hk he hg
  subst hg

  have hS := hW.2.1
  have loop : ∀ (n j : Nat) (v : Int32), bS b - j < n → v = nI j → j ≤ bS b → Wx k 0 0 lay a x 13 [(0, .ref (a q)), (1, .int (nI (fb_ct m.testBit j))), (2, .ref (a (q + 1))), (3, .int (nI (bS b))), (4, .int v)] [] := by
    intro n
    induction n with
    | zero => intro j v h; omega
    | succ n ih =>
      intro j v hn hv hj
      subst hv
      refine xiload hk dX9_standing_13 rfl ?_
      refine xiload_n hk dX9_standing_15 rfl ?_
      refine xicmp_ge hk 38 dX9_standing_16 (by decide) (fun h16 => ?_) (fun h16 => ?_)
      · rw [nI_leI (by omega) (by omega)] at h16
        obtain rfl : j = bS b := by omega
        refine xiload_n hk dX9_standing_38 rfl ?_
        refine xiret hk he dX9_standing_39 ⟨by decide, by decide⟩ ?_
        exact ⟨rfl, rfl⟩
      · rw [nI_leI (by omega) (by omega)] at h16
        have hj2 : j < bS b := by omega
        refine xaload_n hk dX9_standing_19 rfl ?_
        refine xiload hk dX9_standing_20 rfl ?_
        refine xaald hk dX9_standing_22 hL.2.1 (rows_in hj2 (by omega)) (rows_at hj2 (by omega)) ?_
        refine xastore hk dX9_standing_23 (by decide) ?_
        refine xiload_n hk dX9_standing_25 rfl ?_
        refine xaload hk dX9_standing_26 rfl ?_
        refine xiconst (v := 3) hk dX9_standing_28 (by decide) ?_
        refine xiald hk dX9_standing_29 (hL.2.2.2.1 j hj2) (show vp_in (nI 3) 4 from vp_in_nI (by decide) (by decide)) ?_
        rw [show (3 : Int32).toNatClampNeg = 3 from rfl, (hX.2.1 j hj2).2.2.2]
        refine xiadd hk dX9_standing_30 ?_
        refine xistore_n hk dX9_standing_31 (by decide) ?_
        refine xiinc hk dX9_standing_32 rfl (by decide) rfl ?_
        refine xgoto hk 13 dX9_standing_35 (by decide) ?_
        refine xsub [(0, _), (1, _), (2, _), (3, _), (4, _)] rfl ?_
        rw [ct_b2i]
        exact ih (j + 1) _ (by omega) (nI_inc j) (by omega)
  refine xiconst (v := 0) hk dX9_standing_0 (by decide) ?_
  refine xistore_n hk dX9_standing_1 (by decide) ?_
  refine xaload_n hk dX9_standing_2 rfl ?_
  refine xgetR (ci := 9) (f := 1) (j := q + 1) hk dX9_standing_3 ⟨rfl, by decide, _, hL.1, rfl⟩ kX9_9 ?_
  refine xastore_n hk dX9_standing_6 (by decide) ?_
  refine xaload_n hk dX9_standing_7 rfl ?_
  refine xalenR (v := nI (bS b)) hk dX9_standing_8 hL.2.1 (by rw [rows_len]; rfl) ?_
  refine xistore_n hk dX9_standing_9 (by decide) ?_
  refine xiconst (v := 0) hk dX9_standing_10 (by decide) ?_
  refine xistore hk dX9_standing_11 (by decide) ?_
  refine xsub [(0, _), (1, _), (2, _), (3, _), (4, _)] rfl ?_
  exact loop _ 0 _ (Nat.lt_succ_self _) rfl (by omega)
theorem holds_v1 {p c : Nat} (h : ¬ b2i (!p.testBit (c / 2)) = nI (c % 2)) : holdsP p c = false := by
  unfold holdsP
  have h2 : c % 2 = 0 ∨ c % 2 = 1 := by omega
  rcases h2 with h2 | h2 <;> rw [h2] at h ⊢ <;> cases hb : p.testBit (c / 2) <;> rw [hb] at h <;> first | rfl | exact absurd rfl h
theorem holds_v2 {p c : Nat} (h : b2i (!p.testBit (c / 2)) = nI (c % 2)) : holdsP p c = true := by
  unfold holdsP
  have h2 : c % 2 = 0 ∨ c % 2 = 1 := by omega
  rcases h2 with h2 | h2 <;> rw [h2] at h ⊢ <;> cases hb : p.testBit (c / 2) <;> rw [hb] at h <;> first | rfl | exact absurd h (by decide)
set_option maxHeartbeats 4000000 in
set_option maxRecDepth 100000 in
theorem c_X9_holds {g : Gx} {a : Nat → Nat} {x : XS} {lay : List Kd} {qd n p c : Nat} (hd : lay[qd]? = some (.inr (0, n))) (hc : c < 20) (hn : c / 2 < n) (hx : x.1 qd (c / 2) = b2i (!p.testBit (c / 2))) : Mx g yX9_holds cX9_holds 2 (some .boolean) 1 0 0 lay a x [.ref (a qd), .int (nI c)] (pr (some (.int (b2i (holdsP p c)))) x) := by
  refine Mx_of (by decide +kernel) (Nat.le_of_ble_eq_true rfl) ?_
  intro k hk he hg
  subst hg

  refine xaload_n hk dX9_holds_0 rfl ?_
  refine xiload_n hk dX9_holds_1 rfl ?_
  refine xiconst (v := 2) hk dX9_holds_2 (by decide) ?_
  refine xidiv hk dX9_holds_3 (by decide) ?_
  rw [(half20b c hc).1]
  refine xiald hk dX9_holds_4 hd (by unfold vp_in; rw [nI_clamp (by omega)]; exact fun z => z.elim (nI_pos (by omega)) (by omega)) ?_
  rw [nI_clamp (by omega), hx]
  refine xiload_n hk dX9_holds_5 rfl ?_
  refine xiconst (v := 2) hk dX9_holds_6 (by decide) ?_
  refine xirem hk dX9_holds_7 (by decide) ?_
  rw [(half20b c hc).2]
  refine xicmp_ne hk 15 dX9_holds_8 (by decide) (fun h8 => ?_) (fun h8 => ?_)
  · refine xiconst (v := 0) hk dX9_holds_15 (by decide) ?_
    refine xzret hk he dX9_holds_16 ⟨by decide, by decide⟩ rfl ?_
    first | exact ⟨by rw [holds_v1 h8]; rfl, rfl⟩ | exact ⟨by rw [holds_v2 h8]; rfl, rfl⟩
  · refine xiconst (v := 1) hk dX9_holds_11 (by decide) ?_
    refine xgoto hk 16 dX9_holds_12 (by decide) ?_
    refine xzret hk he dX9_holds_16 ⟨by decide, by decide⟩ rfl ?_
    first | exact ⟨by rw [holds_v1 h8]; rfl, rfl⟩ | exact ⟨by rw [holds_v2 h8]; rfl, rfl⟩
theorem opp_end : ∀ {c : Nat}, c < 20 → (some (Value.int (nI (c ^^^ 1))) : Option Value) = if c % 2 = 0 then some (.int (nI c + 1)) else some (.int (nI c - 1)) := by
  intro c hc
  have h : nI (c ^^^ 1) = if c % 2 = 0 then nI c + 1 else nI c - 1 := by revert c; decide +kernel
  rw [h]; split <;> rfl
set_option maxHeartbeats 4000000 in
set_option maxRecDepth 100000 in
theorem c_X9_opposite {g : Gx} {a : Nat → Nat} {x : XS} {lay : List Kd} {c : Nat} (hc : c < 20) : Mx g yX9_opposite cX9_opposite 1 (some .int) 1 0 0 lay a x [.int (nI c)] (pr (some (.int (nI (c ^^^ 1)))) x) := by
  refine Mx_of (by decide +kernel) (Nat.le_of_ble_eq_true rfl) ?_
  intro k hk he hg
  subst hg

  refine xiload_n hk dX9_opposite_0 rfl ?_
  refine xiconst (v := 2) hk dX9_opposite_1 (by decide) ?_
  refine xirem hk dX9_opposite_2 (by decide) ?_
  rw [(half20b c hc).2]
  refine xif_ne hk 12 dX9_opposite_3 (by decide) (fun h3 => ?_) (fun h3 => ?_)
  · rw [show (0 : Int32) = nI 0 from rfl, nI_eq (by omega) (by decide)] at h3
    refine xiload_n hk dX9_opposite_12 rfl ?_
    refine xiconst (v := 1) hk dX9_opposite_13 (by decide) ?_
    refine xisub hk dX9_opposite_14 ?_
    refine xiret hk he dX9_opposite_15 ⟨by decide, by decide⟩ ?_
    exact ⟨by rw [opp_end hc]; first | (rw [if_pos h3]; done) | (rw [if_neg h3]; done), rfl⟩
  · rw [show (0 : Int32) = nI 0 from rfl, nI_eq (by omega) (by decide)] at h3
    refine xiload_n hk dX9_opposite_6 rfl ?_
    refine xiconst (v := 1) hk dX9_opposite_7 (by decide) ?_
    refine xiadd hk dX9_opposite_8 ?_
    refine xgoto hk 15 dX9_opposite_9 (by decide) ?_
    refine xiret hk he dX9_opposite_15 ⟨by decide, by decide⟩ ?_
    exact ⟨by rw [opp_end hc]; first | (rw [if_pos h3]; done) | (rw [if_neg h3]; done), rfl⟩
