theorem kX10_150 : Cond.fieldLinkNest RX10 150 "FeudBookModel$Plan" "orders" "I" "FeudBookModel" ∈ NW := nw_mem 1144 (by decide +kernel) rfl
theorem kX10_153 : Cond.methodLink RX10 153 yX10_isDue ∈ GW := gw_mem 1750 (by decide +kernel) (by decide +kernel)
theorem bX10_isDue : CBv yX10_isDue cX10_isDue 2 (some .boolean) 1 := ⟨⟨gw_mem 1753 (by decide +kernel) (by decide +kernel), gw_mem 14 (by decide +kernel) (by decide +kernel), by decide +kernel, by decide⟩, gw_mem 1752 (by decide +kernel) (by decide +kernel), gw_sel 108 (by decide +kernel) (by decide +kernel)⟩
theorem kX10_157 : Cond.methodLink RX10 157 yX10_order ∈ GW := gw_mem 1773 (by decide +kernel) (by decide +kernel)
theorem bX10_order : CBv yX10_order cX10_order 4 (some .boolean) 1 := ⟨⟨gw_mem 1776 (by decide +kernel) (by decide +kernel), gw_mem 14 (by decide +kernel) (by decide +kernel), by decide +kernel, by decide⟩, gw_mem 1775 (by decide +kernel) (by decide +kernel), gw_sel 112 (by decide +kernel) (by decide +kernel)⟩
def mstepO (j : Nat) (x : XS) : Option XS := match mdueO (nI j) x with
  | none => none
  | some u => if u.1 then (if inB (nI j) 16 then
      let v := mordF (nI j) u.2
      some (if v.1 then setI v.2 0 14 (v.2.1 0 14 + 1) else v.2) else none) else some u.2
/-- the orders from j on, n more -/
def mdayL : Nat → Nat → XS → Option XS
  | 0, _, x => some x
  | n + 1, j, x => match mstepO j x with
    | none => none
    | some y => mdayL n (j + 1) y
def mdayO (x : XS) : Option XS := match mdayL (x.1 11 5).toNatClampNeg 0 x with
  | none => none
  | some y => some (setI y 0 13 (y.1 0 13 + 1))
def mpassL : Nat → XS → Option XS
  | 0, x => some x
  | n + 1, x => match mdayO x with
    | none => none
    | some y => mpassL n y
def mpassO (d : Int32) (x : XS) : Option XS := mpassL d.toNatClampNeg x
def q11 (q : Nat) : Prop := q ≠ 0 ∧ q ≠ 7 ∧ q ≠ 8 ∧ q ≠ 9
theorem push_1' {w nx : Int32} {x : XS} {u : Int32 × XS} {q k : Nat} (hq : q11 q) (h : pushO w nx x = some u) : u.2.1 q k = x.1 q k := by
  obtain ⟨h0, h7, h8, h9⟩ := hq
  unfold pushO at h
  repeat' split at h
  all_goals first | (cases h; done) | (cases h; with_reducible rfl) | (cases h; with_reducible exact fol_1 h0 h9) | (cases h; with_reducible exact mlook_1 h0 h8)
theorem co_1 {e : Int32} {q k : Nat} (hq : q11 q) : ∀ (n : Nat) (nx tp : Int32) (x y : XS), coL e n nx tp x = some y → y.1 q k = x.1 q k
  | 0, _, _, _, _, h => by simp [coL] at h
  | n + 1, nx, tp, x, y, h => by
    rw [coL] at h
    split at h
    · cases h; rfl
    · split at h
      · split at h
        · split at h
          · split at h
            · rw [co_1 hq n _ _ _ _ h, rdq hq.2.1]
            · cases h
          · split at h
            · split at h
              · rw [co_1 hq n _ _ _ _ h, rdq hq.2.1]
              · cases h
            · split at h
              · split at h
                · rw [co_1 hq n _ _ _ _ h, rdq hq.2.1]
                · cases h
              · cases h
        · split at h
          · split at h
            · cases h
            · rename_i u hu
              rw [co_1 hq n _ _ _ _ h, rdq hq.2.1, push_1' hq hu]
          · cases h
      · cases h
theorem mdue_1 {j : Int32} {x : XS} {u : Bool × XS} {q k : Nat} (hq : q11 q) (h : mdueO j x = some u) : u.2.1 q k = x.1 q k := by
  unfold mdueO at h
  split at h
  · split at h
    · cases h; rfl
    · split at h
      · cases h
      · rename_i y hy
        cases h
        exact co_1 hq _ _ _ _ _ hy
  · cases h
theorem mord_1 {j : Int32} {x : XS} {q k : Nat} (hq : q ≠ 0) : (mordF j x).2.1 q k = x.1 q k := by unfold mordF; rw [rdq hq]
theorem mstep_1 {j : Nat} {x y : XS} {q k : Nat} (hq : q11 q) (h : mstepO j x = some y) : y.1 q k = x.1 q k := by
  unfold mstepO at h
  split at h
  · cases h
  · rename_i u hu
    split at h
    · split at h
      · cases h
        split
        · rw [rdq hq.1, mord_1 hq.1, mdue_1 hq hu]
        · rw [mord_1 hq.1, mdue_1 hq hu]
      · cases h
    · cases h; exact mdue_1 hq hu
theorem q11_b {q : Nat} (h : q = 11 ∨ q = 12 ∨ q = 13 ∨ q = 14) : q11 q := ⟨by omega, by omega, by omega, by omega⟩

set_option maxHeartbeats 4000000 in
set_option maxRecDepth 100000 in
theorem c_X10_pass {g : Gx} {a : Nat → Nat} {x : XS} {d : Int32} {y : XS} (hM : MOK x) (hd : mpassO d x = some y) : Mx g yX10_pass cX10_pass 4 none 10 0 0 LM a x [.ref (a 0), .int d] (pr none y) := by
  refine Mx_of (by decide +kernel) (Nat.le_of_ble_eq_true rfl) ?_
  intro k hk he hg
  subst hg

  have hD := cl_lt d
  have inner : ∀ (i : Nat) (w : XS), (∀ z : XS, MOK z → w = z → Wx k 0 0 LM a z 52 [(0, .ref (a 0)), (1, .int d), (2, .int (nI i))] []) → ∀ (n j : Nat) (v : Int32) (z : XS), v = nI j → n + j = (z.1 11 5).toNatClampNeg → MOK z → mdayL n j z = some w → Wx k 0 0 LM a z 9 [(0, .ref (a 0)), (1, .int d), (2, .int (nI i)), (3, .int v)] [] := by
    intro i w kk n
    induction n with
    | zero =>
      intro j v z hv hj hMz hw
      subst hv
      have hO := cl_lt (z.1 11 5)
      refine xiload_n hk dX10_pass_9 rfl ?_
      refine xaload_n hk dX10_pass_10 rfl ?_
      refine xgetR (ci := 10) (f := 11) hk dX10_pass_11 ⟨rfl, by decide, _, rfl, rfl⟩ kX10_35 ?_
      refine xgetNI (ci := 9) (f := 5) hk dX10_pass_14 ⟨rfl, by decide, _, rfl, rfl⟩ kX10_150 ?_
      refine xicmp_ge hk 52 dX10_pass_17 (by decide) (fun h17 => ?_) (fun h17 => ?_)
      · refine xsub [(0, _), (1, _), (2, _)] rfl ?_
        exact kk _ hMz (Option.some.inj hw).symm
      · exact absurd (by rw [le_nI (by omega)]; omega) h17
    | succ n ih =>
      intro j v z hv hj hMz hw
      subst hv
      have hO := cl_lt (z.1 11 5)
      rw [mdayL] at hw
      split at hw
      · exact absurd hw (by simp)
      rename_i z2 hz2
      have hz5 : z2.1 11 5 = z.1 11 5 := mstep_1 (q11_b (by simp)) hz2
      have hM2 : MOK z2 := MOK_of (fun q k h => mstep_1 (q11_b h) hz2) hMz
      have hst := hz2
      rw [mstepO] at hst
      split at hst
      · exact absurd hst (by simp)
      rename_i u hu
      have hMu : MOK u.2 := MOK_of (fun q k h => mdue_1 (q11_b h) hu) hMz
      refine xiload_n hk dX10_pass_9 rfl ?_
      refine xaload_n hk dX10_pass_10 rfl ?_
      refine xgetR (ci := 10) (f := 11) hk dX10_pass_11 ⟨rfl, by decide, _, rfl, rfl⟩ kX10_35 ?_
      refine xgetNI (ci := 9) (f := 5) hk dX10_pass_14 ⟨rfl, by decide, _, rfl, rfl⟩ kX10_150 ?_
      refine xicmp_ge hk 52 dX10_pass_17 (by decide) (fun h17 => ?_) (fun h17 => ?_)
      · exact absurd h17 (by rw [le_nI (by omega)]; omega)
      · refine xaload_n hk dX10_pass_20 rfl ?_
        refine xiload_n hk dX10_pass_21 rfl ?_
        refine xcallV hk (c_X10_isDue hMz hu) bX10_isDue kX10_153 dX10_pass_22 rfl ⟨_, _, _, _, rfl, rfl⟩ rfl (by decide) ⟨by decide, by decide⟩ (Nat.le_of_ble_eq_true rfl) (det ?_)
        refine xif_eq hk 46 dX10_pass_25 (by decide) (fun h25 => ?_) (fun h25 => ?_)
        · rw [b2i_0] at h25
          rw [h25, if_neg Bool.false_ne_true] at hst
          obtain rfl := Option.some.inj hst
          refine xiinc hk dX10_pass_46 rfl (by decide) rfl ?_
          refine xgoto hk 9 dX10_pass_49 (by decide) ?_
          exact ih (j + 1) _ _ (nI_inc j) (by rw [hz5]; omega) hM2 hw
        · rw [b2i_t] at h25
          rw [if_pos h25] at hst
          split at hst
          rotate_left
          · exact absurd hst (by simp)
          rename_i hij
          refine xaload_n hk dX10_pass_28 rfl ?_
          refine xiload_n hk dX10_pass_29 rfl ?_
          refine xcallV hk (c_X10_order hij) bX10_order kX10_157 dX10_pass_30 rfl ⟨_, _, _, _, rfl, rfl⟩ rfl (by decide) ⟨by decide, by decide⟩ (Nat.le_of_ble_eq_true rfl) (det ?_)
          refine xif_eq hk 46 dX10_pass_33 (by decide) (fun h33 => ?_) (fun h33 => ?_)
          · rw [b2i_0] at h33
            simp only [h33, if_false, Bool.false_eq_true] at hst
            obtain rfl := Option.some.inj hst
            refine xiinc hk dX10_pass_46 rfl (by decide) rfl ?_
            refine xgoto hk 9 dX10_pass_49 (by decide) ?_
            exact ih (j + 1) _ _ (nI_inc j) (by rw [hz5]; omega) hM2 hw
          · rw [b2i_t] at h33
            simp only [h33, if_true] at hst
            obtain rfl := Option.some.inj hst
            refine xaload_n hk dX10_pass_36 rfl ?_
            refine xdup hk dX10_pass_37 rfl ?_
            refine xgetI (ci := 10) (f := 14) hk dX10_pass_38 ⟨rfl, by decide, _, rfl, rfl⟩ kX10_160 ?_
            refine xiconst (v := 1) hk dX10_pass_41 (by decide) ?_
            refine xiadd hk dX10_pass_42 ?_
            refine xputI (ci := 10) (f := 14) hk dX10_pass_43 ⟨rfl, by decide, _, rfl, rfl⟩ kX10_160 ⟨rfl, by decide +kernel⟩ ?_
            refine xiinc hk dX10_pass_46 rfl (by decide) rfl ?_
            refine xgoto hk 9 dX10_pass_49 (by decide) ?_
            exact ih (j + 1) _ _ (nI_inc j) (by rw [hz5]; omega) hM2 hw
  have outer : ∀ (n i : Nat) (v : Int32) (z : XS), v = nI i → n + i = d.toNatClampNeg → MOK z → mpassL n z = some y → Wx k 0 0 LM a z 2 [(0, .ref (a 0)), (1, .int d), (2, .int v)] [] := by
    intro n
    induction n with
    | zero =>
      intro i v z hv hi hMz hw
      subst hv
      refine xiload_n hk dX10_pass_2 rfl ?_
      refine xiload_n hk dX10_pass_3 rfl ?_
      refine xicmp_ge hk 68 dX10_pass_4 (by decide) (fun h4 => ?_) (fun h4 => ?_)
      · refine xvret hk he dX10_pass_68 ⟨by decide, by decide⟩ ?_
        exact ⟨rfl, Option.some.inj hw⟩
      · exact absurd (by rw [le_nI (by omega)]; omega) h4
    | succ n ih =>
      intro i v z hv hi hMz hw
      subst hv
      rw [mpassL] at hw
      split at hw
      · exact absurd hw (by simp)
      rename_i z2 hz2
      rw [mdayO] at hz2
      split at hz2
      · exact absurd hz2 (by simp)
      rename_i w hw2
      obtain rfl := Option.some.inj hz2
      refine xiload_n hk dX10_pass_2 rfl ?_
      refine xiload_n hk dX10_pass_3 rfl ?_
      refine xicmp_ge hk 68 dX10_pass_4 (by decide) (fun h4 => ?_) (fun h4 => ?_)
      · exact absurd h4 (by rw [le_nI (by omega)]; omega)
      · refine xiconst (v := 0) hk dX10_pass_7 (by decide) ?_
        refine xistore_n hk dX10_pass_8 (by decide) ?_
        refine inner i w ?_ _ 0 _ z rfl rfl hMz hw2
        intro z5 hM5 hz5
        subst hz5
        refine xaload_n hk dX10_pass_52 rfl ?_
        refine xdup hk dX10_pass_53 rfl ?_
        refine xgetI (ci := 10) (f := 13) hk dX10_pass_54 ⟨rfl, by decide, _, rfl, rfl⟩ kX10_163 ?_
        refine xiconst (v := 1) hk dX10_pass_57 (by decide) ?_
        refine xiadd hk dX10_pass_58 ?_
        refine xputI (ci := 10) (f := 13) hk dX10_pass_59 ⟨rfl, by decide, _, rfl, rfl⟩ kX10_163 ⟨rfl, by decide +kernel⟩ ?_
        refine xiinc hk dX10_pass_62 rfl (by decide) rfl ?_
        refine xgoto hk 2 dX10_pass_65 (by decide) ?_
        exact ih (i + 1) _ _ (nI_inc i) (by omega) (setI_MOK (by decide) hM5) hw
  refine xiconst (v := 0) hk dX10_pass_0 (by decide) ?_
  refine xistore_n hk dX10_pass_1 (by decide) ?_
  exact outer _ 0 _ _ rfl rfl hM hd
