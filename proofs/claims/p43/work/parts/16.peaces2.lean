theorem kX3_43 : Cond.fieldLinkNest RX3 43 "FeudBook$Book" "statements" "I" "FeudBook" ∈ NW := nw_mem 153 (by decide +kernel) rfl
theorem kX3_91 : Cond.methodLink RX3 91 yX3_row ∈ GW := gw_mem 535 (by decide +kernel) (by decide +kernel)
theorem bX3_row : CBv yX3_row cX3_row 4 (some .long) 2 := ⟨⟨gw_mem 538 (by decide +kernel) (by decide +kernel), gw_mem 19 (by decide +kernel) (by decide +kernel), by decide +kernel, by decide⟩, gw_mem 537 (by decide +kernel) (by decide +kernel), gw_sel 5 (by decide +kernel) (by decide +kernel)⟩
theorem kX3_11 : Cond.fieldLink RX3 11 "FeudBook$Peaces" "words" "[J" ∈ GW := gw_mem 268 (by decide +kernel) (by decide +kernel)
theorem kX3_61 : Cond.fieldLink RX3 61 "FeudBook$Peaces" "total" "I" ∈ GW := gw_mem 272 (by decide +kernel) (by decide +kernel)
theorem kX3_64 : Cond.methodLink RX3 64 yJ13_bitCount_95d88 ∈ GW := gw_mem 539 (by decide +kernel) (by decide +kernel)
theorem bJ13_bitCount_95d88 : CBs yJ13_bitCount_95d88 cJ13_bitCount_95d88 2 (some .int) 1 := ⟨⟨gw_mem 541 (by decide +kernel) (by decide +kernel), gw_mem 27 (by decide +kernel) (by decide +kernel), by decide +kernel, by decide⟩, gw_mem 540 (by decide +kernel) (by decide +kernel)⟩
theorem kX3_21 : Cond.fieldLink RX3 21 "FeudBook$Peaces" "used" "I" ∈ GW := gw_mem 271 (by decide +kernel) (by decide +kernel)
theorem kX3_83 : Cond.methodLink RX3 83 yX3_allOf ∈ GW := gw_mem 529 (by decide +kernel) (by decide +kernel)
theorem bX3_allOf : CBv yX3_allOf cX3_allOf 2 (some .long) 1 := ⟨⟨gw_mem 532 (by decide +kernel) (by decide +kernel), gw_mem 19 (by decide +kernel) (by decide +kernel), by decide +kernel, by decide⟩, gw_mem 531 (by decide +kernel) (by decide +kernel), gw_sel 4 (by decide +kernel) (by decide +kernel)⟩
theorem kX3_25 : Cond.fieldLink RX3 25 "FeudBook$Peaces" "seen" "I" ∈ GW := gw_mem 273 (by decide +kernel) (by decide +kernel)
theorem kX3_57 : Cond.methodLink RX3 57 yX3_look ∈ GW := gw_mem 525 (by decide +kernel) (by decide +kernel)
theorem bX3_look : CBv yX3_look cX3_look 6 none 1 := ⟨⟨gw_mem 528 (by decide +kernel) (by decide +kernel), gw_mem 19 (by decide +kernel) (by decide +kernel), by decide +kernel, by decide⟩, gw_mem 527 (by decide +kernel) (by decide +kernel), gw_sel 3 (by decide +kernel) (by decide +kernel)⟩
theorem kX3_50 : Cond.methodLink RX3 50 yX3_holds ∈ GW := gw_mem 649 (by decide +kernel) (by decide +kernel)
theorem bX3_holds : CBs yX3_holds cX3_holds 5 (some .long) 2 := ⟨⟨gw_mem 651 (by decide +kernel) (by decide +kernel), gw_mem 19 (by decide +kernel) (by decide +kernel), by decide +kernel, by decide⟩, gw_mem 650 (by decide +kernel) (by decide +kernel)⟩
/-- the numbers of a word in which the first j standing statements hold -/
def restF (x : XS) (s w : Int32) (j : Nat) (r : Int64) : Int64 := if hasB s (nI j) then r &&& rowL x (nI j) w else r
def lkF (s : Int32) (j : Nat) (y : XS) : XS :=
  let r := itP (restF y s (nI j)) (y.1 21 1).toNatClampNeg (allOfL y (nI j))
  let y1 := setL y 41 j r
  setI y1 40 5 (y1.1 40 5 + bcL r)
def landLook (s : Int32) (x : XS) : XS := if s = x.1 40 6 then x else
  let x1 := setI x 40 6 s
  let x2 := setI x1 40 5 0
  itP (lkF s) (min (x2.1 40 4).toNatClampNeg 16) x2
def countF (x : XS) (s : Int32) : Int32 := (landLook s x).1 40 5
def cwF (y : XS) (cl : Int32) (j : Nat) (p : Int32) : Int32 := p + bcL (y.2 41 j &&& holdsL cl (nI j))
def countWithF (x : XS) (s cl : Int32) : Int32 := itP (cwF (landLook s x) cl) (min ((landLook s x).1 40 4).toNatClampNeg 16) 0
def prepIn (j : Nat) (w : Nat) (y : XS) : XS :=
  if nI j * 16 + nI w < 0 then y else if nI 320 ≤ nI j * 16 + nI w then y else
    setL y 43 (nI j * 16 + nI w).toNatClampNeg (holdsL (entI y 25 20 (nI j)) (nI w) ||| holdsL (entI y 26 20 (nI j)) (nI w))
def prepOut (j : Nat) (y : XS) : XS := itP (prepIn j) (y.1 40 4).toNatClampNeg y
def prepF (x : XS) : XS :=
  let x1 := setI x 40 6 (-1)
  let x2 := setI x1 40 4 ((1 : Int32) <<< (maxI (x1.1 21 0 - 6) 0 &&& 31))
  itP prepOut (x2.1 21 1).toNatClampNeg x2
def cpL (j : Nat) (y : XS) : XS := setL y 42 j (y.2 41 j)
def someF (y : XS) (f : Int32) (j : Nat) (p : Int64) : Int64 := p ||| (y.2 42 j &&& holdsL (2 * f) (nI j))
def narF (f : Int32) (j : Nat) (y : XS) : XS := setL y 42 j (y.2 42 j &&& holdsL (2 * f) (nI j))
def used16 (y : XS) : Nat := min (y.1 40 4).toNatClampNeg 16
def narrowB (y : XS) (f : Int32) : Bool := decide (¬ itP (someF y f) (used16 y) 0 = 0)
def narrowF (y : XS) (f : Int32) : XS := if narrowB y f then itP (narF f) (used16 y) y else y
def ridF (j : Nat) (u : Int32 × XS) : Int32 × XS := (if narrowB u.2 (nI j) then withI u.1 (nI j) else u.1, narrowF u.2 (nI j))
def ridersU (x : XS) (s : Int32) : Int32 × XS :=
  let x1 := landLook s x
  let x2 := itP cpL (used16 x1) x1
  itP ridF (x2.1 21 0).toNatClampNeg (0, x2)
def fewStep (x : XS) (s w : Int32) (j : Nat) (u : Int64 × Int64 × Int64) : Int64 × Int64 × Int64 := if hasB s (nI j) then
  (u.1 &&& rowL x (nI j) w, (u.2.1 &&& rowL x (nI j) w) ||| u.1, (u.2.2 &&& rowL x (nI j) w) ||| u.2.1) else u
def fewU (x : XS) (s w : Int32) : Int64 × Int64 × Int64 := itP (fewStep x s w) (x.1 21 1).toNatClampNeg (allOfL x w, allOfL x w, allOfL x w)
def fewIn (x : XS) (s w : Int32) : Int32 := if (fewU x s w).1 = 0 then (if (fewU x s w).2.1 = 0 then (if (fewU x s w).2.2 = 0 then 3 else 2) else 1) else 0
def fewF (x : XS) (s : Int32) : Int32 :=
  let m := itP (fun j p => minI p (fewIn x s (nI j))) (x.1 40 4).toNatClampNeg 3
  if m ≤ 2 then m else -1
theorem lcmp0 (v : Int64) : lg_cmp v 0 = 0 ↔ v = 0 := by
  unfold lg_cmp
  split
  · rename_i h; constructor
    · intro h2; exact absurd h2 (by decide)
    · intro h2; subst h2; exact absurd h (by decide)
  · split
    · rename_i h; exact ⟨fun _ => h, fun _ => rfl⟩
    · rename_i h; constructor
      · intro h2; exact absurd h2 (by decide)
      · intro h2; exact absurd h2 h

set_option maxHeartbeats 4000000 in
set_option maxRecDepth 100000 in
theorem c_X3_look {g : Gx} {a : Nat → Nat} {x : XS} {s : Int32} : Mx g yX3_look cX3_look 6 none 3 0 0 LF a x [.ref (a 40), .int s] (pr none (landLook s x)) := by
  refine Mx_of (by decide +kernel) (Nat.le_of_ble_eq_true rfl) ?_
  intro k hk he hg
  subst hg

  have inner : ∀ (j : Nat), j < 16 → ∀ (y : XS) (S : Int32), y.1 21 1 = S → (∀ r : Int64, r = itP (restF y s (nI j)) S.toNatClampNeg (allOfL y (nI j)) → Wx k 0 0 LF a y 84 [(0, .ref (a 40)), (1, .int s), (2, .int (nI j)), (3, .long r)] []) → ∀ (n i : Nat) (v : Int32) (r : Int64), S.toNatClampNeg - i < n → v = nI i → i ≤ S.toNatClampNeg → r = itP (restF y s (nI j)) i (allOfL y (nI j)) → Wx k 0 0 LF a y 47 [(0, .ref (a 40)), (1, .int s), (2, .int (nI j)), (3, .long r), (5, .int v)] [] := by
    intro j hj y S hS kk n
    have hS2 := cl_lt S
    induction n with
    | zero => intros; omega
    | succ n ih =>
      intro i v r hn hv hi hr
      subst hv
      refine xiload hk dX3_look_47 rfl ?_
      refine xaload_n hk dX3_look_49 rfl ?_
      refine xgetR (ci := 3) (f := 0) hk dX3_look_50 ⟨rfl, by decide, _, rfl, rfl⟩ kX3_28 ?_
      refine xgetNI (ci := 0) (f := 1) hk dX3_look_53 ⟨rfl, by decide, _, rfl, rfl⟩ kX3_43 ?_
      refine xicmp_ge hk 84 dX3_look_56 (by decide) (fun h56 => ?_) (fun h56 => ?_)
      · rw [hS, le_nI (by omega)] at h56
        refine xsub [(0, _), (1, _), (2, _), (3, _)] rfl ?_
        exact kk _ (by rw [hr, show i = S.toNatClampNeg by omega])
      · rw [hS, le_nI (by omega)] at h56
        refine xiload_n hk dX3_look_59 rfl ?_
        refine xiload hk dX3_look_60 rfl ?_
        refine xcallSN hk c_X8_has bX8_has kX3_87 dX3_look_62 rfl rfl (by decide) ⟨by decide, by decide⟩ (Nat.le_of_ble_eq_true rfl) (det ?_)
        refine xif_eq hk 78 dX3_look_65 (by decide) (fun h65 => ?_) (fun h65 => ?_)
        · rw [b2i_0] at h65
          refine xiinc hk dX3_look_78 rfl (by decide) rfl ?_
          refine xgoto hk 47 dX3_look_81 (by decide) ?_
          exact ih (i + 1) _ _ (by omega) (nI_inc i) (by omega) (by subst hr; simp [itP, restF, *])
        · rw [b2i_t] at h65
          refine xlload_n hk dX3_look_68 rfl ?_
          refine xaload_n hk dX3_look_69 rfl ?_
          refine xiload hk dX3_look_70 rfl ?_
          refine xiload_n hk dX3_look_72 rfl ?_
          refine xcallV hk c_X3_row bX3_row kX3_91 dX3_look_73 rfl ⟨_, _, _, _, rfl, rfl⟩ rfl (by decide) ⟨by decide, by decide⟩ (Nat.le_of_ble_eq_true rfl) (det ?_)
          refine xland hk dX3_look_76 ?_
          refine xlstore_n hk dX3_look_77 (by decide) ?_
          refine xiinc hk dX3_look_78 rfl (by decide) rfl ?_
          refine xgoto hk 47 dX3_look_81 (by decide) ?_
          exact ih (i + 1) _ _ (by omega) (nI_inc i) (by omega) (by subst hr; simp [itP, restF, *])
  have outer : ∀ (U : Int32) (z : XS), (∀ y : XS, y = itP (lkF s) (min U.toNatClampNeg 16) z → Wx k 0 0 LF a y 110 [(0, .ref (a 40)), (1, .int s)] []) → ∀ (n j : Nat) (v : Int32) (y : XS), min U.toNatClampNeg 16 - j < n → v = nI j → j ≤ min U.toNatClampNeg 16 → y = itP (lkF s) j z → y.1 40 4 = U → Wx k 0 0 LF a y 21 [(0, .ref (a 40)), (1, .int s), (2, .int v)] [] := by
    intro U z kk n
    induction n with
    | zero => intros; omega
    | succ n ih =>
      intro j v y hn hv hj hy hc
      subst hv
      refine xiload_n hk dX3_look_21 rfl ?_
      refine xaload_n hk dX3_look_22 rfl ?_
      refine xgetI (ci := 3) (f := 4) hk dX3_look_23 ⟨rfl, by decide, _, rfl, rfl⟩ kX3_21 ?_
      refine xicmp_ge hk 110 dX3_look_26 (by decide) (fun h26 => ?_) (fun h26 => ?_)
      · rw [hc, le_nI (by omega)] at h26
        refine xsub [(0, _), (1, _)] rfl ?_
        exact kk _ (by rw [hy, show j = min U.toNatClampNeg 16 by omega])
      · rw [hc, le_nI (by omega)] at h26
        refine xiload_n hk dX3_look_29 rfl ?_
        refine xaload_n hk dX3_look_30 rfl ?_
        refine xgetR (ci := 3) (f := 1) hk dX3_look_31 ⟨rfl, by decide, _, rfl, rfl⟩ kX3_11 ?_
        refine xalen (v := nI _) hk dX3_look_34 rfl (by decide) rfl ?_
        refine xicmp_ge hk 110 dX3_look_35 (by decide) (fun h35 => ?_) (fun h35 => ?_)
        · rw [nI_leI (by omega) (by omega)] at h35
          refine xsub [(0, _), (1, _)] rfl ?_
          exact kk _ (by rw [hy, show j = min U.toNatClampNeg 16 by omega])
        · rw [nI_leI (by omega) (by omega)] at h35
          refine xaload_n hk dX3_look_38 rfl ?_
          refine xiload_n hk dX3_look_39 rfl ?_
          refine xcallV hk c_X3_allOf bX3_allOf kX3_83 dX3_look_40 rfl ⟨_, _, _, _, rfl, rfl⟩ rfl (by decide) ⟨by decide, by decide⟩ (Nat.le_of_ble_eq_true rfl) (det ?_)
          refine xlstore_n hk dX3_look_43 (by decide) ?_
          refine xiconst (v := 0) hk dX3_look_44 (by decide) ?_
          refine xistore hk dX3_look_45 (by decide) ?_
          refine inner j (by omega) y _ rfl ?_ _ 0 _ _ (Nat.lt_succ_self _) rfl (by omega) rfl
          intro r hr
          refine xaload_n hk dX3_look_84 rfl ?_
          refine xgetR (ci := 3) (f := 1) hk dX3_look_85 ⟨rfl, by decide, _, rfl, rfl⟩ kX3_11 ?_
          refine xiload_n hk dX3_look_88 rfl ?_
          refine xlload_n hk dX3_look_89 rfl ?_
          refine xlast hk dX3_look_90 rfl (vp_in_nI (by omega) (by decide)) ?_
          rw [nI_clamp (by omega)]
          refine xaload_n hk dX3_look_91 rfl ?_
          refine xdup hk dX3_look_92 rfl ?_
          refine xgetI (ci := 3) (f := 5) hk dX3_look_93 ⟨rfl, by decide, _, rfl, rfl⟩ kX3_61 ?_
          refine xlload_n hk dX3_look_96 rfl ?_
          refine xcallS hk c_J13_bitCount_95d88 bJ13_bitCount_95d88 kX3_64 dX3_look_97 rfl rfl (by decide) ⟨by decide, by decide⟩ (Nat.le_of_ble_eq_true rfl) (det ?_)
          refine xiadd hk dX3_look_100 ?_
          refine xputI (ci := 3) (f := 5) hk dX3_look_101 ⟨rfl, by decide, _, rfl, rfl⟩ kX3_61 ⟨rfl, by decide +kernel⟩ ?_
          refine xiinc hk dX3_look_104 rfl (by decide) rfl ?_
          refine xgoto hk 21 dX3_look_107 (by decide) ?_
          refine xsub [(0, _), (1, _), (2, _)] rfl ?_
          exact ih (j + 1) _ _ (by omega) (nI_inc j) (by omega) (by subst hy; subst hr; rfl) (by exact hc)
  refine xiload_n hk dX3_look_0 rfl ?_
  refine xaload_n hk dX3_look_1 rfl ?_
  refine xgetI (ci := 3) (f := 6) hk dX3_look_2 ⟨rfl, by decide, _, rfl, rfl⟩ kX3_25 ?_
  refine xicmp_ne hk 9 dX3_look_5 (by decide) (fun h5 => ?_) (fun h5 => ?_)
  · refine xaload_n hk dX3_look_9 rfl ?_
    refine xiload_n hk dX3_look_10 rfl ?_
    refine xputI (ci := 3) (f := 6) hk dX3_look_11 ⟨rfl, by decide, _, rfl, rfl⟩ kX3_25 ⟨rfl, by decide +kernel⟩ ?_
    refine xaload_n hk dX3_look_14 rfl ?_
    refine xiconst (v := 0) hk dX3_look_15 (by decide) ?_
    refine xputI (ci := 3) (f := 5) hk dX3_look_16 ⟨rfl, by decide, _, rfl, rfl⟩ kX3_61 ⟨rfl, by decide +kernel⟩ ?_
    refine xiconst (v := 0) hk dX3_look_19 (by decide) ?_
    refine xistore_n hk dX3_look_20 (by decide) ?_
    generalize hz : setI (setI x 40 6 s) 40 5 0 = z
    refine outer (z.1 40 4) z ?_ _ 0 _ z (Nat.lt_succ_self _) rfl (by omega) rfl rfl
    intro y3 hy3
    refine xvret hk he dX3_look_110 ⟨by decide, by decide⟩ ?_
    exact ⟨rfl, by rw [hy3, ← hz, landLook, if_neg h5]⟩
  · refine xvret hk he dX3_look_8 ⟨by decide, by decide⟩ ?_
    exact ⟨rfl, by rw [landLook, if_pos h5]⟩
set_option maxHeartbeats 4000000 in
set_option maxRecDepth 100000 in
theorem c_X3_count {g : Gx} {a : Nat → Nat} {x : XS} {s : Int32} : Mx g yX3_count cX3_count 2 (some .int) 4 0 0 LF a x [.ref (a 40), .int s] (pr (some (.int (countF x s))) (landLook s x)) := by
  refine Mx_of (by decide +kernel) (Nat.le_of_ble_eq_true rfl) ?_
  intro k hk he hg
  subst hg

  refine xaload_n hk dX3_count_0 rfl ?_
  refine xiload_n hk dX3_count_1 rfl ?_
  refine xcallV hk c_X3_look bX3_look kX3_57 dX3_count_2 rfl ⟨_, _, _, _, rfl, rfl⟩ rfl (by decide) ⟨by decide, by decide⟩ (Nat.le_of_ble_eq_true rfl) (det ?_)
  refine xaload_n hk dX3_count_5 rfl ?_
  refine xgetI (ci := 3) (f := 5) hk dX3_count_6 ⟨rfl, by decide, _, rfl, rfl⟩ kX3_61 ?_
  refine xiret hk he dX3_count_9 ⟨by decide, by decide⟩ ?_
  exact ⟨rfl, rfl⟩
set_option maxHeartbeats 4000000 in
set_option maxRecDepth 100000 in
theorem c_X3_countWith {g : Gx} {a : Nat → Nat} {x : XS} {s cl : Int32} : Mx g yX3_countWith cX3_countWith 5 (some .int) 4 0 0 LF a x [.ref (a 40), .int s, .int cl] (pr (some (.int (countWithF x s cl))) (landLook s x)) := by
  refine Mx_of (by decide +kernel) (Nat.le_of_ble_eq_true rfl) ?_
  intro k hk he hg
  subst hg

  have loop : ∀ (n j : Nat) (v p : Int32), min ((landLook s x).1 40 4).toNatClampNeg 16 - j < n → v = nI j → j ≤ min ((landLook s x).1 40 4).toNatClampNeg 16 → p = itP (cwF (landLook s x) cl) j 0 → Wx k 0 0 LF a (landLook s x) 10 [(0, .ref (a 40)), (1, .int s), (2, .int cl), (3, .int p), (4, .int v)] [] := by
    intro n
    induction n with
    | zero => intros; omega
    | succ n ih =>
      intro j v p hn hv hj hp
      subst hv
      refine xiload hk dX3_countWith_10 rfl ?_
      refine xaload_n hk dX3_countWith_12 rfl ?_
      refine xgetI (ci := 3) (f := 4) hk dX3_countWith_13 ⟨rfl, by decide, _, rfl, rfl⟩ kX3_21 ?_
      refine xicmp_ge hk 55 dX3_countWith_16 (by decide) (fun h16 => ?_) (fun h16 => ?_)
      · rw [le_nI (by omega)] at h16
        refine xiload_n hk dX3_countWith_55 rfl ?_
        refine xiret hk he dX3_countWith_56 ⟨by decide, by decide⟩ ?_
        exact ⟨by rw [hp, show j = min ((landLook s x).1 40 4).toNatClampNeg 16 by omega]; rfl, rfl⟩
      · rw [le_nI (by omega)] at h16
        refine xiload hk dX3_countWith_19 rfl ?_
        refine xaload_n hk dX3_countWith_21 rfl ?_
        refine xgetR (ci := 3) (f := 1) hk dX3_countWith_22 ⟨rfl, by decide, _, rfl, rfl⟩ kX3_11 ?_
        refine xalen (v := nI _) hk dX3_countWith_25 rfl (by decide) rfl ?_
        refine xicmp_ge hk 55 dX3_countWith_26 (by decide) (fun h26 => ?_) (fun h26 => ?_)
        · rw [nI_leI (by omega) (by omega)] at h26
          refine xiload_n hk dX3_countWith_55 rfl ?_
          refine xiret hk he dX3_countWith_56 ⟨by decide, by decide⟩ ?_
          exact ⟨by rw [hp, show j = min ((landLook s x).1 40 4).toNatClampNeg 16 by omega]; rfl, rfl⟩
        · rw [nI_leI (by omega) (by omega)] at h26
          refine xiload_n hk dX3_countWith_29 rfl ?_
          refine xaload_n hk dX3_countWith_30 rfl ?_
          refine xgetR (ci := 3) (f := 1) hk dX3_countWith_31 ⟨rfl, by decide, _, rfl, rfl⟩ kX3_11 ?_
          refine xiload hk dX3_countWith_34 rfl ?_
          refine xlald hk dX3_countWith_36 rfl (vp_in_nI (by omega) (by decide)) ?_
          rw [nI_clamp (by omega)]
          refine xiload_n hk dX3_countWith_37 rfl ?_
          refine xiload hk dX3_countWith_38 rfl ?_
          refine xcallS hk c_X3_holds bX3_holds kX3_50 dX3_countWith_40 rfl rfl (by decide) ⟨by decide, by decide⟩ (Nat.le_of_ble_eq_true rfl) (det ?_)
          refine xland hk dX3_countWith_43 ?_
          refine xcallS hk c_J13_bitCount_95d88 bJ13_bitCount_95d88 kX3_64 dX3_countWith_44 rfl rfl (by decide) ⟨by decide, by decide⟩ (Nat.le_of_ble_eq_true rfl) (det ?_)
          refine xiadd hk dX3_countWith_47 ?_
          refine xistore_n hk dX3_countWith_48 (by decide) ?_
          refine xiinc hk dX3_countWith_49 rfl (by decide) rfl ?_
          refine xgoto hk 10 dX3_countWith_52 (by decide) ?_
          exact ih (j + 1) _ _ (by omega) (nI_inc j) (by omega) (by subst hp; rfl)
  refine xaload_n hk dX3_countWith_0 rfl ?_
  refine xiload_n hk dX3_countWith_1 rfl ?_
  refine xcallV hk c_X3_look bX3_look kX3_57 dX3_countWith_2 rfl ⟨_, _, _, _, rfl, rfl⟩ rfl (by decide) ⟨by decide, by decide⟩ (Nat.le_of_ble_eq_true rfl) (det ?_)
  refine xiconst (v := 0) hk dX3_countWith_5 (by decide) ?_
  refine xistore_n hk dX3_countWith_6 (by decide) ?_
  refine xiconst (v := 0) hk dX3_countWith_7 (by decide) ?_
  refine xistore hk dX3_countWith_8 (by decide) ?_
  exact loop _ 0 _ _ (Nat.lt_succ_self _) rfl (by omega) rfl
