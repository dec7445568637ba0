theorem kX6_45 : Cond.methodLink RX6 45 yX6_isDigit ∈ GW := gw_mem 114 (by decide +kernel) (by decide +kernel)
theorem bX6_isDigit : CBs yX6_isDigit cX6_isDigit 1 (some .boolean) 1 := ⟨⟨gw_mem 116 (by decide +kernel) (by decide +kernel), gw_mem 15 (by decide +kernel) (by decide +kernel), by decide +kernel, by decide⟩, gw_mem 115 (by decide +kernel) (by decide +kernel)⟩
theorem kX6_49 : Cond.fieldLink RX6 49 "FeudBook$Tokens" "count" "I" ∈ GW := gw_mem 121 (by decide +kernel) (by decide +kernel)
theorem kX6_19 : Cond.fieldLink RX6 19 "FeudBook$Tokens" "kinds" "[I" ∈ GW := gw_mem 118 (by decide +kernel) (by decide +kernel)
theorem kX6_23 : Cond.fieldLink RX6 23 "FeudBook$Tokens" "starts" "[I" ∈ GW := gw_mem 119 (by decide +kernel) (by decide +kernel)
theorem kX6_26 : Cond.fieldLink RX6 26 "FeudBook$Tokens" "values" "[J" ∈ GW := gw_mem 120 (by decide +kernel) (by decide +kernel)
theorem kX6_53 : Cond.fieldLink RX6 53 "FeudBook$Tokens" "next" "I" ∈ GW := gw_mem 122 (by decide +kernel) (by decide +kernel)
theorem kX6_68 : Cond.fieldLinkNest RX6 68 "FeudBook$Tape" "length" "I" "FeudBook" ∈ NW := nw_mem 46 (by decide +kernel) rfl
theorem kX6_72 : Cond.methodLink RX6 72 yX5_at ∈ GW := gw_mem 973 (by decide +kernel) (by decide +kernel)
theorem bX5_at : CBv yX5_at cX5_at 2 (some .int) 1 := ⟨⟨gw_mem 976 (by decide +kernel) (by decide +kernel), gw_mem 14 (by decide +kernel) (by decide +kernel), by decide +kernel, by decide⟩, gw_mem 974 (by decide +kernel) (by decide +kernel), gw_mem 975 (by decide +kernel) (by decide +kernel)⟩
theorem kX6_60 : Cond.fieldLink RX6 60 "FeudBook$Tokens" "value" "J" ∈ GW := gw_mem 123 (by decide +kernel) (by decide +kernel)
theorem kX6_89 : Cond.constantLong RX6 89 (10) ∈ GW := gw_mem 992 (by decide +kernel) (by decide +kernel)
theorem kX6_15 : Cond.fieldLink RX6 15 "FeudBook$Tokens" "keywords" "[J" ∈ GW := gw_mem 117 (by decide +kernel) (by decide +kernel)
theorem kX6_76 : Cond.methodLink RX6 76 yX6_isLetter ∈ GW := gw_mem 981 (by decide +kernel) (by decide +kernel)
theorem bX6_isLetter : CBs yX6_isLetter cX6_isLetter 1 (some .boolean) 1 := ⟨⟨gw_mem 983 (by decide +kernel) (by decide +kernel), gw_mem 15 (by decide +kernel) (by decide +kernel), by decide +kernel, by decide⟩, gw_mem 982 (by decide +kernel) (by decide +kernel)⟩
theorem kX6_41 : Cond.methodLink RX6 41 yX6_pack ∈ GW := gw_mem 111 (by decide +kernel) (by decide +kernel)
theorem bX6_pack : CBs yX6_pack cX6_pack 4 (some .long) 2 := ⟨⟨gw_mem 113 (by decide +kernel) (by decide +kernel), gw_mem 15 (by decide +kernel) (by decide +kernel), by decide +kernel, by decide⟩, gw_mem 112 (by decide +kernel) (by decide +kernel)⟩
def letB (c : Int32) : Bool := if c < 97 then false else if 122 < c then false else true
def digB (c : Int32) : Bool := if c < 48 then false else if 57 < c then false else true
def packF (p : Int64) (c : Int32) : Int64 := shlL p 6 ||| (if digB c then c - 48 + 27 else c - 97 + 1).toInt64
def kindAtF (x : XS) (t : Int32) : Int32 := if t < 0 then 261 else if x.1 3 4 ≤ t then 261 else if nI 401 ≤ t then 261 else x.1 5 t.toNatClampNeg
def startAtF (x : XS) (t : Int32) : Int32 := if t < 0 then 0 else if x.1 3 4 ≤ t then 0 else if nI 401 ≤ t then 0 else x.1 6 t.toNatClampNeg
def valueAtF (x : XS) (t : Int32) : Int64 := if t < 0 then 0 else if x.1 3 4 ≤ t then 0 else if nI 401 ≤ t then 0 else x.2 7 t.toNatClampNeg
def leftN (x : XS) : Nat := ((x.1 1 1).toInt - (x.1 3 5).toInt).toNat
def skipL : Nat → XS → XS
  | 0, x => x
  | n + 1, x => if x.1 1 1 ≤ x.1 3 5 then x else if atF x (x.1 3 5) = 32 then skipL n (setI x 3 5 (x.1 3 5 + 1)) else if atF x (x.1 3 5) = 10 then skipL n (setI x 3 5 (x.1 3 5 + 1)) else x
def skipF (x : XS) : XS := skipL (leftN x) x
def numL : Nat → XS → XS
  | 0, x => x
  | n + 1, x => if x.1 1 1 ≤ x.1 3 5 then x else if digB (atF x (x.1 3 5)) then numL n (setI (setL x 3 6 (x.2 3 6 * 10 + (atF x (x.1 3 5) - 48).toInt64)) 3 5 (x.1 3 5 + 1)) else x
def numU (x : XS) : Int32 × XS := let y := numL (leftN x) x; (if y.1 3 5 - x.1 3 5 ≤ 6 then 259 else 261, y)
def wordL : Nat → XS → XS
  | 0, x => x
  | n + 1, x => if x.1 1 1 ≤ x.1 3 5 then x else if letB (atF x (x.1 3 5)) || digB (atF x (x.1 3 5)) then wordL n (setI (setL x 3 6 (packF (x.2 3 6) (atF x (x.1 3 5)))) 3 5 (x.1 3 5 + 1)) else x
def kwL (x : XS) (v : Int64) : Nat → Nat → Int32
  | 0, _ => 258
  | r + 1, j => if x.2 4 j = v then 300 + nI j else kwL x v r (j + 1)
def wordU (x : XS) : Int32 × XS := let y := wordL (leftN x) x; (if y.1 3 5 - x.1 3 5 ≤ 10 then kwL y (y.2 3 6) 27 0 else 261, y)
def symO (s : Int32) : Int := if s.toInt < 40 then 272 else if 93 < s.toInt then 272 else ([270, 270, 270, 270, 270, 270, 272, 270, 272, 272, 272, 272, 272, 272, 272, 272, 272, 272, 272, 270, 229, 270, 229, 272, 272, 272, 272, 272, 272, 272, 272, 272, 272, 272, 272, 272, 272, 272, 272, 272, 272, 272, 272, 272, 272, 272, 272, 272, 272, 272, 272, 270, 272, 270] : List Int).getD (s.toInt - 40).toNat 272
def symU (x : XS) (s : Int32) : Int32 × XS :=
  let y := setI x 3 5 (x.1 3 5 + 1)
  if symO s = 270 then (s, y) else if symO s = 229 then (if atF y (y.1 3 5) = 61 then (if s = 60 then 256 else 257, setI y 3 5 (y.1 3 5 + 1)) else (s, y)) else (261, y)
def tokU (x : XS) : Int32 × XS :=
  let s := atF x (x.1 3 5)
  if s < 0 then (260, x) else if 400 ≤ x.1 3 4 then (261, x) else if letB s then wordU x else if digB s then numU x else symU x s
def scanL : Nat → Int32 → XS → XS
  | 0, _, x => x
  | n + 1, kd, x => if nI 401 ≤ x.1 3 4 then x else if kd = 260 then x else if kd = 261 then x else
    let x1 := skipF x
    let x2 := setI x1 6 (x1.1 3 4).toNatClampNeg (x1.1 3 5)
    let t := tokU (setL x2 3 6 0)
    let y1 := setI t.2 5 (t.2.1 3 4).toNatClampNeg t.1
    let y2 := setL y1 7 (y1.1 3 4).toNatClampNeg (y1.2 3 6)
    scanL n t.1 (setI y2 3 4 (y2.1 3 4 + 1))
def scanF (x : XS) : XS := scanL 402 263 (setI (setI x 3 4 0) 3 5 0)
theorem lcmp_eq (a b : Int64) : lg_cmp a b = 0 ↔ a = b := by
  unfold lg_cmp
  split
  · rename_i h; constructor
    · intro h2; exact absurd h2 (by decide)
    · intro h2; subst h2; exact absurd h (by simp)
  · split
    · rename_i h; exact ⟨fun _ => h, fun _ => rfl⟩
    · rename_i h; constructor
      · intro h2; exact absurd h2 (by decide)
      · intro h2; exact absurd h2 h
theorem nle_toInt {a b : Int32} : ¬ a ≤ b ↔ b.toInt < a.toInt := by rw [Int32.le_iff_toInt_le]; omega
theorem inc1_toInt {v w : Int32} (h : ¬ w ≤ v) : (v + 1).toInt = v.toInt + 1 := by
  rw [nle_toInt] at h
  have := Int32.toInt_lt w
  exact inc_toInt (v := v) (by omega)
theorem sym_cases : ∀ i, i < 54 → (#[270, 270, 270, 270, 270, 270, 272, 270, 272, 272, 272, 272, 272, 272, 272, 272, 272, 272, 272, 270, 229, 270, 229, 272, 272, 272, 272, 272, 272, 272, 272, 272, 272, 272, 272, 272, 272, 272, 272, 272, 272, 272, 272, 272, 272, 272, 272, 272, 272, 272, 272, 270, 272, 270] : Array Int)[i]? = some 270 ∨ (#[270, 270, 270, 270, 270, 270, 272, 270, 272, 272, 272, 272, 272, 272, 272, 272, 272, 272, 272, 270, 229, 270, 229, 272, 272, 272, 272, 272, 272, 272, 272, 272, 272, 272, 272, 272, 272, 272, 272, 272, 272, 272, 272, 272, 272, 272, 272, 272, 272, 272, 272, 270, 272, 270] : Array Int)[i]? = some 229 ∨ (#[270, 270, 270, 270, 270, 270, 272, 270, 272, 272, 272, 272, 272, 272, 272, 272, 272, 272, 272, 270, 229, 270, 229, 272, 272, 272, 272, 272, 272, 272, 272, 272, 272, 272, 272, 272, 272, 272, 272, 272, 272, 272, 272, 272, 272, 272, 272, 272, 272, 272, 272, 270, 272, 270] : Array Int)[i]? = some 272 := by decide
theorem symO_of {s : Int32} {c : Int} (h1 : ¬ s.toInt < 40) (h2 : ¬ 93 < s.toInt) (h : (#[270, 270, 270, 270, 270, 270, 272, 270, 272, 272, 272, 272, 272, 272, 272, 272, 272, 272, 272, 270, 229, 270, 229, 272, 272, 272, 272, 272, 272, 272, 272, 272, 272, 272, 272, 272, 272, 272, 272, 272, 272, 272, 272, 272, 272, 272, 272, 272, 272, 272, 272, 270, 272, 270] : Array Int)[(s.toInt - 40).toNat]? = some c) : symO s = c := by
  rw [symO, if_neg h1, if_neg h2, List.getD_eq_getElem?_getD]
  rw [show ([270, 270, 270, 270, 270, 270, 272, 270, 272, 272, 272, 272, 272, 272, 272, 272, 272, 272, 272, 270, 229, 270, 229, 272, 272, 272, 272, 272, 272, 272, 272, 272, 272, 272, 272, 272, 272, 272, 272, 272, 272, 272, 272, 272, 272, 272, 272, 272, 272, 272, 272, 270, 272, 270] : List Int)[(s.toInt - 40).toNat]? = some c from by rw [← h]; simp]
  rfl

set_option maxHeartbeats 4000000 in
set_option maxRecDepth 100000 in
theorem c_X6_isLetter {g : Gx} {a : Nat → Nat} {x : XS} {lay : List Kd} {c : Int32} : Mx g yX6_isLetter cX6_isLetter 1 (some .boolean) 1 0 0 lay a x [.int c] (pr (some (.int (b2i (letB c)))) x) := by
  refine Mx_of (by decide +kernel) (Nat.le_of_ble_eq_true rfl) ?_
  intro k hk he hg
  subst hg

  refine xiload_n hk dX6_isLetter_0 rfl ?_
  refine xbipush (v := 97) hk dX6_isLetter_1 (by decide) ?_
  refine xicmp_lt hk 16 dX6_isLetter_3 (by decide) (fun h3 => ?_) (fun h3 => ?_)
  · refine xiconst (v := 0) hk dX6_isLetter_16 (by decide) ?_
    refine xzret hk he dX6_isLetter_17 ⟨by decide, by decide⟩ (by first | with_reducible exact nar_b _ | rfl) ?_
    exact ⟨by simp [letB, b2i, *], rfl⟩
  · refine xiload_n hk dX6_isLetter_6 rfl ?_
    refine xbipush (v := 122) hk dX6_isLetter_7 (by decide) ?_
    refine xicmp_gt hk 16 dX6_isLetter_9 (by decide) (fun h9 => ?_) (fun h9 => ?_)
    · refine xiconst (v := 0) hk dX6_isLetter_16 (by decide) ?_
      refine xzret hk he dX6_isLetter_17 ⟨by decide, by decide⟩ (by first | with_reducible exact nar_b _ | rfl) ?_
      exact ⟨by simp [letB, b2i, *], rfl⟩
    · refine xiconst (v := 1) hk dX6_isLetter_12 (by decide) ?_
      refine xgoto hk 17 dX6_isLetter_13 (by decide) ?_
      refine xzret hk he dX6_isLetter_17 ⟨by decide, by decide⟩ (by first | with_reducible exact nar_b _ | rfl) ?_
      exact ⟨by simp [letB, b2i, *], rfl⟩
set_option maxHeartbeats 4000000 in
set_option maxRecDepth 100000 in
theorem c_X6_isDigit {g : Gx} {a : Nat → Nat} {x : XS} {lay : List Kd} {c : Int32} : Mx g yX6_isDigit cX6_isDigit 1 (some .boolean) 1 0 0 lay a x [.int c] (pr (some (.int (b2i (digB c)))) x) := by
  refine Mx_of (by decide +kernel) (Nat.le_of_ble_eq_true rfl) ?_
  intro k hk he hg
  subst hg

  refine xiload_n hk dX6_isDigit_0 rfl ?_
  refine xbipush (v := 48) hk dX6_isDigit_1 (by decide) ?_
  refine xicmp_lt hk 16 dX6_isDigit_3 (by decide) (fun h3 => ?_) (fun h3 => ?_)
  · refine xiconst (v := 0) hk dX6_isDigit_16 (by decide) ?_
    refine xzret hk he dX6_isDigit_17 ⟨by decide, by decide⟩ (by first | with_reducible exact nar_b _ | rfl) ?_
    exact ⟨by simp [digB, b2i, *], rfl⟩
  · refine xiload_n hk dX6_isDigit_6 rfl ?_
    refine xbipush (v := 57) hk dX6_isDigit_7 (by decide) ?_
    refine xicmp_gt hk 16 dX6_isDigit_9 (by decide) (fun h9 => ?_) (fun h9 => ?_)
    · refine xiconst (v := 0) hk dX6_isDigit_16 (by decide) ?_
      refine xzret hk he dX6_isDigit_17 ⟨by decide, by decide⟩ (by first | with_reducible exact nar_b _ | rfl) ?_
      exact ⟨by simp [digB, b2i, *], rfl⟩
    · refine xiconst (v := 1) hk dX6_isDigit_12 (by decide) ?_
      refine xgoto hk 17 dX6_isDigit_13 (by decide) ?_
      refine xzret hk he dX6_isDigit_17 ⟨by decide, by decide⟩ (by first | with_reducible exact nar_b _ | rfl) ?_
      exact ⟨by simp [digB, b2i, *], rfl⟩
set_option maxHeartbeats 4000000 in
set_option maxRecDepth 100000 in
theorem c_X6_pack {g : Gx} {a : Nat → Nat} {x : XS} {lay : List Kd} {p : Int64} {c : Int32} : Mx g yX6_pack cX6_pack 4 (some .long) 2 0 0 lay a x [.long p, .int c] (pr (some (.long (packF p c))) x) := by
  refine Mx_of (by decide +kernel) (Nat.le_of_ble_eq_true rfl) ?_
  intro k hk he hg
  subst hg

  refine xiload_n hk dX6_pack_0 rfl ?_
  refine xcallS hk c_X6_isDigit bX6_isDigit kX6_45 dX6_pack_1 rfl rfl (by decide) ⟨by decide, by decide⟩ (Nat.le_of_ble_eq_true rfl) (det ?_)
  refine xif_eq hk 17 dX6_pack_4 (by decide) (fun h4 => ?_) (fun h4 => ?_)
  · rw [b2i_0] at h4
    refine xiload_n hk dX6_pack_17 rfl ?_
    refine xbipush (v := 97) hk dX6_pack_18 (by decide) ?_
    refine xisub hk dX6_pack_20 ?_
    refine xiconst (v := 1) hk dX6_pack_21 (by decide) ?_
    refine xiadd hk dX6_pack_22 ?_
    refine xistore_n hk dX6_pack_23 (by decide) ?_
    refine xlload_n hk dX6_pack_24 rfl ?_
    refine xbipush (v := 6) hk dX6_pack_25 (by decide) ?_
    refine xlshl hk dX6_pack_27 ?_
    refine xiload_n hk dX6_pack_28 rfl ?_
    refine xi2l hk dX6_pack_29 ?_
    refine xlor hk dX6_pack_30 ?_
    refine xlret hk he dX6_pack_31 ⟨by decide, by decide⟩ ?_
    exact ⟨by simp [packF, *], rfl⟩
  · rw [b2i_t] at h4
    refine xiload_n hk dX6_pack_7 rfl ?_
    refine xbipush (v := 48) hk dX6_pack_8 (by decide) ?_
    refine xisub hk dX6_pack_10 ?_
    refine xbipush (v := 27) hk dX6_pack_11 (by decide) ?_
    refine xiadd hk dX6_pack_13 ?_
    refine xgoto hk 23 dX6_pack_14 (by decide) ?_
    refine xistore_n hk dX6_pack_23 (by decide) ?_
    refine xlload_n hk dX6_pack_24 rfl ?_
    refine xbipush (v := 6) hk dX6_pack_25 (by decide) ?_
    refine xlshl hk dX6_pack_27 ?_
    refine xiload_n hk dX6_pack_28 rfl ?_
    refine xi2l hk dX6_pack_29 ?_
    refine xlor hk dX6_pack_30 ?_
    refine xlret hk he dX6_pack_31 ⟨by decide, by decide⟩ ?_
    exact ⟨by simp [packF, *], rfl⟩
set_option maxHeartbeats 4000000 in
set_option maxRecDepth 100000 in
theorem c_X6_kindAt {g : Gx} {a : Nat → Nat} {x : XS} {t : Int32} : Mx g yX6_kindAt cX6_kindAt 2 (some .int) 1 0 0 LF a x [.ref (a 3), .int t] (pr (some (.int (kindAtF x t))) x) := by
  refine Mx_of (by decide +kernel) (Nat.le_of_ble_eq_true rfl) ?_
  intro k hk he hg
  subst hg

  refine xiload_n hk dX6_kindAt_0 rfl ?_
  refine xif_lt hk 30 dX6_kindAt_1 (by decide) (fun h1 => ?_) (fun h1 => ?_)
  · refine xsipush (v := 261) hk dX6_kindAt_30 (by decide) ?_
    refine xiret hk he dX6_kindAt_33 ⟨by decide, by decide⟩ ?_
    exact ⟨by simp [kindAtF, *], rfl⟩
  · refine xiload_n hk dX6_kindAt_4 rfl ?_
    refine xaload_n hk dX6_kindAt_5 rfl ?_
    refine xgetI (ci := 6) (f := 4) hk dX6_kindAt_6 ⟨rfl, by decide, _, rfl, rfl⟩ kX6_49 ?_
    refine xicmp_ge hk 30 dX6_kindAt_9 (by decide) (fun h9 => ?_) (fun h9 => ?_)
    · refine xsipush (v := 261) hk dX6_kindAt_30 (by decide) ?_
      refine xiret hk he dX6_kindAt_33 ⟨by decide, by decide⟩ ?_
      exact ⟨by simp [kindAtF, *], rfl⟩
    · refine xiload_n hk dX6_kindAt_12 rfl ?_
      refine xaload_n hk dX6_kindAt_13 rfl ?_
      refine xgetR (ci := 6) (f := 1) hk dX6_kindAt_14 ⟨rfl, by decide, _, rfl, rfl⟩ kX6_19 ?_
      refine xalen (v := nI _) hk dX6_kindAt_17 rfl (by decide) rfl ?_
      refine xicmp_ge hk 30 dX6_kindAt_18 (by decide) (fun h18 => ?_) (fun h18 => ?_)
      · refine xsipush (v := 261) hk dX6_kindAt_30 (by decide) ?_
        refine xiret hk he dX6_kindAt_33 ⟨by decide, by decide⟩ ?_
        exact ⟨by simp [kindAtF, *], rfl⟩
      · refine xaload_n hk dX6_kindAt_21 rfl ?_
        refine xgetR (ci := 6) (f := 1) hk dX6_kindAt_22 ⟨rfl, by decide, _, rfl, rfl⟩ kX6_19 ?_
        refine xiload_n hk dX6_kindAt_25 rfl ?_
        refine xiald hk dX6_kindAt_26 rfl (vin h1 h18 (by decide)) ?_
        refine xgoto hk 33 dX6_kindAt_27 (by decide) ?_
        refine xiret hk he dX6_kindAt_33 ⟨by decide, by decide⟩ ?_
        exact ⟨by simp [kindAtF, *], rfl⟩
set_option maxHeartbeats 4000000 in
set_option maxRecDepth 100000 in
theorem c_X6_startAt {g : Gx} {a : Nat → Nat} {x : XS} {t : Int32} : Mx g yX6_startAt cX6_startAt 2 (some .int) 1 0 0 LF a x [.ref (a 3), .int t] (pr (some (.int (startAtF x t))) x) := by
  refine Mx_of (by decide +kernel) (Nat.le_of_ble_eq_true rfl) ?_
  intro k hk he hg
  subst hg

  refine xiload_n hk dX6_startAt_0 rfl ?_
  refine xif_lt hk 30 dX6_startAt_1 (by decide) (fun h1 => ?_) (fun h1 => ?_)
  · refine xiconst (v := 0) hk dX6_startAt_30 (by decide) ?_
    refine xiret hk he dX6_startAt_31 ⟨by decide, by decide⟩ ?_
    exact ⟨by simp [startAtF, *], rfl⟩
  · refine xiload_n hk dX6_startAt_4 rfl ?_
    refine xaload_n hk dX6_startAt_5 rfl ?_
    refine xgetI (ci := 6) (f := 4) hk dX6_startAt_6 ⟨rfl, by decide, _, rfl, rfl⟩ kX6_49 ?_
    refine xicmp_ge hk 30 dX6_startAt_9 (by decide) (fun h9 => ?_) (fun h9 => ?_)
    · refine xiconst (v := 0) hk dX6_startAt_30 (by decide) ?_
      refine xiret hk he dX6_startAt_31 ⟨by decide, by decide⟩ ?_
      exact ⟨by simp [startAtF, *], rfl⟩
    · refine xiload_n hk dX6_startAt_12 rfl ?_
      refine xaload_n hk dX6_startAt_13 rfl ?_
      refine xgetR (ci := 6) (f := 2) hk dX6_startAt_14 ⟨rfl, by decide, _, rfl, rfl⟩ kX6_23 ?_
      refine xalen (v := nI _) hk dX6_startAt_17 rfl (by decide) rfl ?_
      refine xicmp_ge hk 30 dX6_startAt_18 (by decide) (fun h18 => ?_) (fun h18 => ?_)
      · refine xiconst (v := 0) hk dX6_startAt_30 (by decide) ?_
        refine xiret hk he dX6_startAt_31 ⟨by decide, by decide⟩ ?_
        exact ⟨by simp [startAtF, *], rfl⟩
      · refine xaload_n hk dX6_startAt_21 rfl ?_
        refine xgetR (ci := 6) (f := 2) hk dX6_startAt_22 ⟨rfl, by decide, _, rfl, rfl⟩ kX6_23 ?_
        refine xiload_n hk dX6_startAt_25 rfl ?_
        refine xiald hk dX6_startAt_26 rfl (vin h1 h18 (by decide)) ?_
        refine xgoto hk 31 dX6_startAt_27 (by decide) ?_
        refine xiret hk he dX6_startAt_31 ⟨by decide, by decide⟩ ?_
        exact ⟨by simp [startAtF, *], rfl⟩
set_option maxHeartbeats 4000000 in
set_option maxRecDepth 100000 in
theorem c_X6_valueAt {g : Gx} {a : Nat → Nat} {x : XS} {t : Int32} : Mx g yX6_valueAt cX6_valueAt 2 (some .long) 1 0 0 LF a x [.ref (a 3), .int t] (pr (some (.long (valueAtF x t))) x) := by
  refine Mx_of (by decide +kernel) (Nat.le_of_ble_eq_true rfl) ?_
  intro k hk he hg
  subst hg

  refine xiload_n hk dX6_valueAt_0 rfl ?_
  refine xif_lt hk 30 dX6_valueAt_1 (by decide) (fun h1 => ?_) (fun h1 => ?_)
  · refine xlconst (v := 0) hk dX6_valueAt_30 (by decide) ?_
    refine xlret hk he dX6_valueAt_31 ⟨by decide, by decide⟩ ?_
    exact ⟨by simp [valueAtF, *], rfl⟩
  · refine xiload_n hk dX6_valueAt_4 rfl ?_
    refine xaload_n hk dX6_valueAt_5 rfl ?_
    refine xgetI (ci := 6) (f := 4) hk dX6_valueAt_6 ⟨rfl, by decide, _, rfl, rfl⟩ kX6_49 ?_
    refine xicmp_ge hk 30 dX6_valueAt_9 (by decide) (fun h9 => ?_) (fun h9 => ?_)
    · refine xlconst (v := 0) hk dX6_valueAt_30 (by decide) ?_
      refine xlret hk he dX6_valueAt_31 ⟨by decide, by decide⟩ ?_
      exact ⟨by simp [valueAtF, *], rfl⟩
    · refine xiload_n hk dX6_valueAt_12 rfl ?_
      refine xaload_n hk dX6_valueAt_13 rfl ?_
      refine xgetR (ci := 6) (f := 3) hk dX6_valueAt_14 ⟨rfl, by decide, _, rfl, rfl⟩ kX6_26 ?_
      refine xalen (v := nI _) hk dX6_valueAt_17 rfl (by decide) rfl ?_
      refine xicmp_ge hk 30 dX6_valueAt_18 (by decide) (fun h18 => ?_) (fun h18 => ?_)
      · refine xlconst (v := 0) hk dX6_valueAt_30 (by decide) ?_
        refine xlret hk he dX6_valueAt_31 ⟨by decide, by decide⟩ ?_
        exact ⟨by simp [valueAtF, *], rfl⟩
      · refine xaload_n hk dX6_valueAt_21 rfl ?_
        refine xgetR (ci := 6) (f := 3) hk dX6_valueAt_22 ⟨rfl, by decide, _, rfl, rfl⟩ kX6_26 ?_
        refine xiload_n hk dX6_valueAt_25 rfl ?_
        refine xlald hk dX6_valueAt_26 rfl (vin h1 h18 (by decide)) ?_
        refine xgoto hk 31 dX6_valueAt_27 (by decide) ?_
        refine xlret hk he dX6_valueAt_31 ⟨by decide, by decide⟩ ?_
        exact ⟨by simp [valueAtF, *], rfl⟩
set_option maxHeartbeats 4000000 in
set_option maxRecDepth 100000 in
theorem c_X6_skipBlanks {g : Gx} {a : Nat → Nat} {x : XS}  : Mx g yX6_skipBlanks cX6_skipBlanks 2 none 2 0 0 LF a x [.ref (a 3), .ref (a 1)] (pr none (skipF x)) := by
  refine Mx_of (by decide +kernel) (Nat.le_of_ble_eq_true rfl) ?_
  intro k hk he hg
  subst hg

  generalize hR : skipF x = R at he
  have loop : ∀ (n : Nat) (y : XS), (y.1 1 1).toInt - (y.1 3 5).toInt ≤ n → skipL n y = R → Wx k 0 0 LF a y 0 [(0, .ref (a 3)), (1, .ref (a 1))] [] := by
    intro n
    induction n with
    | zero =>
      intro y hn hy
      have hle : y.1 1 1 ≤ y.1 3 5 := Int32.le_iff_toInt_le.mpr (by omega)
      rw [skipL] at hy
      refine xaload_n hk dX6_skipBlanks_0 rfl ?_
      refine xgetI (ci := 6) (f := 5) hk dX6_skipBlanks_1 ⟨rfl, by decide, _, rfl, rfl⟩ kX6_53 ?_
      refine xaload_n hk dX6_skipBlanks_4 rfl ?_
      refine xgetNI (ci := 5) (f := 1) hk dX6_skipBlanks_5 ⟨rfl, by decide, _, rfl, rfl⟩ kX6_68 ?_
      refine xicmp_ge hk 50 dX6_skipBlanks_8 (by decide) (fun h8 => ?_) (fun h8 => ?_)
      · refine xvret hk he dX6_skipBlanks_50 ⟨by decide, by decide⟩ ?_
        exact ⟨rfl, hy⟩
      · exact absurd hle h8
    | succ n ih =>
      intro y hn hy
      refine xaload_n hk dX6_skipBlanks_0 rfl ?_
      refine xgetI (ci := 6) (f := 5) hk dX6_skipBlanks_1 ⟨rfl, by decide, _, rfl, rfl⟩ kX6_53 ?_
      refine xaload_n hk dX6_skipBlanks_4 rfl ?_
      refine xgetNI (ci := 5) (f := 1) hk dX6_skipBlanks_5 ⟨rfl, by decide, _, rfl, rfl⟩ kX6_68 ?_
      refine xicmp_ge hk 50 dX6_skipBlanks_8 (by decide) (fun h8 => ?_) (fun h8 => ?_)
      · rw [skipL, if_pos h8] at hy
        refine xvret hk he dX6_skipBlanks_50 ⟨by decide, by decide⟩ ?_
        exact ⟨rfl, hy⟩
      · refine xaload_n hk dX6_skipBlanks_11 rfl ?_
        refine xaload_n hk dX6_skipBlanks_12 rfl ?_
        refine xgetI (ci := 6) (f := 5) hk dX6_skipBlanks_13 ⟨rfl, by decide, _, rfl, rfl⟩ kX6_53 ?_
        refine xcallV hk c_X5_at bX5_at kX6_72 dX6_skipBlanks_16 rfl ⟨_, _, _, _, rfl, rfl⟩ rfl (by decide) ⟨by decide, by decide⟩ (Nat.le_of_ble_eq_true rfl) (det ?_)
        refine xbipush (v := 32) hk dX6_skipBlanks_19 (by decide) ?_
        refine xicmp_eq hk 37 dX6_skipBlanks_21 (by decide) (fun h21 => ?_) (fun h21 => ?_)
        · rw [skipL, if_neg h8, if_pos h21] at hy
          refine xaload_n hk dX6_skipBlanks_37 rfl ?_
          refine xdup hk dX6_skipBlanks_38 rfl ?_
          refine xgetI (ci := 6) (f := 5) hk dX6_skipBlanks_39 ⟨rfl, by decide, _, rfl, rfl⟩ kX6_53 ?_
          refine xiconst (v := 1) hk dX6_skipBlanks_42 (by decide) ?_
          refine xiadd hk dX6_skipBlanks_43 ?_
          refine xputI (ci := 6) (f := 5) hk dX6_skipBlanks_44 ⟨rfl, by decide, _, rfl, rfl⟩ kX6_53 ⟨rfl, by decide +kernel⟩ ?_
          refine xgoto hk 0 dX6_skipBlanks_47 (by decide) ?_
          exact ih _ (by rw [rdI, if_neg (by decide), rdI, if_pos ⟨rfl, rfl⟩, inc1_toInt h8]; rw [nle_toInt] at h8; omega) hy
        · refine xaload_n hk dX6_skipBlanks_24 rfl ?_
          refine xaload_n hk dX6_skipBlanks_25 rfl ?_
          refine xgetI (ci := 6) (f := 5) hk dX6_skipBlanks_26 ⟨rfl, by decide, _, rfl, rfl⟩ kX6_53 ?_
          refine xcallV hk c_X5_at bX5_at kX6_72 dX6_skipBlanks_29 rfl ⟨_, _, _, _, rfl, rfl⟩ rfl (by decide) ⟨by decide, by decide⟩ (Nat.le_of_ble_eq_true rfl) (det ?_)
          refine xbipush (v := 10) hk dX6_skipBlanks_32 (by decide) ?_
          refine xicmp_ne hk 50 dX6_skipBlanks_34 (by decide) (fun h34 => ?_) (fun h34 => ?_)
          · rw [skipL, if_neg h8, if_neg h21, if_neg h34] at hy
            refine xvret hk he dX6_skipBlanks_50 ⟨by decide, by decide⟩ ?_
            exact ⟨rfl, hy⟩
          · rw [skipL, if_neg h8, if_neg h21, if_pos h34] at hy
            refine xaload_n hk dX6_skipBlanks_37 rfl ?_
            refine xdup hk dX6_skipBlanks_38 rfl ?_
            refine xgetI (ci := 6) (f := 5) hk dX6_skipBlanks_39 ⟨rfl, by decide, _, rfl, rfl⟩ kX6_53 ?_
            refine xiconst (v := 1) hk dX6_skipBlanks_42 (by decide) ?_
            refine xiadd hk dX6_skipBlanks_43 ?_
            refine xputI (ci := 6) (f := 5) hk dX6_skipBlanks_44 ⟨rfl, by decide, _, rfl, rfl⟩ kX6_53 ⟨rfl, by decide +kernel⟩ ?_
            refine xgoto hk 0 dX6_skipBlanks_47 (by decide) ?_
            exact ih _ (by rw [rdI, if_neg (by decide), rdI, if_pos ⟨rfl, rfl⟩, inc1_toInt h8]; rw [nle_toInt] at h8; omega) hy
  exact loop (leftN x) x (by unfold leftN; omega) hR
set_option maxHeartbeats 4000000 in
set_option maxRecDepth 100000 in
theorem c_X6_readNumber {g : Gx} {a : Nat → Nat} {x : XS}  : Mx g yX6_readNumber cX6_readNumber 3 (some .int) 3 0 0 LF a x [.ref (a 3), .ref (a 1)] (pr (some (.int (numU x).1)) (numU x).2) := by
  refine Mx_of (by decide +kernel) (Nat.le_of_ble_eq_true rfl) ?_
  intro k hk he hg
  subst hg

  generalize hR : numL (leftN x) x = R
  have loop : ∀ (n : Nat) (y : XS), (y.1 1 1).toInt - (y.1 3 5).toInt ≤ n → numL n y = R → Wx k 0 0 LF a y 5 [(0, .ref (a 3)), (1, .ref (a 1)), (2, .int (x.1 3 5))] [] := by
    intro n
    induction n with
    | zero =>
      intro y hn hy
      have hle : y.1 1 1 ≤ y.1 3 5 := Int32.le_iff_toInt_le.mpr (by omega)
      rw [numL] at hy
      refine xaload_n hk dX6_readNumber_5 rfl ?_
      refine xgetI (ci := 6) (f := 5) hk dX6_readNumber_6 ⟨rfl, by decide, _, rfl, rfl⟩ kX6_53 ?_
      refine xaload_n hk dX6_readNumber_9 rfl ?_
      refine xgetNI (ci := 5) (f := 1) hk dX6_readNumber_10 ⟨rfl, by decide, _, rfl, rfl⟩ kX6_68 ?_
      refine xicmp_ge hk 68 dX6_readNumber_13 (by decide) (fun h13 => ?_) (fun h13 => ?_)
      · refine xaload_n hk dX6_readNumber_68 rfl ?_
        refine xgetI (ci := 6) (f := 5) hk dX6_readNumber_69 ⟨rfl, by decide, _, rfl, rfl⟩ kX6_53 ?_
        refine xiload_n hk dX6_readNumber_72 rfl ?_
        refine xisub hk dX6_readNumber_73 ?_
        refine xbipush (v := 6) hk dX6_readNumber_74 (by decide) ?_
        refine xicmp_le hk 85 dX6_readNumber_76 (by decide) (fun h76 => ?_) (fun h76 => ?_)
        · refine xsipush (v := 259) hk dX6_readNumber_85 (by decide) ?_
          refine xiret hk he dX6_readNumber_88 ⟨by decide, by decide⟩ ?_
          subst hy
          exact ⟨by simp [numU, hR, h76], by simp [numU, hR]⟩
        · refine xsipush (v := 261) hk dX6_readNumber_79 (by decide) ?_
          refine xgoto hk 88 dX6_readNumber_82 (by decide) ?_
          refine xiret hk he dX6_readNumber_88 ⟨by decide, by decide⟩ ?_
          subst hy
          exact ⟨by simp [numU, hR, h76], by simp [numU, hR]⟩
      · exact absurd hle h13
    | succ n ih =>
      intro y hn hy
      refine xaload_n hk dX6_readNumber_5 rfl ?_
      refine xgetI (ci := 6) (f := 5) hk dX6_readNumber_6 ⟨rfl, by decide, _, rfl, rfl⟩ kX6_53 ?_
      refine xaload_n hk dX6_readNumber_9 rfl ?_
      refine xgetNI (ci := 5) (f := 1) hk dX6_readNumber_10 ⟨rfl, by decide, _, rfl, rfl⟩ kX6_68 ?_
      refine xicmp_ge hk 68 dX6_readNumber_13 (by decide) (fun h13 => ?_) (fun h13 => ?_)
      · rw [numL, if_pos h13] at hy
        subst hy
        refine xaload_n hk dX6_readNumber_68 rfl ?_
        refine xgetI (ci := 6) (f := 5) hk dX6_readNumber_69 ⟨rfl, by decide, _, rfl, rfl⟩ kX6_53 ?_
        refine xiload_n hk dX6_readNumber_72 rfl ?_
        refine xisub hk dX6_readNumber_73 ?_
        refine xbipush (v := 6) hk dX6_readNumber_74 (by decide) ?_
        refine xicmp_le hk 85 dX6_readNumber_76 (by decide) (fun h76 => ?_) (fun h76 => ?_)
        · refine xsipush (v := 259) hk dX6_readNumber_85 (by decide) ?_
          refine xiret hk he dX6_readNumber_88 ⟨by decide, by decide⟩ ?_
          exact ⟨by simp [numU, hR, h76], by simp [numU, hR]⟩
        · refine xsipush (v := 261) hk dX6_readNumber_79 (by decide) ?_
          refine xgoto hk 88 dX6_readNumber_82 (by decide) ?_
          refine xiret hk he dX6_readNumber_88 ⟨by decide, by decide⟩ ?_
          exact ⟨by simp [numU, hR, h76], by simp [numU, hR]⟩
      · refine xaload_n hk dX6_readNumber_16 rfl ?_
        refine xaload_n hk dX6_readNumber_17 rfl ?_
        refine xgetI (ci := 6) (f := 5) hk dX6_readNumber_18 ⟨rfl, by decide, _, rfl, rfl⟩ kX6_53 ?_
        refine xcallV hk c_X5_at bX5_at kX6_72 dX6_readNumber_21 rfl ⟨_, _, _, _, rfl, rfl⟩ rfl (by decide) ⟨by decide, by decide⟩ (Nat.le_of_ble_eq_true rfl) (det ?_)
        refine xcallS hk c_X6_isDigit bX6_isDigit kX6_45 dX6_readNumber_24 rfl rfl (by decide) ⟨by decide, by decide⟩ (Nat.le_of_ble_eq_true rfl) (det ?_)
        refine xif_eq hk 68 dX6_readNumber_27 (by decide) (fun h27 => ?_) (fun h27 => ?_)
        · rw [b2i_0] at h27
          rw [numL, if_neg h13, h27, if_neg Bool.false_ne_true] at hy
          subst hy
          refine xaload_n hk dX6_readNumber_68 rfl ?_
          refine xgetI (ci := 6) (f := 5) hk dX6_readNumber_69 ⟨rfl, by decide, _, rfl, rfl⟩ kX6_53 ?_
          refine xiload_n hk dX6_readNumber_72 rfl ?_
          refine xisub hk dX6_readNumber_73 ?_
          refine xbipush (v := 6) hk dX6_readNumber_74 (by decide) ?_
          refine xicmp_le hk 85 dX6_readNumber_76 (by decide) (fun h76 => ?_) (fun h76 => ?_)
          · refine xsipush (v := 259) hk dX6_readNumber_85 (by decide) ?_
            refine xiret hk he dX6_readNumber_88 ⟨by decide, by decide⟩ ?_
            exact ⟨by simp [numU, hR, h76], by simp [numU, hR]⟩
          · refine xsipush (v := 261) hk dX6_readNumber_79 (by decide) ?_
            refine xgoto hk 88 dX6_readNumber_82 (by decide) ?_
            refine xiret hk he dX6_readNumber_88 ⟨by decide, by decide⟩ ?_
            exact ⟨by simp [numU, hR, h76], by simp [numU, hR]⟩
        · rw [b2i_t] at h27
          rw [numL, if_neg h13, h27, if_pos rfl] at hy
          refine xaload_n hk dX6_readNumber_30 rfl ?_
          refine xaload_n hk dX6_readNumber_31 rfl ?_
          refine xgetL (ci := 6) (f := 6) hk dX6_readNumber_32 ⟨rfl, by decide, _, rfl, rfl⟩ kX6_60 ?_
          refine xldc2 hk (10) dX6_readNumber_35 kX6_89 ?_
          refine xlmul hk dX6_readNumber_38 ?_
          refine xaload_n hk dX6_readNumber_39 rfl ?_
          refine xaload_n hk dX6_readNumber_40 rfl ?_
          refine xgetI (ci := 6) (f := 5) hk dX6_readNumber_41 ⟨rfl, by decide, _, rfl, rfl⟩ kX6_53 ?_
          refine xcallV hk c_X5_at bX5_at kX6_72 dX6_readNumber_44 rfl ⟨_, _, _, _, rfl, rfl⟩ rfl (by decide) ⟨by decide, by decide⟩ (Nat.le_of_ble_eq_true rfl) (det ?_)
          refine xbipush (v := 48) hk dX6_readNumber_47 (by decide) ?_
          refine xisub hk dX6_readNumber_49 ?_
          refine xi2l hk dX6_readNumber_50 ?_
          refine xladd hk dX6_readNumber_51 ?_
          refine xputL (ci := 6) (f := 6) hk dX6_readNumber_52 ⟨rfl, by decide, _, rfl, rfl⟩ kX6_60 ⟨rfl, by decide +kernel⟩ ?_
          refine xaload_n hk dX6_readNumber_55 rfl ?_
          refine xdup hk dX6_readNumber_56 rfl ?_
          refine xgetI (ci := 6) (f := 5) hk dX6_readNumber_57 ⟨rfl, by decide, _, rfl, rfl⟩ kX6_53 ?_
          refine xiconst (v := 1) hk dX6_readNumber_60 (by decide) ?_
          refine xiadd hk dX6_readNumber_61 ?_
          refine xputI (ci := 6) (f := 5) hk dX6_readNumber_62 ⟨rfl, by decide, _, rfl, rfl⟩ kX6_53 ⟨rfl, by decide +kernel⟩ ?_
          refine xgoto hk 5 dX6_readNumber_65 (by decide) ?_
          exact ih _ (by rw [rdI, if_neg (by decide), rdI, if_pos ⟨rfl, rfl⟩]; simp only [setL]; rw [inc1_toInt h13]; rw [nle_toInt] at h13; omega) hy
  refine xaload_n hk dX6_readNumber_0 rfl ?_
  refine xgetI (ci := 6) (f := 5) hk dX6_readNumber_1 ⟨rfl, by decide, _, rfl, rfl⟩ kX6_53 ?_
  refine xistore_n hk dX6_readNumber_4 (by decide) ?_
  exact loop (leftN x) x (by unfold leftN; omega) hR
set_option maxHeartbeats 4000000 in
set_option maxRecDepth 100000 in
theorem c_X6_readWord {g : Gx} {a : Nat → Nat} {x : XS}  : Mx g yX6_readWord cX6_readWord 4 (some .int) 3 0 0 LF a x [.ref (a 3), .ref (a 1)] (pr (some (.int (wordU x).1)) (wordU x).2) := by
  refine Mx_of (by decide +kernel) (Nat.le_of_ble_eq_true rfl) ?_
  intro k hk he hg
  subst hg

  generalize hR : wordL (leftN x) x = R
  have kw : R.1 3 5 - x.1 3 5 ≤ 10 → ∀ (n r j : Nat) (v : Int32), r < n → v = nI j → r + j = 27 → kwL R (R.2 3 6) r j = kwL R (R.2 3 6) 27 0 → Wx k 0 0 LF a R 93 [(0, .ref (a 3)), (1, .ref (a 1)), (2, .int (x.1 3 5)), (3, .int v)] [] := by
    intro hle n
    induction n with
    | zero => intros; omega
    | succ n ih =>
      intro r j v hn hv hj hI
      subst hv
      refine xiload_n hk dX6_readWord_93 rfl ?_
      refine xaload_n hk dX6_readWord_94 rfl ?_
      refine xgetR (ci := 6) (f := 0) hk dX6_readWord_95 ⟨rfl, by decide, _, rfl, rfl⟩ kX6_15 ?_
      refine xalen (v := nI _) hk dX6_readWord_98 rfl (by decide) rfl ?_
      refine xicmp_ge hk 128 dX6_readWord_99 (by decide) (fun h99 => ?_) (fun h99 => ?_)
      · rw [nI_leI (by omega) (by omega)] at h99
        obtain rfl : r = 0 := by omega
        refine xsipush (v := 258) hk dX6_readWord_128 (by decide) ?_
        refine xiret hk he dX6_readWord_131 ⟨by decide, by decide⟩ ?_
        exact ⟨by simp only [wordU, hR, if_pos hle]; (rw [← hI] <;> rfl), by simp only [wordU, hR]⟩
      · rw [nI_leI (by omega) (by omega)] at h99
        obtain ⟨r, rfl⟩ : ∃ r2, r = r2 + 1 := ⟨r - 1, by omega⟩
        refine xaload_n hk dX6_readWord_102 rfl ?_
        refine xgetR (ci := 6) (f := 0) hk dX6_readWord_103 ⟨rfl, by decide, _, rfl, rfl⟩ kX6_15 ?_
        refine xiload_n hk dX6_readWord_106 rfl ?_
        refine xlald hk dX6_readWord_107 rfl (vp_in_nI (by omega) (by decide)) ?_
        rw [nI_clamp (by omega)]
        refine xaload_n hk dX6_readWord_108 rfl ?_
        refine xgetL (ci := 6) (f := 6) hk dX6_readWord_109 ⟨rfl, by decide, _, rfl, rfl⟩ kX6_60 ?_
        refine xlcmp hk dX6_readWord_112 ?_
        refine xif_ne hk 122 dX6_readWord_113 (by decide) (fun h113 => ?_) (fun h113 => ?_)
        · rw [lcmp_eq] at h113
          rw [kwL, if_neg h113] at hI
          refine xiinc hk dX6_readWord_122 rfl (by decide) rfl ?_
          refine xgoto hk 93 dX6_readWord_125 (by decide) ?_
          exact ih r (j + 1) _ (by omega) (nI_inc j) (by omega) hI
        · rw [lcmp_eq] at h113
          rw [kwL, if_pos h113] at hI
          refine xsipush (v := 300) hk dX6_readWord_116 (by decide) ?_
          refine xiload_n hk dX6_readWord_119 rfl ?_
          refine xiadd hk dX6_readWord_120 ?_
          refine xiret hk he dX6_readWord_121 ⟨by decide, by decide⟩ ?_
          exact ⟨by simp only [wordU, hR, if_pos hle]; (rw [← hI] <;> rfl), by simp only [wordU, hR]⟩
  have loop : ∀ (n : Nat) (y : XS), (y.1 1 1).toInt - (y.1 3 5).toInt ≤ n → wordL n y = R → Wx k 0 0 LF a y 5 [(0, .ref (a 3)), (1, .ref (a 1)), (2, .int (x.1 3 5))] [] := by
    intro n
    induction n with
    | zero =>
      intro y hn hy
      have hle : y.1 1 1 ≤ y.1 3 5 := Int32.le_iff_toInt_le.mpr (by omega)
      rw [wordL] at hy
      refine xaload_n hk dX6_readWord_5 rfl ?_
      refine xgetI (ci := 6) (f := 5) hk dX6_readWord_6 ⟨rfl, by decide, _, rfl, rfl⟩ kX6_53 ?_
      refine xaload_n hk dX6_readWord_9 rfl ?_
      refine xgetNI (ci := 5) (f := 1) hk dX6_readWord_10 ⟨rfl, by decide, _, rfl, rfl⟩ kX6_68 ?_
      refine xicmp_ge hk 76 dX6_readWord_13 (by decide) (fun h13 => ?_) (fun h13 => ?_)
      · refine xaload_n hk dX6_readWord_76 rfl ?_
        refine xgetI (ci := 6) (f := 5) hk dX6_readWord_77 ⟨rfl, by decide, _, rfl, rfl⟩ kX6_53 ?_
        refine xiload_n hk dX6_readWord_80 rfl ?_
        refine xisub hk dX6_readWord_81 ?_
        refine xbipush (v := 10) hk dX6_readWord_82 (by decide) ?_
        refine xicmp_le hk 91 dX6_readWord_84 (by decide) (fun h84 => ?_) (fun h84 => ?_)
        · subst hy
          refine xiconst (v := 0) hk dX6_readWord_91 (by decide) ?_
          refine xistore_n hk dX6_readWord_92 (by decide) ?_
          exact kw h84 28 27 0 _ (by omega) rfl (by omega) rfl
        · subst hy
          refine xsipush (v := 261) hk dX6_readWord_87 (by decide) ?_
          refine xiret hk he dX6_readWord_90 ⟨by decide, by decide⟩ ?_
          exact ⟨by simp only [wordU, hR, if_neg h84], by simp only [wordU, hR]⟩
      · exact absurd hle h13
    | succ n ih =>
      intro y hn hy
      refine xaload_n hk dX6_readWord_5 rfl ?_
      refine xgetI (ci := 6) (f := 5) hk dX6_readWord_6 ⟨rfl, by decide, _, rfl, rfl⟩ kX6_53 ?_
      refine xaload_n hk dX6_readWord_9 rfl ?_
      refine xgetNI (ci := 5) (f := 1) hk dX6_readWord_10 ⟨rfl, by decide, _, rfl, rfl⟩ kX6_68 ?_
      refine xicmp_ge hk 76 dX6_readWord_13 (by decide) (fun h13 => ?_) (fun h13 => ?_)
      · rw [wordL, if_pos h13] at hy
        subst hy
        refine xaload_n hk dX6_readWord_76 rfl ?_
        refine xgetI (ci := 6) (f := 5) hk dX6_readWord_77 ⟨rfl, by decide, _, rfl, rfl⟩ kX6_53 ?_
        refine xiload_n hk dX6_readWord_80 rfl ?_
        refine xisub hk dX6_readWord_81 ?_
        refine xbipush (v := 10) hk dX6_readWord_82 (by decide) ?_
        refine xicmp_le hk 91 dX6_readWord_84 (by decide) (fun h84 => ?_) (fun h84 => ?_)
        · refine xiconst (v := 0) hk dX6_readWord_91 (by decide) ?_
          refine xistore_n hk dX6_readWord_92 (by decide) ?_
          exact kw h84 28 27 0 _ (by omega) rfl (by omega) rfl
        · refine xsipush (v := 261) hk dX6_readWord_87 (by decide) ?_
          refine xiret hk he dX6_readWord_90 ⟨by decide, by decide⟩ ?_
          exact ⟨by simp only [wordU, hR, if_neg h84], by simp only [wordU, hR]⟩
      · refine xaload_n hk dX6_readWord_16 rfl ?_
        refine xaload_n hk dX6_readWord_17 rfl ?_
        refine xgetI (ci := 6) (f := 5) hk dX6_readWord_18 ⟨rfl, by decide, _, rfl, rfl⟩ kX6_53 ?_
        refine xcallV hk c_X5_at bX5_at kX6_72 dX6_readWord_21 rfl ⟨_, _, _, _, rfl, rfl⟩ rfl (by decide) ⟨by decide, by decide⟩ (Nat.le_of_ble_eq_true rfl) (det ?_)
        refine xcallS hk c_X6_isLetter bX6_isLetter kX6_76 dX6_readWord_24 rfl rfl (by decide) ⟨by decide, by decide⟩ (Nat.le_of_ble_eq_true rfl) (det ?_)
        refine xif_ne hk 44 dX6_readWord_27 (by decide) (fun h27 => ?_) (fun h27 => ?_)
        · rw [b2i_t] at h27
          rw [wordL, if_neg h13, h27, Bool.true_or, if_pos rfl] at hy
          refine xaload_n hk dX6_readWord_44 rfl ?_
          refine xaload_n hk dX6_readWord_45 rfl ?_
          refine xgetL (ci := 6) (f := 6) hk dX6_readWord_46 ⟨rfl, by decide, _, rfl, rfl⟩ kX6_60 ?_
          refine xaload_n hk dX6_readWord_49 rfl ?_
          refine xaload_n hk dX6_readWord_50 rfl ?_
          refine xgetI (ci := 6) (f := 5) hk dX6_readWord_51 ⟨rfl, by decide, _, rfl, rfl⟩ kX6_53 ?_
          refine xcallV hk c_X5_at bX5_at kX6_72 dX6_readWord_54 rfl ⟨_, _, _, _, rfl, rfl⟩ rfl (by decide) ⟨by decide, by decide⟩ (Nat.le_of_ble_eq_true rfl) (det ?_)
          refine xcallS hk c_X6_pack bX6_pack kX6_41 dX6_readWord_57 rfl rfl (by decide) ⟨by decide, by decide⟩ (Nat.le_of_ble_eq_true rfl) (det ?_)
          refine xputL (ci := 6) (f := 6) hk dX6_readWord_60 ⟨rfl, by decide, _, rfl, rfl⟩ kX6_60 ⟨rfl, by decide +kernel⟩ ?_
          refine xaload_n hk dX6_readWord_63 rfl ?_
          refine xdup hk dX6_readWord_64 rfl ?_
          refine xgetI (ci := 6) (f := 5) hk dX6_readWord_65 ⟨rfl, by decide, _, rfl, rfl⟩ kX6_53 ?_
          refine xiconst (v := 1) hk dX6_readWord_68 (by decide) ?_
          refine xiadd hk dX6_readWord_69 ?_
          refine xputI (ci := 6) (f := 5) hk dX6_readWord_70 ⟨rfl, by decide, _, rfl, rfl⟩ kX6_53 ⟨rfl, by decide +kernel⟩ ?_
          refine xgoto hk 5 dX6_readWord_73 (by decide) ?_
          exact ih _ (by rw [rdI, if_neg (by decide), rdI, if_pos ⟨rfl, rfl⟩]; simp only [setL]; rw [inc1_toInt h13]; rw [nle_toInt] at h13; omega) hy
        · rw [b2i_0] at h27
          refine xaload_n hk dX6_readWord_30 rfl ?_
          refine xaload_n hk dX6_readWord_31 rfl ?_
          refine xgetI (ci := 6) (f := 5) hk dX6_readWord_32 ⟨rfl, by decide, _, rfl, rfl⟩ kX6_53 ?_
          refine xcallV hk c_X5_at bX5_at kX6_72 dX6_readWord_35 rfl ⟨_, _, _, _, rfl, rfl⟩ rfl (by decide) ⟨by decide, by decide⟩ (Nat.le_of_ble_eq_true rfl) (det ?_)
          refine xcallS hk c_X6_isDigit bX6_isDigit kX6_45 dX6_readWord_38 rfl rfl (by decide) ⟨by decide, by decide⟩ (Nat.le_of_ble_eq_true rfl) (det ?_)
          refine xif_eq hk 76 dX6_readWord_41 (by decide) (fun h41 => ?_) (fun h41 => ?_)
          · rw [b2i_0] at h41
            rw [wordL, if_neg h13, h27, h41, Bool.false_or, if_neg Bool.false_ne_true] at hy
            subst hy
            refine xaload_n hk dX6_readWord_76 rfl ?_
            refine xgetI (ci := 6) (f := 5) hk dX6_readWord_77 ⟨rfl, by decide, _, rfl, rfl⟩ kX6_53 ?_
            refine xiload_n hk dX6_readWord_80 rfl ?_
            refine xisub hk dX6_readWord_81 ?_
            refine xbipush (v := 10) hk dX6_readWord_82 (by decide) ?_
            refine xicmp_le hk 91 dX6_readWord_84 (by decide) (fun h84 => ?_) (fun h84 => ?_)
            · refine xiconst (v := 0) hk dX6_readWord_91 (by decide) ?_
              refine xistore_n hk dX6_readWord_92 (by decide) ?_
              exact kw h84 28 27 0 _ (by omega) rfl (by omega) rfl
            · refine xsipush (v := 261) hk dX6_readWord_87 (by decide) ?_
              refine xiret hk he dX6_readWord_90 ⟨by decide, by decide⟩ ?_
              exact ⟨by simp only [wordU, hR, if_neg h84], by simp only [wordU, hR]⟩
          · rw [b2i_t] at h41
            rw [wordL, if_neg h13, h27, h41, Bool.or_true, if_pos rfl] at hy
            refine xaload_n hk dX6_readWord_44 rfl ?_
            refine xaload_n hk dX6_readWord_45 rfl ?_
            refine xgetL (ci := 6) (f := 6) hk dX6_readWord_46 ⟨rfl, by decide, _, rfl, rfl⟩ kX6_60 ?_
            refine xaload_n hk dX6_readWord_49 rfl ?_
            refine xaload_n hk dX6_readWord_50 rfl ?_
            refine xgetI (ci := 6) (f := 5) hk dX6_readWord_51 ⟨rfl, by decide, _, rfl, rfl⟩ kX6_53 ?_
            refine xcallV hk c_X5_at bX5_at kX6_72 dX6_readWord_54 rfl ⟨_, _, _, _, rfl, rfl⟩ rfl (by decide) ⟨by decide, by decide⟩ (Nat.le_of_ble_eq_true rfl) (det ?_)
            refine xcallS hk c_X6_pack bX6_pack kX6_41 dX6_readWord_57 rfl rfl (by decide) ⟨by decide, by decide⟩ (Nat.le_of_ble_eq_true rfl) (det ?_)
            refine xputL (ci := 6) (f := 6) hk dX6_readWord_60 ⟨rfl, by decide, _, rfl, rfl⟩ kX6_60 ⟨rfl, by decide +kernel⟩ ?_
            refine xaload_n hk dX6_readWord_63 rfl ?_
            refine xdup hk dX6_readWord_64 rfl ?_
            refine xgetI (ci := 6) (f := 5) hk dX6_readWord_65 ⟨rfl, by decide, _, rfl, rfl⟩ kX6_53 ?_
            refine xiconst (v := 1) hk dX6_readWord_68 (by decide) ?_
            refine xiadd hk dX6_readWord_69 ?_
            refine xputI (ci := 6) (f := 5) hk dX6_readWord_70 ⟨rfl, by decide, _, rfl, rfl⟩ kX6_53 ⟨rfl, by decide +kernel⟩ ?_
            refine xgoto hk 5 dX6_readWord_73 (by decide) ?_
            exact ih _ (by rw [rdI, if_neg (by decide), rdI, if_pos ⟨rfl, rfl⟩]; simp only [setL]; rw [inc1_toInt h13]; rw [nle_toInt] at h13; omega) hy
  refine xaload_n hk dX6_readWord_0 rfl ?_
  refine xgetI (ci := 6) (f := 5) hk dX6_readWord_1 ⟨rfl, by decide, _, rfl, rfl⟩ kX6_53 ?_
  refine xistore_n hk dX6_readWord_4 (by decide) ?_
  exact loop (leftN x) x (by unfold leftN; omega) hR
